/-! ===== doubt: the class's rows ===== -/
def TCt (W : Nat → Int32) (a b i j : Nat) (f e : Int) : Nat → Nat → Int
  | 0 => fun _ => 0
  | t + 1 => adT (TCt W a b i j f e t) (2 * gz W a i (t % 2) + gz W b j (t / 2)) ((if t / 2 = dz W a i then f - e else e) * (if t % 2 = dz W b j then f - e else e))
theorem TCt_s {W : Nat → Int32} {a b i j u v : Nat} {f e : Int} (hv : v < 2) : TCt W a b i j f e (2 * u + v + 1) = adT (TCt W a b i j f e (2 * u + v)) (2 * gz W a i v + gz W b j u) ((if u = dz W a i then f - e else e) * (if v = dz W b j then f - e else e)) := by
  show adT (TCt W a b i j f e (2 * u + v)) (2 * gz W a i ((2 * u + v) % 2) + gz W b j ((2 * u + v) / 2)) ((if (2 * u + v) / 2 = dz W a i then f - e else e) * (if (2 * u + v) % 2 = dz W b j then f - e else e)) = _
  rw [show (2 * u + v) / 2 = u by omega, show (2 * u + v) % 2 = v by omega]
def rowC (N : Mem) (s : Nat) (P q f : Int) (T : Nat → Int) : Prop := ∀ k, k < 4 → N.2 49 (4 * s + k) = lI ((if s = k then q * f * f else 0) - P * T k)
theorem rowC.add {N : Mem} {s to : Nat} {P q f w : Int} {T : Nat → Int} (h : rowC N s P q f T) (hto : to < 4) : rowC (mSL N 49 (4 * s + to) (N.2 49 (4 * s + to) + lI (-P * w))) s P q f (adT T to w) := fun k hk => by
  unfold adT
  by_cases c : k = to
  · rw [if_pos c, c, mL_hit, h to hto, lI_add, Int.mul_add, Int.neg_mul]
    congr 1
    omega
  · rw [if_neg c, mL_ix (by omega)]
    exact h k hk
theorem C_chance {e f : Int} {M : Mem} (hE : M.1 1 3 = iI e) (hF : M.1 1 4 = iI f) (e1 : 0 ≤ e) (e2 : e < f) (f9 : f ≤ 9) (s : Bool) : F_Pair_chanceOf (b2i s) M = some (lI (if s = true then f - e else e)) := by
  unfold F_Pair_chanceOf
  cases s with
  | true => rw [if_neg (show ¬ b2i true = 0 by decide), hE, hF, iI_sub, iI_l (by omega) (by omega), if_pos rfl]
  | false => rw [if_pos (show b2i false = 0 by decide), hE, iI_l (by omega) (by omega), if_neg (by decide)]
theorem C_fillL {W : Nat → Int32} {a b x y s : Nat} {p q f e : Int} {M : Mem} (cw : CW W M) (h2 : M.1 34 2 = iI (a : Int)) (h3 : M.1 34 3 = iI (b : Int)) (ha : (a : Int) < (W 5).toInt) (hb : (b : Int) < (W 5).toInt) (hx : x < mo W a) (hy : y < mo W b) (da : dz W a x ≤ 1) (db : dz W b y ≤ 1) (ga : ∀ v, v < 2 → gz W a x v < 2) (gb : ∀ u, u < 2 → gz W b y u < 2) (hs : s < 4) (hP : M.1 1 1 = iI p) (hE : M.1 1 3 = iI e) (hF : M.1 1 4 = iI f) (p0 : 0 ≤ p) (p9 : p ≤ 9) (e1 : 0 ≤ e) (e2 : e < f) (f9 : f ≤ 9) (hr : rowC M s p q f (fun _ => 0)) : wpO (F_Pair_fillDoubt_l125 (iI (s : Int)) (iI (x : Int)) (iI (y : Int)) (iI (dz W a x : Int)) (iI (dz W b y : Int)) 0 M) (fun N => N.1 = M.1 ∧ rowC N s p q f (TCt W a b x y f e 4) ∧ ∀ k j, ¬ (k = 49 ∧ 4 * s ≤ j ∧ j < 4 * s + 4) → N.2 k j = M.2 k j) := by
  have l2 : (2 : Int32) = iI 2 := rfl
  have step : ∀ (u v : Nat) (N : Mem), u < 2 → v < 2 → N.1 = M.1 → (∀ k j, ¬ (k = 49 ∧ 4 * s ≤ j ∧ j < 4 * s + 4) → N.2 k j = M.2 k j) → rowC N s p q f (TCt W a b x y f e (2 * u + v)) → wpO (F_Pair_fillDoubt_j153 (iI (s : Int)) (iI (x : Int)) (iI (y : Int)) (iI (dz W a x : Int)) (iI (dz W b y : Int)) (iI (u : Int)) (iI (v : Int)) (decide (u = dz W a x)) N) (fun r => ∃ N', r = .inl (iI (v : Int) + 1, N') ∧ N'.1 = M.1 ∧ (∀ k j, ¬ (k = 49 ∧ 4 * s ≤ j ∧ j < 4 * s + 4) → N'.2 k j = M.2 k j) ∧ rowC N' s p q f (TCt W a b x y f e (2 * u + v + 1))) := by
    intro u v N hu hv n1 nf nr
    have e1' : ∀ k j, N.1 k j = M.1 k j := fun k j => by rw [n1]
    have cwN : CW W N := cw.sm (S := fun k => k = 49) (fun k hk => ⟨fun j => e1' k j, fun j => nf k j (fun w => hk w.1)⟩) (fun k q => by omega)
    have tail : ∀ s2 : Bool, s2 = decide (v = dz W b y) → wpO (F_Pair_fillDoubt_j169 (iI (s : Int)) (iI (x : Int)) (iI (y : Int)) (iI (dz W a x : Int)) (iI (dz W b y : Int)) (iI (u : Int)) (iI (v : Int)) (lI (if decide (u = dz W a x) = true then f - e else e)) s2 N) (fun r => ∃ N', r = .inl (iI (v : Int) + 1, N') ∧ N'.1 = M.1 ∧ (∀ k j, ¬ (k = 49 ∧ 4 * s ≤ j ∧ j < 4 * s + 4) → N'.2 k j = M.2 k j) ∧ rowC N' s p q f (TCt W a b x y f e (2 * u + v + 1))) := by
      intro s2 hs2
      unfold F_Pair_fillDoubt_j169
      have gA := ga v hv
      have gB := gb u hu
      have eix : (4 * iI (s : Int)) + ((2 * iI (gz W a x v : Int)) + iI (gz W b y u : Int)) = iI ((4 * s + (2 * gz W a x v + gz W b y u) : Nat) : Int) := by rw [l32n_4, l32n_2, iI_pm, iI_pm, iI_pa, iI_pa]
      rw [C_chance ((e1' 1 3).trans hE) ((e1' 1 4).trans hF) e1 e2 f9, bs, e1' 34 2, h2, e1' 34 3, h3, C_nextOf cwN ha hx (by omega), bs, C_nextOf cwN hb hy (by omega), bs, eix, e1' 1 1, hP, iI_neg, iI_l (by omega) (by omega), lI_mul, lI_mul, V_Row_add (by omega) (by omega) (by decide), bs, show ((4 * s + (2 * gz W a x v + gz W b y u) : Nat) : Int).toNat = 4 * s + (2 * gz W a x v + gz W b y u) from rfl]
      refine wp_some ⟨_, rfl, n1, fun k j h => ?_, ?_⟩
      · rw [mSL_2, if_neg (fun w => h (by omega))]
        exact nf k j h
      · have r := nr.add (to := 2 * gz W a x v + gz W b y u) (w := (if decide (u = dz W a x) = true then f - e else e) * (if s2 = true then f - e else e)) (by omega)
        rw [TCt_s hv]
        have w1 : (if decide (u = dz W a x) = true then f - e else e) = (if u = dz W a x then f - e else e) := by
          by_cases c : u = dz W a x
          · rw [if_pos (decide_eq_true c), if_pos c]
          · rw [if_neg (fun w => c (of_decide_eq_true w)), if_neg c]
        have w2 : (if s2 = true then f - e else e) = (if v = dz W b y then f - e else e) := by
          rw [hs2]
          by_cases c : v = dz W b y
          · rw [if_pos (decide_eq_true c), if_pos c]
          · rw [if_neg (fun w => c (of_decide_eq_true w)), if_neg c]
        rw [w1, w2] at r ⊢
        exact r
    unfold F_Pair_fillDoubt_j153
    rw [C_chance ((e1' 1 3).trans hE) ((e1' 1 4).trans hF) e1 e2 f9, bs]
    refine wp_if (fun c => tail true ?_) (fun c => tail false ?_)
    · rw [iI_eq (by omega) (by omega) (by omega) (by omega)] at c
      rw [decide_eq_true (show v = dz W b y by omega)]
    · rw [iI_eq (by omega) (by omega) (by omega) (by omega)] at c
      rw [decide_eq_false (show ¬ v = dz W b y by omega)]
  unfold F_Pair_fillDoubt_l125
  refine wp_bind (Ψ := fun N => N.1 = M.1 ∧ rowC N s p q f (TCt W a b x y f e 4) ∧ ∀ k j, ¬ (k = 49 ∧ 4 * s ≤ j ∧ j < 4 * s + 4) → N.2 k j = M.2 k j) ?_ (fun N hN => wp_some hN)
  refine wp_iterS (P := fun (u : Nat) (z : Int32 × Mem) => z.1 = iI (u : Int) ∧ u ≤ 2 ∧ z.2.1 = M.1 ∧ (∀ k j, ¬ (k = 49 ∧ 4 * s ≤ j ∧ j < 4 * s + 4) → z.2.2 k j = M.2 k j) ∧ rowC z.2 s p q f (TCt W a b x y f e (2 * u))) 2 ?_ FUEL (0, M) ⟨rfl, by decide, rfl, fun _ _ _ => rfl, hr⟩ (FUEL_big (by decide))
  rintro u ⟨z1, N⟩ hu ⟨i1, -, n1, nf, nr⟩
  dsimp only at i1 n1 nf nr
  subst i1
  unfold F_Pair_fillDoubt_b125
  dsimp only
  rw [l2]
  refine wp_if (fun c => ?_) (fun c => ?_)
  · rw [iI_le (by omega) (by omega) (by omega) (by omega)] at c
    have eu : u = 2 := by omega
    subst eu
    exact wp_some ⟨n1, nr, nf⟩
  rw [iI_le (by omega) (by omega) (by omega) (by omega)] at c
  have hu2 : u < 2 := by omega
  unfold F_Pair_fillDoubt_l134
  refine wp_bind (Ψ := fun N => N.1 = M.1 ∧ (∀ k j, ¬ (k = 49 ∧ 4 * s ≤ j ∧ j < 4 * s + 4) → N.2 k j = M.2 k j) ∧ rowC N s p q f (TCt W a b x y f e (2 * (u + 1)))) ?_ (fun N hN => wp_some ⟨by omega, iI_succ u, by omega, hN⟩)
  refine wp_iterS (P := fun (v : Nat) (z : Int32 × Mem) => z.1 = iI (v : Int) ∧ v ≤ 2 ∧ z.2.1 = M.1 ∧ (∀ k j, ¬ (k = 49 ∧ 4 * s ≤ j ∧ j < 4 * s + 4) → z.2.2 k j = M.2 k j) ∧ rowC z.2 s p q f (TCt W a b x y f e (2 * u + v))) 2 ?_ FUEL (0, N) ⟨rfl, by decide, n1, nf, nr⟩ (FUEL_big (by decide))
  rintro v ⟨y1, O⟩ hv ⟨i1, -, o1, of', or'⟩
  dsimp only at i1 o1 of' or'
  subst i1
  unfold F_Pair_fillDoubt_b134
  dsimp only
  rw [l2]
  refine wp_if (fun c2 => ?_) (fun c2 => ?_)
  · rw [iI_le (by omega) (by omega) (by omega) (by omega)] at c2
    have ev : v = 2 := by omega
    subst ev
    exact wp_some ⟨o1, of', or'⟩
  rw [iI_le (by omega) (by omega) (by omega) (by omega)] at c2
  have hv2 : v < 2 := by omega
  have st := step u v O hu2 hv2 o1 of' or'
  have fin : wpO (F_Pair_fillDoubt_j153 (iI (s : Int)) (iI (x : Int)) (iI (y : Int)) (iI (dz W a x : Int)) (iI (dz W b y : Int)) (iI (u : Int)) (iI (v : Int)) (decide (u = dz W a x)) O) (sumP (fun z => v < 2 ∧ z.1 = iI ((v + 1 : Nat) : Int) ∧ v + 1 ≤ 2 ∧ z.2.1 = M.1 ∧ (∀ k j, ¬ (k = 49 ∧ 4 * s ≤ j ∧ j < 4 * s + 4) → z.2.2 k j = M.2 k j) ∧ rowC z.2 s p q f (TCt W a b x y f e (2 * u + (v + 1)))) (fun N => N.1 = M.1 ∧ (∀ k j, ¬ (k = 49 ∧ 4 * s ≤ j ∧ j < 4 * s + 4) → N.2 k j = M.2 k j) ∧ rowC N s p q f (TCt W a b x y f e (2 * (u + 1))))) := wp_mono st (fun r hr => by
    obtain ⟨N', rfl, g1, g2, g3⟩ := hr
    exact ⟨hv2, iI_succ v, by omega, g1, g2, g3⟩)
  refine wp_if (fun c3 => ?_) (fun c3 => ?_)
  · rw [iI_eq (by omega) (by omega) (by omega) (by omega)] at c3
    rw [decide_eq_true (show u = dz W a x by omega)] at fin
    exact fin
  · rw [iI_eq (by omega) (by omega) (by omega) (by omega)] at c3
    rw [decide_eq_false (show ¬ u = dz W a x by omega)] at fin
    exact fin
theorem C_fillDoubt {W : Nat → Int32} {a b x y s : Nat} {p q f e : Int} {M : Mem} (cw : CW W M) (h2 : M.1 34 2 = iI (a : Int)) (h3 : M.1 34 3 = iI (b : Int)) (ha : (a : Int) < (W 5).toInt) (hb : (b : Int) < (W 5).toInt) (hx : x < mo W a) (hy : y < mo W b) (da : dz W a x ≤ 1) (db : dz W b y ≤ 1) (ga : ∀ v, v < 2 → gz W a x v < 2) (gb : ∀ u, u < 2 → gz W b y u < 2) (hs : s < 4) (hP : M.1 1 1 = iI p) (hQ : M.1 1 2 = iI q) (hE : M.1 1 3 = iI e) (hF : M.1 1 4 = iI f) (p0 : 0 ≤ p) (p9 : p ≤ 9) (q0 : 0 ≤ q) (q9 : q ≤ 9) (e1 : 0 ≤ e) (e2 : e < f) (f9 : f ≤ 9) (z0 : ∀ k, k < 4 → M.2 49 (4 * s + k) = lI 0) : wpO (F_Pair_fillDoubt (iI (s : Int)) (iI (x : Int)) (iI (y : Int)) M) (fun N => N.1 = M.1 ∧ rowC N s p q f (TCt W a b x y f e 4) ∧ (∀ pe, pe < 2 → N.2 51 (2 * s + pe) = lI (q * f * f * br W (dz W a x) (dz W b y) pe)) ∧ ∀ k j, ¬ (k = 49 ∧ 4 * s ≤ j ∧ j < 4 * s + 4) → ¬ (k = 51 ∧ (j = 2 * s ∨ j = 2 * s + 1)) → N.2 k j = M.2 k j) := by
  have E5 : 5 * iI (s : Int) = iI ((5 * s : Nat) : Int) := by rw [show (5 : Int32) = iI ((5 : Nat) : Int) from rfl, iI_pm]
  have E2 : 2 * iI (s : Int) = iI ((2 * s : Nat) : Int) := by rw [l32n_2, iI_pm]
  have E21 : iI ((2 * s : Nat) : Int) + 1 = iI ((2 * s + 1 : Nat) : Int) := iI_succ _
  have b0 := cw.2.1.br (dz W a x) (dz W b y) 0 (by omega) (by omega) (by decide)
  have b1 := cw.2.1.br (dz W a x) (dz W b y) 1 (by omega) (by omega) (by decide)
  have br0 : ∀ N : Mem, CW W N → F_Well_bringsTo 0 (iI (dz W a x : Int)) (iI (dz W b y : Int)) N = some (iI (br W (dz W a x) (dz W b y) 0)) := fun N h => C_brW (p := 0) h (by omega) (by omega) (by decide)
  have br1 : ∀ N : Mem, CW W N → F_Well_bringsTo 1 (iI (dz W a x : Int)) (iI (dz W b y : Int)) N = some (iI (br W (dz W a x) (dz W b y) 1)) := fun N h => C_brW (p := 1) h (by omega) (by omega) (by decide)
  unfold F_Pair_fillDoubt
  rw [h2, C_actOf cw ha hx, bs, h3, C_actOf cw hb hy, bs, E5, hQ, hF, iI_l (a := q) (by omega) (by omega), iI_l (a := f) (by omega) (by omega), lI_mul, lI_mul, V_Row_add (by omega) (by omega) (by decide), bs, show ((5 * s : Nat) : Int).toNat = 5 * s from rfl]
  have v49 : ∀ k, k < 4 → (mSL M 49 (5 * s) (M.2 49 (5 * s) + lI (q * f * f))).2 49 (4 * s + k) = lI ((if s = k then q * f * f else 0) - p * 0) := fun k hk => by
    rw [Int.mul_zero, Int.sub_zero]
    by_cases c : s = k
    · rw [if_pos c, ← c, show 5 * s = 4 * s + s by omega, mL_hit, z0 s hs, lI_add, Int.zero_add]
    · rw [if_neg c, mL_ix (by omega)]
      exact z0 k hk
  have g1 : ∀ k j, ¬ (k = 49 ∧ 4 * s ≤ j ∧ j < 4 * s + 4) → (mSL M 49 (5 * s) (M.2 49 (5 * s) + lI (q * f * f))).2 k j = M.2 k j := fun k j h => by rw [mSL_2, if_neg (fun w => h (by omega))]
  have s1 : Same (fun k => k = 49 ∨ k = 51) M (mSL M 49 (5 * s) (M.2 49 (5 * s) + lI (q * f * f))) := Same.sL (S := fun k => k = 49 ∨ k = 51) Same.rfl' (Or.inl rfl)
  have n1 : (mSL M 49 (5 * s) (M.2 49 (5 * s) + lI (q * f * f))).1 = M.1 := rfl
  generalize mSL M 49 (5 * s) (M.2 49 (5 * s) + lI (q * f * f)) = M1 at *
  rw [br0 M1 (cw.sm s1 (fun k q => by omega)), bs, E2, iI_l (by omega) (by omega), lI_mul, V_Row_put (by omega) (by omega) (by decide), bs, show ((2 * s : Nat) : Int).toNat = 2 * s from rfl]
  have s2 : Same (fun k => k = 49 ∨ k = 51) M (mSL M1 51 (2 * s) (lI (q * f * f * br W (dz W a x) (dz W b y) 0))) := s1.sL (Or.inr rfl)
  rw [br1 _ (cw.sm s2 (fun k q => by omega)), bs, E21, iI_l (by omega) (by omega), lI_mul, V_Row_put (by omega) (by omega) (by decide), bs, show ((2 * s + 1 : Nat) : Int).toNat = 2 * s + 1 from rfl]
  have s3 : Same (fun k => k = 49 ∨ k = 51) M (mSL (mSL M1 51 (2 * s) (lI (q * f * f * br W (dz W a x) (dz W b y) 0))) 51 (2 * s + 1) (lI (q * f * f * br W (dz W a x) (dz W b y) 1))) := s2.sL (Or.inr rfl)
  have n3 : (mSL (mSL M1 51 (2 * s) (lI (q * f * f * br W (dz W a x) (dz W b y) 0))) 51 (2 * s + 1) (lI (q * f * f * br W (dz W a x) (dz W b y) 1))).1 = M.1 := n1
  have w49 : ∀ j, (mSL (mSL M1 51 (2 * s) (lI (q * f * f * br W (dz W a x) (dz W b y) 0))) 51 (2 * s + 1) (lI (q * f * f * br W (dz W a x) (dz W b y) 1))).2 49 j = M1.2 49 j := fun j => by rw [mL_cell (by decide), mL_cell (by decide)]
  have w51 : (mSL (mSL M1 51 (2 * s) (lI (q * f * f * br W (dz W a x) (dz W b y) 0))) 51 (2 * s + 1) (lI (q * f * f * br W (dz W a x) (dz W b y) 1))).2 51 (2 * s) = lI (q * f * f * br W (dz W a x) (dz W b y) 0) := by rw [mL_ix (by omega), mL_hit]
  have w511 : (mSL (mSL M1 51 (2 * s) (lI (q * f * f * br W (dz W a x) (dz W b y) 0))) 51 (2 * s + 1) (lI (q * f * f * br W (dz W a x) (dz W b y) 1))).2 51 (2 * s + 1) = lI (q * f * f * br W (dz W a x) (dz W b y) 1) := mL_hit
  have wo : ∀ k j, ¬ (k = 51 ∧ (j = 2 * s ∨ j = 2 * s + 1)) → (mSL (mSL M1 51 (2 * s) (lI (q * f * f * br W (dz W a x) (dz W b y) 0))) 51 (2 * s + 1) (lI (q * f * f * br W (dz W a x) (dz W b y) 1))).2 k j = M1.2 k j := fun k j h => by rw [mSL_2, if_neg (fun w => h (by omega)), mSL_2, if_neg (fun w => h (by omega))]
  generalize mSL (mSL M1 51 (2 * s) (lI (q * f * f * br W (dz W a x) (dz W b y) 0))) 51 (2 * s + 1) (lI (q * f * f * br W (dz W a x) (dz W b y) 1)) = M3 at *
  have e3 : ∀ k j, M3.1 k j = M.1 k j := fun k j => by rw [n3]
  refine wp_mono (C_fillL (M := M3) (cw.sm s3 (fun k q => by omega)) ((e3 34 2).trans h2) ((e3 34 3).trans h3) ha hb hx hy da db ga gb hs ((e3 1 1).trans hP) ((e3 1 3).trans hE) ((e3 1 4).trans hF) p0 p9 e1 e2 f9 (fun k hk => (w49 _).trans (v49 k hk))) (fun N hN => ?_)
  obtain ⟨k1, k2, k3⟩ := hN
  refine ⟨k1.trans n3, k2, fun pe hp => ?_, fun k j h1 h2 => ?_⟩
  · have hp2 : pe = 0 ∨ pe = 1 := by omega
    rcases hp2 with rfl | rfl
    · rw [k3 51 _ (by omega)]
      exact w51
    · rw [k3 51 _ (by omega)]
      exact w511
  · rw [k3 k j h1, wo k j h2, g1 k j h1]
/-- the class's four equations, and what their days bring -/
abbrev realP (W : Nat → Int32) (a b s : Nat) : Prop := s / 2 < mo W a ∧ s % 2 < mo W b
def CMt (W : Nat → Int32) (a b : Nat) (p q f e : Int) (s k : Nat) : Int := if realP W a b s then (if s = k then q * f * f else 0) - p * TCt W a b (s / 2) (s % 2) f e 4 k else (if s = k then 1 else 0)
def BMt (W : Nat → Int32) (a b : Nat) (q f : Int) (s pe : Nat) : Int := if realP W a b s then q * f * f * br W (dz W a (s / 2)) (dz W b (s % 2)) pe else 0
theorem CMt_t {W : Nat → Int32} {a b s k : Nat} {p q f e : Int} (h : realP W a b s) : CMt W a b p q f e s k = (if s = k then q * f * f else 0) - p * TCt W a b (s / 2) (s % 2) f e 4 k := if_pos h
theorem CMt_f {W : Nat → Int32} {a b s k : Nat} {p q f e : Int} (h : ¬ realP W a b s) : CMt W a b p q f e s k = (if s = k then 1 else 0) := if_neg h
theorem BMt_t {W : Nat → Int32} {a b s pe : Nat} {q f : Int} (h : realP W a b s) : BMt W a b q f s pe = q * f * f * br W (dz W a (s / 2)) (dz W b (s % 2)) pe := if_pos h
theorem BMt_f {W : Nat → Int32} {a b s pe : Nat} {q f : Int} (h : ¬ realP W a b s) : BMt W a b q f s pe = 0 := if_neg h
