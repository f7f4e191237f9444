/-! ===== the TAPE's text as pure functions: t j the byte j (signed), n the length ===== -/
def runT (t : Nat → Int) (lo hi : Int) : Nat → Nat → Nat
  | 0, p => p
  | f + 1, p => if lo ≤ t p ∧ t p ≤ hi then runT t lo hi f (p + 1) else p
theorem runT_ge {t : Nat → Int} {lo hi : Int} : ∀ f p, p ≤ runT t lo hi f p := by
  intro f
  induction f with
  | zero => exact fun p => Nat.le_refl p
  | succ f ih =>
    intro p
    show p ≤ if lo ≤ t p ∧ t p ≤ hi then runT t lo hi f (p + 1) else p
    by_cases c : lo ≤ t p ∧ t p ≤ hi
    · rw [if_pos c]
      have := ih (p + 1)
      omega
    · rw [if_neg c]
      omega
theorem runT_le {t : Nat → Int} {lo hi : Int} : ∀ f p, runT t lo hi f p ≤ p + f := by
  intro f
  induction f with
  | zero => exact fun p => Nat.le_refl p
  | succ f ih =>
    intro p
    show (if lo ≤ t p ∧ t p ≤ hi then runT t lo hi f (p + 1) else p) ≤ p + (f + 1)
    by_cases c : lo ≤ t p ∧ t p ≤ hi
    · rw [if_pos c]
      have := ih (p + 1)
      omega
    · rw [if_neg c]
      omega
theorem runT_stop {t : Nat → Int} {lo hi : Int} : ∀ f p, runT t lo hi f p < p + f → ¬ (lo ≤ t (runT t lo hi f p) ∧ t (runT t lo hi f p) ≤ hi) := by
  intro f
  induction f with
  | zero =>
    intro p h
    exact absurd h (Nat.lt_irrefl p)
  | succ f ih =>
    intro p
    show (if lo ≤ t p ∧ t p ≤ hi then runT t lo hi f (p + 1) else p) < p + (f + 1) → ¬ (lo ≤ t (if lo ≤ t p ∧ t p ≤ hi then runT t lo hi f (p + 1) else p) ∧ t (if lo ≤ t p ∧ t p ≤ hi then runT t lo hi f (p + 1) else p) ≤ hi)
    by_cases c : lo ≤ t p ∧ t p ≤ hi
    · rw [if_pos c]
      exact fun h => ih (p + 1) (by omega)
    · rw [if_neg c]
      exact fun _ => c
def rn (t : Nat → Int) (n : Nat) (lo hi : Int) (p : Nat) : Nat := runT t lo hi (n - p) p
theorem rn_ge {t : Nat → Int} {n : Nat} {lo hi : Int} {p : Nat} : p ≤ rn t n lo hi p := runT_ge _ _
theorem rn_le {t : Nat → Int} {n : Nat} {lo hi : Int} {p : Nat} (h : p ≤ n) : rn t n lo hi p ≤ n := by
  have := runT_le (t := t) (lo := lo) (hi := hi) (n - p) p
  unfold rn
  omega
theorem rn_stop {t : Nat → Int} {n : Nat} {lo hi : Int} {p : Nat} (h : rn t n lo hi p < n) : ¬ (lo ≤ t (rn t n lo hi p) ∧ t (rn t n lo hi p) ≤ hi) := by
  have h2 := rn_ge (t := t) (n := n) (lo := lo) (hi := hi) (p := p)
  exact runT_stop (n - p) p (by unfold rn at h h2; omega)
theorem rn_end {t : Nat → Int} {n : Nat} {lo hi : Int} {p : Nat} (h : n ≤ p) : rn t n lo hi p = p := by
  unfold rn
  rw [show n - p = 0 by omega]
  rfl
theorem rn_in {t : Nat → Int} {n : Nat} {lo hi : Int} {p : Nat} (h : p < n) (c : lo ≤ t p ∧ t p ≤ hi) : rn t n lo hi p = rn t n lo hi (p + 1) := by
  unfold rn
  rw [show n - p = (n - (p + 1)) + 1 by omega]
  show (if lo ≤ t p ∧ t p ≤ hi then runT t lo hi (n - (p + 1)) (p + 1) else p) = _
  rw [if_pos c]
theorem rn_no {t : Nat → Int} {n : Nat} {lo hi : Int} {p : Nat} (c : ¬ (lo ≤ t p ∧ t p ≤ hi)) : rn t n lo hi p = p := by
  unfold rn
  cases n - p with
  | zero => rfl
  | succ f =>
    show (if lo ≤ t p ∧ t p ≤ hi then runT t lo hi f (p + 1) else p) = _
    rw [if_neg c]
theorem rn_rn {t : Nat → Int} {n : Nat} {lo hi : Int} {p : Nat} : rn t n lo hi (rn t n lo hi p) = rn t n lo hi p := by
  rcases Nat.lt_or_ge (rn t n lo hi p) n with h | h
  · exact rn_no (rn_stop h)
  · exact rn_end h
theorem rn_in2 {t : Nat → Int} {n : Nat} {lo hi : Int} : ∀ f p i, p + f = rn t n lo hi p → i < f → lo ≤ t (p + i) ∧ t (p + i) ≤ hi := by
  intro f
  induction f with
  | zero => exact fun p i _ h => absurd h (Nat.not_lt_zero _)
  | succ f ih =>
    intro p i e h
    have c : lo ≤ t p ∧ t p ≤ hi := Decidable.byContradiction fun c => by
      rw [rn_no c] at e
      omega
    cases i with
    | zero => exact c
    | succ i =>
      have hpn : p < n := Decidable.byContradiction fun q => by
        rw [rn_end (by omega)] at e
        omega
      rw [rn_in hpn c] at e
      have := ih (p + 1) i (by omega) (by omega)
      rw [show p + (i + 1) = p + 1 + i by omega]
      exact this
/-- behind the blanks -/
def sk (t : Nat → Int) (n p : Nat) : Nat := rn t n 32 32 p
theorem sk_sk {t : Nat → Int} {n p : Nat} : sk t n (sk t n p) = sk t n p := rn_rn
theorem sk_ge {t : Nat → Int} {n p : Nat} : p ≤ sk t n p := rn_ge
theorem sk_le {t : Nat → Int} {n p : Nat} (h : p ≤ n) : sk t n p ≤ n := rn_le h
theorem sk_end {t : Nat → Int} {n p : Nat} (h : n ≤ p) : sk t n p = p := rn_end h
theorem sk_nb {t : Nat → Int} {n p : Nat} (h : sk t n p < n) : t (sk t n p) ≠ 32 := by
  have := rn_stop h
  intro q
  exact this ⟨by show (32 : Int) ≤ t (sk t n p); omega, by show t (sk t n p) ≤ 32; omega⟩
def wl (w : Nat) : Nat := strL.getD w 0
def wd (t : Nat → Int) (n w p : Nat) : Bool := decide (rn t n 97 122 (sk t n p) - sk t n p = wl w ∧ ∀ i, i < wl w → iI (t (sk t n p + i)) = strC w i)
def fg (t : Nat → Int) (n p : Nat) : Int := if sk t n p < n ∧ 48 ≤ t (sk t n p) ∧ t (sk t n p) ≤ 50 ∧ rn t n 48 57 (sk t n p) = sk t n p + 1 then t (sk t n p) - 48 else -1
def sgT (t : Nat → Int) (n : Nat) (c : Int) (p : Nat) : Bool := decide (sk t n p < n ∧ t (sk t n p) = c)
theorem fg_b {t : Nat → Int} {n p : Nat} : fg t n p = -1 ∨ (0 ≤ fg t n p ∧ fg t n p ≤ 2) := by
  unfold fg
  by_cases c : sk t n p < n ∧ 48 ≤ t (sk t n p) ∧ t (sk t n p) ≤ 50 ∧ rn t n 48 57 (sk t n p) = sk t n p + 1
  · rw [if_pos c]
    omega
  · rw [if_neg c]
    exact Or.inl rfl
theorem wd_sk {t : Nat → Int} {n w p : Nat} : wd t n w (sk t n p) = wd t n w p := by
  unfold wd
  rw [sk_sk]
theorem fg_sk {t : Nat → Int} {n p : Nat} : fg t n (sk t n p) = fg t n p := by
  unfold fg
  rw [sk_sk]
theorem sgT_sk {t : Nat → Int} {n : Nat} {c : Int} {p : Nat} : sgT t n c (sk t n p) = sgT t n c p := by
  unfold sgT
  rw [sk_sk]
theorem wl_pos {w : Nat} (h : w < 3) : 0 < wl w ∧ wl w < 5 := by
  have h3 : w = 0 ∨ w = 1 ∨ w = 2 := by omega
  rcases h3 with rfl | rfl | rfl <;> decide
/-- a word: letters stand there -/
theorem wd_in {t : Nat → Int} {n w p : Nat} (hw : w < 3) (h : wd t n w p = true) : sk t n p < n ∧ 97 ≤ t (sk t n p) ∧ t (sk t n p) ≤ 122 := by
  have h1 := (of_decide_eq_true h).1
  have h2 := wl_pos hw
  have c : 97 ≤ t (sk t n p) ∧ t (sk t n p) ≤ 122 := Decidable.byContradiction fun c => by
    rw [rn_no c] at h1
    omega
  refine ⟨Decidable.byContradiction fun q => ?_, c⟩
  rw [rn_end (by omega)] at h1
  omega
/-- the class's thing behind a place: its kind, where it ends, its number -/
def kd (t : Nat → Int) (n p : Nat) : Int := if n ≤ sk t n p then 0 else if 97 ≤ t (sk t n p) ∧ t (sk t n p) ≤ 122 then 1 else if 48 ≤ t (sk t n p) ∧ t (sk t n p) ≤ 57 then 2 else 3
def af (t : Nat → Int) (n p : Nat) : Nat := if n ≤ sk t n p then sk t n p else if 97 ≤ t (sk t n p) ∧ t (sk t n p) ≤ 122 then rn t n 97 122 (sk t n p) else if 48 ≤ t (sk t n p) ∧ t (sk t n p) ≤ 57 then rn t n 48 57 (sk t n p) else sk t n p + 1
def vl (t : Nat → Int) (n p : Nat) : Int := if n ≤ sk t n p then -1 else if 97 ≤ t (sk t n p) ∧ t (sk t n p) ≤ 122 then -1 else if 48 ≤ t (sk t n p) ∧ t (sk t n p) ≤ 57 then (if rn t n 48 57 (sk t n p) = sk t n p + 1 ∧ t (sk t n p) ≤ 50 then t (sk t n p) - 48 else -1) else t (sk t n p) % 256
/-- seen, number, where the number stands, the place behind -/
def pS1 (t : Nat → Int) (n p : Nat) : Nat := if wd t n 1 p = true then rn t n 97 122 (sk t n p) else rn t n 48 57 (sk t n p)
def pS2 (t : Nat → Int) (n p : Nat) : Nat := rn t n 97 122 (sk t n (pS1 t n p))
def pSeen (t : Nat → Int) (n p : Nat) : Nat ⊕ (Int × Int × Nat × Nat) :=
  if wd t n 1 p = false ∧ fg t n p = -1 then .inl (sk t n p)
  else if wd t n 2 (pS1 t n p) = false then .inl (sk t n (pS1 t n p))
  else if fg t n (pS2 t n p) = -1 then .inl (sk t n (pS2 t n p))
  else .inr (if wd t n 1 p = true then -1 else fg t n p, fg t n (pS2 t n p), sk t n (pS2 t n p), rn t n 48 57 (sk t n (pS2 t n p)))
abbrev GoT : Type := Nat → Nat → Int
abbrev NaT : Type := List (Int × Nat)
def upG (g : GoT) (m : Nat) (seen to : Int) : GoT := fun m2 s => if m2 = m ∧ (seen = -1 ∨ (s : Int) = seen) then to else g m2 s
def upA (a : Nat → Int) (m : Nat) (v : Int) : Nat → Int := fun m2 => if m2 = m then v else a m2
def pCom (t : Nat → Int) (n m : Nat) : Nat → Nat → GoT → NaT → Nat ⊕ (Nat × GoT × NaT)
  | 0, p, g, L => .inr (sk t n p, g, L)
  | f + 1, p, g, L => if sgT t n 44 p = true then (match pSeen t n (sk t n p + 1) with
      | .inl e => .inl e
      | .inr x => pCom t n m f x.2.2.2 (upG g m x.1 x.2.1) (L ++ [(x.2.1, x.2.2.1)])) else .inr (sk t n p, g, L)
def pMood (t : Nat → Int) (n m p : Nat) (a : Nat → Int) (g : GoT) (L : NaT) : Nat ⊕ (Nat × (Nat → Int) × GoT × NaT) :=
  if m = 3 ∨ wd t n 0 p = false then .inl (sk t n p)
  else if fg t n (rn t n 97 122 (sk t n p)) = -1 then .inl (sk t n (rn t n 97 122 (sk t n p)))
  else match pCom t n m 400 (rn t n 48 57 (sk t n (rn t n 97 122 (sk t n p)))) (upG g m (-1) m) L with
    | .inl e => .inl e
    | .inr x => .inr (x.1, upA a m (fg t n (rn t n 97 122 (sk t n p))), x.2.1, x.2.2)
def pMs (t : Nat → Int) (n : Nat) : Nat → Nat → Nat → (Nat → Int) → GoT → NaT → Nat ⊕ (Nat × (Nat → Int) × GoT × NaT)
  | 0, _, p, _, _, _ => .inl p
  | f + 1, m, p, a, g, L => match pMood t n m p a g L with
    | .inl e => .inl e
    | .inr x => if n ≤ sk t n x.1 then .inr (m + 1, x.2.1, x.2.2.1, x.2.2.2) else if t (sk t n x.1) = 59 then pMs t n f (m + 1) (sk t n x.1 + 1) x.2.1 x.2.2.1 x.2.2.2 else .inl (sk t n x.1)
/-- the first one named that is none -/
def stray (L : NaT) (m : Nat) : Int := match L.find? (fun q => decide ((m : Int) ≤ q.1)) with
  | some q => (q.2 : Int)
  | none => -1
def fs (L : NaT) (v : Int) : Int := match L.find? (fun q => decide (q.1 = v)) with
  | some q => (q.2 : Int)
  | none => -1
theorem fs_nil (v : Int) : fs [] v = -1 := rfl
theorem fs_cons (q : Int × Nat) (L : NaT) (v : Int) : fs (q :: L) v = if q.1 = v then (q.2 : Int) else fs L v := by
  unfold fs
  rw [List.find?_cons]
  by_cases c : q.1 = v
  · rw [decide_eq_true c, if_pos c]
  · rw [decide_eq_false c, if_neg c]
theorem stray_cons (q : Int × Nat) (L : NaT) (m : Nat) : stray (q :: L) m = if (m : Int) ≤ q.1 then (q.2 : Int) else stray L m := by
  unfold stray
  rw [List.find?_cons]
  by_cases c : (m : Int) ≤ q.1
  · rw [decide_eq_true c, if_pos c]
  · rw [decide_eq_false c, if_neg c]
theorem fs_b : ∀ (L : NaT) (v : Int), (∀ q, q ∈ L → q.2 ≤ 400) → -1 ≤ fs L v ∧ fs L v ≤ 400 := by
  intro L v
  induction L with
  | nil => exact fun _ => by rw [fs_nil]; omega
  | cons q L ih =>
    intro h
    rw [fs_cons]
    by_cases c : q.1 = v
    · rw [if_pos c]
      have := h q (List.mem_cons_self ..)
      omega
    · rw [if_neg c]
      exact ih (fun x hx => h x (List.mem_cons_of_mem _ hx))
theorem fs_app : ∀ (L : NaT) (to v : Int) (b : Nat), fs (L ++ [(to, b)]) v = if fs L v = -1 then (if to = v then (b : Int) else -1) else fs L v := by
  intro L to v b
  induction L with
  | nil => rw [List.nil_append, fs_cons, fs_nil, if_pos rfl]
  | cons q L ih =>
    rw [List.cons_append, fs_cons, fs_cons]
    by_cases c : q.1 = v
    · rw [if_pos c, if_pos c, if_neg (by omega)]
    · rw [if_neg c, if_neg c, ih]
/-- places that rise -/
def upL (L : NaT) : Prop := L.Pairwise (fun x y => x.2 < y.2)
theorem upL_app {L : NaT} {to : Int} {b : Nat} (h : upL L) (hb : ∀ q, q ∈ L → q.2 < b) : upL (L ++ [(to, b)]) := by
  unfold upL
  rw [List.pairwise_append]
  refine ⟨h, List.pairwise_singleton _ _, fun x hx y hy => ?_⟩
  rw [List.mem_singleton] at hy
  rw [hy]
  exact hb x hx
/-- the least of the first places of those that are none: the first stray one -/
def isSt (L : NaT) (m : Nat) (x : Int) : Prop := (x = -1 → ∀ v : Nat, m ≤ v → fs L v = -1) ∧ (x ≠ -1 → ∃ v : Nat, m ≤ v ∧ v < 3 ∧ fs L v = x) ∧ ∀ v : Nat, m ≤ v → fs L v ≠ -1 → x ≠ -1 ∧ x ≤ fs L v
theorem fs_lo : ∀ (L : NaT) (v : Int) (k : Nat), (∀ q, q ∈ L → k < q.2) → fs L v = -1 ∨ (k : Int) < fs L v := by
  intro L v k
  induction L with
  | nil => exact fun _ => Or.inl rfl
  | cons q L ih =>
    intro h
    rw [fs_cons]
    by_cases c : q.1 = v
    · rw [if_pos c]
      have := h q (List.mem_cons_self ..)
      omega
    · rw [if_neg c]
      exact ih (fun x hx => h x (List.mem_cons_of_mem _ hx))
theorem stray_ok : ∀ (L : NaT) (m : Nat), upL L → (∀ q, q ∈ L → 0 ≤ q.1 ∧ q.1 ≤ 2) → isSt L m (stray L m) := by
  intro L m
  induction L with
  | nil => exact fun _ _ => ⟨fun _ _ _ => rfl, fun q => absurd rfl q, fun v _ q => absurd rfl q⟩
  | cons q L ih =>
    intro hu hv
    unfold upL at hu
    rw [List.pairwise_cons] at hu
    obtain ⟨u1, u2⟩ := hu
    obtain ⟨i1, i2, i3⟩ := ih u2 (fun x hx => hv x (List.mem_cons_of_mem _ hx))
    have hq := hv q (List.mem_cons_self ..)
    rw [stray_cons]
    by_cases c : (m : Int) ≤ q.1
    · rw [if_pos c]
      refine ⟨fun h => absurd h (by omega), fun _ => ⟨q.1.toNat, by omega, by omega, ?_⟩, fun v hmv hne => ⟨by omega, ?_⟩⟩
      · rw [fs_cons, if_pos (by omega)]
      · rw [fs_cons] at hne ⊢
        by_cases c2 : q.1 = v
        · rw [if_pos c2]
          omega
        · rw [if_neg c2] at hne ⊢
          have := fs_lo L v q.2 u1
          omega
    · rw [if_neg c]
      have e : ∀ v : Nat, m ≤ v → fs (q :: L) v = fs L v := fun v h => by rw [fs_cons, if_neg (by omega)]
      refine ⟨fun h v hmv => ?_, fun h => ?_, fun v hmv hne => ?_⟩
      · rw [e v hmv]
        exact i1 h v hmv
      · obtain ⟨v, a, b, d⟩ := i2 h
        exact ⟨v, a, b, by rw [e v a]; exact d⟩
      · rw [e v hmv] at hne ⊢
        exact i3 v hmv hne
theorem isSt_one {L : NaT} {m : Nat} {x y : Int} (h : isSt L m x) (h2 : isSt L m y) : x = y := by
  obtain ⟨a1, a2, a3⟩ := h
  obtain ⟨b1, b2, b3⟩ := h2
  by_cases cx : x = -1
  · by_cases cy : y = -1
    · rw [cx, cy]
    · obtain ⟨v, v1, -, v3⟩ := b2 cy
      have := a1 cx v v1
      omega
  · obtain ⟨v, v1, -, v3⟩ := a2 cx
    obtain ⟨y1, y2⟩ := b3 v v1 (by omega)
    obtain ⟨w, w1, -, w3⟩ := b2 y1
    obtain ⟨z1, z2⟩ := a3 w w1 (by omega)
    omega
