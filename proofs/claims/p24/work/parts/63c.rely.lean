/-! the calls that tell nothing -/
theorem Y_fault {M : Mem} (h : RY M) : wpO (F_KW_fault M) (fun _ => wpO (F_MO_fault M) (fun r2 => RY r2.2)) := by
  refine wp2 (B := fun _ O => RelY O.2) (G_fault h.1) (fun a b e e2 => ?_) (fun a b p q => ⟨p, q⟩)
  exact h.rd (Same.rfl' (S := fun _ => False)) (Q_MO_fault M b e2) (fun k q => by first | omega | exact q.elim | (dsimp only at q; omega)) (fun k j q => by first | omega | (dsimp only at q; omega))
theorem Y_once {M : Mem} (h : RY M) : wpO (F_KW_once M) (fun _ => wpO (F_MO_once M) (fun r2 => RY r2.2)) := by
  refine wp2 (B := fun _ O => RelY O.2) (G_once h.1) (fun a b e e2 => ?_) (fun a b p q => ⟨p, q⟩)
  exact h.rd (Same.rfl' (S := fun _ => False)) (Q_MO_once M b e2) (fun k q => by first | omega | exact q.elim | (dsimp only at q; omega)) (fun k j q => by first | omega | (dsimp only at q; omega))
theorem Y_mood {x1 x2 x3 : Int32} {M : Mem} (h : RY M) : wpO (F_LAW_mood x1 x2 x3 M) (fun r1 => wpO (F_MO_mood x1 x2 x3 r1.2) (fun r2 => RY r2.2)) := by
  refine wp2 (B := fun _ O => RelY O.2) (G_mood h.1) (fun a b e e2 => ?_) (fun a b p q => ⟨p, q⟩)
  exact h.rd (wpO_of (T_LAW_mood x1 x2 x3 M) e) (Q_MO_mood x1 x2 x3 a.2 b e2) (fun k q => by first | omega | exact q.elim | (dsimp only at q; omega)) (fun k j q => by first | omega | (dsimp only at q; omega))
theorem Y_worth {x1 x2 x3 x4 x5 x6 : Int32} {M : Mem} (h : RY M) : wpO (F_LAW_worth x1 x2 x3 x4 x5 x6 M) (fun r1 => wpO (F_MO_worth x1 x2 x3 x4 x5 x6 r1.2) (fun r2 => RY r2.2)) := by
  refine wp2 (B := fun _ O => RelY O.2) (G_worth h.1) (fun a b e e2 => ?_) (fun a b p q => ⟨p, q⟩)
  exact h.rd (wpO_of (T_LAW_worth x1 x2 x3 x4 x5 x6 M) e) (Q_MO_worth x1 x2 x3 x4 x5 x6 a.2 b e2) (fun k q => by first | omega | exact q.elim | (dsimp only at q; omega)) (fun k j q => by first | omega | (dsimp only at q; omega))
theorem Y_hold {x1 x2 : Int32} {M : Mem} (h : RY M) : wpO (F_LAW_hold x1 x2 M) (fun r1 => wpO (F_MO_hold x1 x2 r1.2) (fun r2 => RY r2.2)) := by
  refine wp2 (B := fun _ O => RelY O.2) (G_hold h.1) (fun a b e e2 => ?_) (fun a b p q => ⟨p, q⟩)
  exact h.rd (wpO_of (T_LAW_hold x1 x2 M) e) (Q_MO_hold x1 x2 a.2 b e2) (fun k q => by first | omega | exact q.elim | (dsimp only at q; omega)) (fun k j q => by first | omega | (dsimp only at q; omega))
theorem Y_first {x1 x2 : Int32} {M : Mem} (h : RY M) : wpO (F_LAW_first x1 x2 M) (fun r1 => wpO (F_MO_first x1 x2 r1.2) (fun r2 => RY r2.2)) := by
  refine wp2 (B := fun _ O => RelY O.2) (G_first h.1) (fun a b e e2 => ?_) (fun a b p q => ⟨p, q⟩)
  exact h.rd (wpO_of (T_LAW_first x1 x2 M) e) (Q_MO_first x1 x2 a.2 b e2) (fun k q => by first | omega | exact q.elim | (dsimp only at q; omega)) (fun k j q => by first | omega | (dsimp only at q; omega))
theorem Y_best {x1 x2 x3 : Int32} {M : Mem} (h : RY M) : wpO (F_LAW_best x1 x2 x3 M) (fun r1 => wpO (F_MO_best x1 x2 x3 r1.2) (fun r2 => RY r2.2)) := by
  refine wp2 (B := fun _ O => RelY O.2) (G_best h.1) (fun a b e e2 => ?_) (fun a b p q => ⟨p, q⟩)
  exact h.rd (wpO_of (T_LAW_best x1 x2 x3 M) e) (Q_MO_best x1 x2 x3 a.2 b e2) (fun k q => by first | omega | exact q.elim | (dsimp only at q; omega)) (fun k j q => by first | omega | (dsimp only at q; omega))
theorem Y_answer {x1 x2 x3 x4 : Int32} {M : Mem} (h : RY M) : wpO (F_LAW_answer x1 x2 x3 x4 M) (fun r1 => wpO (F_MO_answer x1 x2 x3 x4 r1.2) (fun r2 => RY r2.2)) := by
  refine wp2 (B := fun _ O => RelY O.2) (G_answer h.1) (fun a b e e2 => ?_) (fun a b p q => ⟨p, q⟩)
  exact h.rd (wpO_of (T_LAW_answer x1 x2 x3 x4 M) e) (Q_MO_answer x1 x2 x3 x4 a.2 b e2) (fun k q => by first | omega | exact q.elim | (dsimp only at q; omega)) (fun k j q => by first | omega | (dsimp only at q; omega))
theorem Y_least {x1 x2 : Int32} {M : Mem} (h : RY M) : wpO (F_LAW_least x1 x2 M) (fun r1 => wpO (F_MO_least x1 x2 r1.2) (fun r2 => RY r2.2)) := by
  refine wp2 (B := fun _ O => RelY O.2) (G_least h.1) (fun a b e e2 => ?_) (fun a b p q => ⟨p, q⟩)
  exact h.rd (wpO_of (T_LAW_least x1 x2 M) e) (Q_MO_least x1 x2 a.2 b e2) (fun k q => by first | omega | exact q.elim | (dsimp only at q; omega)) (fun k j q => by first | omega | (dsimp only at q; omega))
theorem Y_lots {x1 x2 : Int32} {M : Mem} (h : RY M) : wpO (F_LAW_lots x1 x2 M) (fun r1 => wpO (F_MO_lots x1 x2 r1.2) (fun r2 => RY r2.2)) := by
  refine wp2 (B := fun _ O => RelY O.2) (G_lots h.1) (fun a b e e2 => ?_) (fun a b p q => ⟨p, q⟩)
  exact h.rd (wpO_of (T_LAW_lots x1 x2 M) e) (Q_MO_lots x1 x2 a.2 b e2) (fun k q => by first | omega | exact q.elim | (dsimp only at q; omega)) (fun k j q => by first | omega | (dsimp only at q; omega))
theorem Y_corner {x1 x2 : Int32} {M : Mem} (h : RY M) : wpO (F_KW_corner x1 x2 M) (fun r1 => wpO (F_MO_corner x1 x2 r1.2) (fun r2 => RY r2.2)) := by
  refine wp2 (B := fun _ O => RelY O.2) (G_corner h.1) (fun a b e e2 => ?_) (fun a b p q => ⟨p, q⟩)
  exact h.rd (wpO_of (T_KW_corner x1 x2 M) e) (Q_MO_corner x1 x2 a.2 b e2) (fun k q => by first | omega | exact q.elim | (dsimp only at q; omega)) (fun k j q => by first | omega | (dsimp only at q; omega))
theorem Y_in {x1 x2 x3 x4 : Int32} {M : Mem} (h : RY M) : wpO (F_LAW_in x1 x2 x3 x4 M) (fun r1 => wpO (F_MO_in x1 x2 x3 x4 r1.2) (fun r2 => RY r2.2)) := by
  refine wp2 (B := fun _ O => RelY O.2) (G_in h.1) (fun a b e e2 => ?_) (fun a b p q => ⟨p, q⟩)
  exact h.rd (wpO_of (T_LAW_in x1 x2 x3 x4 M) e) (Q_MO_in x1 x2 x3 x4 a.2 b e2) (fun k q => by first | omega | exact q.elim | (dsimp only at q; omega)) (fun k j q => by first | omega | (dsimp only at q; omega))
theorem Y_mild {x1 x2 x3 x4 : Int32} {M : Mem} (h : RY M) : wpO (F_LAW_mild x1 x2 x3 x4 M) (fun r1 => wpO (F_MO_mild x1 x2 x3 x4 r1.2) (fun r2 => RY r2.2)) := by
  refine wp2 (B := fun _ O => RelY O.2) (G_mild h.1) (fun a b e e2 => ?_) (fun a b p q => ⟨p, q⟩)
  exact h.rd (wpO_of (T_LAW_mild x1 x2 x3 x4 M) e) (Q_MO_mild x1 x2 x3 x4 a.2 b e2) (fun k q => by first | omega | exact q.elim | (dsimp only at q; omega)) (fun k j q => by first | omega | (dsimp only at q; omega))
theorem Y_edge {x1 x2 x3 : Int32} {M : Mem} (h : RY M) : wpO (F_LAW_edge x1 x2 x3 M) (fun r1 => wpO (F_MO_edge x1 x2 x3 r1.2) (fun r2 => RY r2.2)) := by
  refine wp2 (B := fun _ O => RelY O.2) (G_edge h.1) (fun a b e e2 => ?_) (fun a b p q => ⟨p, q⟩)
  exact h.rd (wpO_of (T_LAW_edge x1 x2 x3 M) e) (Q_MO_edge x1 x2 x3 a.2 b e2) (fun k q => by first | omega | exact q.elim | (dsimp only at q; omega)) (fun k j q => by first | omega | (dsimp only at q; omega))
theorem Y_together {M : Mem} (h : RY M) : wpO (F_KW_together M) (fun r1 => wpO (F_MO_together r1.2) (fun r2 => RY r2.2)) := by
  refine wp2 (B := fun _ O => RelY O.2) (G_together h.1) (fun a b e e2 => ?_) (fun a b p q => ⟨p, q⟩)
  exact h.rd (wpO_of (T_KW_together M) e) (Q_MO_together a.2 b e2) (fun k q => by first | omega | exact q.elim | (dsimp only at q; omega)) (fun k j q => by first | omega | (dsimp only at q; omega))
theorem Y_doubt {x1 x2 x3 x4 x5 : Int32} {M : Mem} (h : RY M) : wpO (F_LAW_doubt x1 x2 x3 x4 x5 M) (fun r1 => wpO (F_MO_doubt x1 x2 x3 x4 x5 r1.2) (fun r2 => RY r2.2)) := by
  refine wp2 (B := fun _ O => RelY O.2) (G_doubt h.1) (fun a b e e2 => ?_) (fun a b p q => ⟨p, q⟩)
  exact h.rd (wpO_of (T_LAW_doubt x1 x2 x3 x4 x5 M) e) (Q_MO_doubt x1 x2 x3 x4 x5 a.2 b e2) (fun k q => by first | omega | exact q.elim | (dsimp only at q; omega)) (fun k j q => by first | omega | (dsimp only at q; omega))
theorem Y_judge {x1 x2 : Int32} {M : Mem} (h : RY M) : wpO (F_LAW_judge x1 x2 M) (fun r1 => wpO (F_MO_judge x1 x2 r1.2) (fun r2 => RY r2.2)) := by
  refine wp2 (B := fun _ O => RelY O.2) (G_judge h.1) (fun a b e e2 => ?_) (fun a b p q => ⟨p, q⟩)
  exact h.rd (wpO_of (T_LAW_judge x1 x2 M) e) (Q_MO_judge x1 x2 a.2 b e2) (fun k q => by first | omega | exact q.elim | (dsimp only at q; omega)) (fun k j q => by first | omega | (dsimp only at q; omega))
theorem Y_brought {x1 : Int32} {M : Mem} (h : RY M) : wpO (F_LAW_brought x1 M) (fun r1 => wpO (F_MO_brought x1 r1.2) (fun r2 => RY r2.2)) := by
  refine wp2 (B := fun _ O => RelY O.2) (G_brought h.1) (fun a b e e2 => ?_) (fun a b p q => ⟨p, q⟩)
  exact h.rd (wpO_of (T_LAW_brought x1 M) e) (Q_MO_brought x1 a.2 b e2) (fun k q => by first | omega | exact q.elim | (dsimp only at q; omega)) (fun k j q => by first | omega | (dsimp only at q; omega))
theorem Y_drawn {x1 x2 x3 x4 x5 : Int32} {M : Mem} (h : RY M) : wpO (F_LAW_drawn x1 x2 x3 x4 x5 M) (fun r1 => wpO (F_MO_drawn x1 x2 x3 x4 x5 r1.2) (fun r2 => RY r2.2)) := by
  refine wp2 (B := fun _ O => RelY O.2) (G_drawn h.1) (fun a b e e2 => ?_) (fun a b p q => ⟨p, q⟩)
  exact h.rd (wpO_of (T_LAW_drawn x1 x2 x3 x4 x5 M) e) (Q_MO_drawn x1 x2 x3 x4 x5 a.2 b e2) (fun k q => by first | omega | exact q.elim | (dsimp only at q; omega)) (fun k j q => by first | omega | (dsimp only at q; omega))
theorem Y_meet {x1 x2 : Int32} {M : Mem} (h : RY M) : wpO (F_LAW_meet x1 x2 M) (fun r1 => wpO (F_MO_meet x1 x2 r1.2) (fun r2 => RY r2.2)) := by
  refine wp2 (B := fun _ O => RelY O.2) (G_meet h.1) (fun a b e e2 => ?_) (fun a b p q => ⟨p, q⟩)
  exact h.rd (wpO_of (T_LAW_meet x1 x2 M) e) (Q_MO_meet x1 x2 a.2 b e2) (fun k q => by first | omega | exact q.elim | (dsimp only at q; omega)) (fun k j q => by first | omega | (dsimp only at q; omega))
theorem Y_beings {x1 : Int32} {M : Mem} (h : RY M) : wpO (F_LAW_beings x1 M) (fun r1 => wpO (F_MO_beings x1 r1.2) (fun r2 => RY r2.2)) := by
  refine wp2 (B := fun _ O => RelY O.2) (G_beings h.1) (fun a b e e2 => ?_) (fun a b p q => ⟨p, q⟩)
  exact h.rd (wpO_of (T_LAW_beings x1 M) e) (Q_MO_beings x1 a.2 b e2) (fun k q => by first | omega | exact q.elim | (dsimp only at q; omega)) (fun k j q => by first | omega | (dsimp only at q; omega))
theorem Y_stays {x1 : Int32} {M : Mem} (h : RY M) : wpO (F_LAW_stays x1 M) (fun r1 => wpO (F_MO_stays x1 r1.2) (fun r2 => RY r2.2)) := by
  refine wp2 (B := fun _ O => RelY O.2) (G_stays h.1) (fun a b e e2 => ?_) (fun a b p q => ⟨p, q⟩)
  exact h.rd (wpO_of (T_LAW_stays x1 M) e) (Q_MO_stays x1 a.2 b e2) (fun k q => by first | omega | exact q.elim | (dsimp only at q; omega)) (fun k j q => by first | omega | (dsimp only at q; omega))
theorem Y_begin {x1 x2 : Int32} {M : Mem} (h : RY M) : wpO (F_LAW_begin x1 x2 M) (fun r1 => wpO (F_MO_begin x1 x2 r1.2) (fun r2 => RY r2.2)) := by
  refine wp2 (B := fun _ O => RelY O.2) (G_begin h.1) (fun a b e e2 => ?_) (fun a b p q => ⟨p, q⟩)
  exact h.rd (wpO_of (T_LAW_begin x1 x2 M) e) (Q_MO_begin x1 x2 a.2 b e2) (fun k q => by first | omega | exact q.elim | (dsimp only at q; omega)) (fun k j q => by first | omega | (dsimp only at q; omega))
theorem Y_villageEdge {x1 x2 : Int32} {M : Mem} (h : RY M) : wpO (F_LAW_villageEdge x1 x2 M) (fun r1 => wpO (F_MO_villageEdge x1 x2 r1.2) (fun r2 => RY r2.2)) := by
  refine wp2 (B := fun _ O => RelY O.2) (G_villageEdge h.1) (fun a b e e2 => ?_) (fun a b p q => ⟨p, q⟩)
  exact h.rd (wpO_of (T_LAW_villageEdge x1 x2 M) e) (Q_MO_villageEdge x1 x2 a.2 b e2) (fun k q => by first | omega | exact q.elim | (dsimp only at q; omega)) (fun k j q => by first | omega | (dsimp only at q; omega))
theorem Y_village {x1 : Int32} {M : Mem} (h : RY M) : wpO (F_LAW_village x1 M) (fun r1 => wpO (F_MO_village x1 r1.2) (fun r2 => RY r2.2)) := by
  refine wp2 (B := fun _ O => RelY O.2) (G_village h.1) (fun a b e e2 => ?_) (fun a b p q => ⟨p, q⟩)
  exact h.rd (wpO_of (T_LAW_village x1 M) e) (Q_MO_village x1 a.2 b e2) (fun k q => by first | omega | exact q.elim | (dsimp only at q; omega)) (fun k j q => by first | omega | (dsimp only at q; omega))
theorem Y_count {x1 : Int32} {M : Mem} (h : RY M) : wpO (F_KW_count x1 M) (fun r1 => wpO (F_MO_count x1 r1.2) (fun r2 => RY r2.2)) := by
  refine wp2 (B := fun _ O => RelY O.2) (G_count h.1) (fun a b e e2 => ?_) (fun a b p q => ⟨p, q⟩)
  exact h.rd (wpO_of (T_KW_count x1 M) e) (Q_MO_count x1 a.2 b e2) (fun k q => by first | omega | exact q.elim | (dsimp only at q; omega)) (fun k j q => by first | omega | (dsimp only at q; omega))
