/-! orders -/
def Gd3 {α : Type} (f : α → α → Int32) : Prop := (∀ x y, f x y = -1 ∨ f x y = nI 0 ∨ f x y = nI 1) ∧ (∀ x y, f x y = nI 0 ↔ x = y) ∧ (∀ x y, f x y = -1 ↔ f y x = nI 1) ∧ ∀ x y z, f x y = -1 → f y z = -1 → f x z = -1
def lx3 {α β : Type} (f : α → α → Int32) (g : β → β → Int32) (p q : α × β) : Int32 := if f p.1 q.1 ≠ nI 0 then f p.1 q.1 else g p.2 q.2
theorem lx3_good {α β : Type} {f : α → α → Int32} {g : β → β → Int32} (hf : Gd3 f) (hg : Gd3 g) : Gd3 (lx3 f g) := by
  obtain ⟨f1, f2, f3, f4⟩ := hf
  obtain ⟨g1, g2, g3, g4⟩ := hg
  have m0 : (-1 : Int32) ≠ nI 0 := by decide
  have p0 : nI 1 ≠ nI 0 := by decide
  refine ⟨fun x y => ?_, fun x y => ?_, fun x y => ?_, fun x y z h1 h2 => ?_⟩
  · unfold lx3
    split
    · exact f1 _ _
    · exact g1 _ _
  · unfold lx3
    constructor
    · intro h
      split at h
      · next q => exact absurd h q
      · next q =>
        have e1 := (f2 _ _).mp (Decidable.not_not.mp q)
        have e2 := (g2 _ _).mp h
        exact Prod.ext e1 e2
    · intro h
      subst h
      rw [if_neg (by simp [f2]), (g2 _ _).mpr rfl]
  · unfold lx3
    by_cases q : f x.1 y.1 = nI 0
    · have e := (f2 _ _).mp q
      rw [if_neg (by simpa using q), if_neg (by rw [e]; simp [f2])]
      exact g3 _ _
    · have q' : f y.1 x.1 ≠ nI 0 := fun z => q ((f2 _ _).mpr ((f2 _ _).mp z).symm)
      rw [if_pos q, if_pos q']
      exact f3 _ _
  · unfold lx3 at *
    by_cases q : f x.1 y.1 = nI 0
    · have e := (f2 _ _).mp q
      rw [if_neg (by simpa using q)] at h1
      rw [e]
      by_cases q2 : f y.1 z.1 = nI 0
      · rw [if_neg (by simpa using q2)] at h2 ⊢
        exact g4 _ _ _ h1 h2
      · rw [if_pos q2] at h2 ⊢
        exact h2
    · rw [if_pos q] at h1
      by_cases q2 : f y.1 z.1 = nI 0
      · have e := (f2 _ _).mp q2
        rw [← e, if_pos q]
        exact h1
      · rw [if_pos q2] at h2
        have h3 := f4 _ _ _ h1 h2
        rw [if_pos (by rw [h3]; exact m0)]
        exact h3
theorem c3_good : Gd3 c3 := by
  have m0 : (-1 : Int32) ≠ nI 0 := by decide
  have p0 : nI 1 ≠ nI 0 := by decide
  have m1 : (-1 : Int32) ≠ nI 1 := by decide
  have k : ∀ x y, (x < y ∧ c3 x y = -1) ∨ (x = y ∧ c3 x y = nI 0) ∨ (y < x ∧ c3 x y = nI 1) := by
    intro x y
    unfold c3
    by_cases h : x < y
    · rw [if_pos h]; exact Or.inl ⟨h, rfl⟩
    · rw [if_neg h]
      by_cases h2 : x = y
      · rw [if_pos h2]; exact Or.inr (Or.inl ⟨h2, rfl⟩)
      · rw [if_neg h2]; exact Or.inr (Or.inr ⟨by omega, rfl⟩)
  refine ⟨fun x y => ?_, fun x y => ?_, fun x y => ?_, fun x y z h1 h2 => ?_⟩
  · rcases k x y with h | h | h
    · exact Or.inl h.2
    · exact Or.inr (Or.inl h.2)
    · exact Or.inr (Or.inr h.2)
  · rcases k x y with h | h | h
    · rw [h.2]; exact ⟨fun z => absurd z m0, fun z => by omega⟩
    · exact ⟨fun _ => h.1, fun _ => h.2⟩
    · rw [h.2]; exact ⟨fun z => absurd z p0, fun z => by omega⟩
  · rcases k x y with h | h | h <;> rcases k y x with g | g | g <;> first | (exfalso; omega) | (rw [h.2, g.2]; simp; done) | (rw [h.2, g.2]; exact ⟨fun z => absurd z (by decide), fun z => absurd z (by decide)⟩)
  · rcases k x y with h | h | h
    · rcases k y z with g | g | g
      · rcases k x z with w | w | w
        · exact w.2
        · omega
        · omega
      · rw [g.2] at h2; exact absurd h2.symm m0
      · rw [g.2] at h2; exact absurd h2.symm m1
    · rw [h.2] at h1; exact absurd h1.symm m0
    · rw [h.2] at h1; exact absurd h1.symm m1
theorem c3L_good : Gd3 c3L := by
  have m0 : (-1 : Int32) ≠ nI 0 := by decide
  have p0 : nI 1 ≠ nI 0 := by decide
  have m1 : (-1 : Int32) ≠ nI 1 := by decide
  have k : ∀ x y, (x.toInt < y.toInt ∧ c3L x y = -1) ∨ (x.toInt = y.toInt ∧ c3L x y = nI 0) ∨ (y.toInt < x.toInt ∧ c3L x y = nI 1) := by
    intro x y
    unfold c3L
    by_cases h : x < y
    · rw [if_pos h]; exact Or.inl ⟨Int64.lt_iff_toInt_lt.mp h, rfl⟩
    · rw [if_neg h]
      by_cases h2 : x = y
      · rw [if_pos h2]; exact Or.inr (Or.inl ⟨by rw [h2], rfl⟩)
      · rw [if_neg h2]
        refine Or.inr (Or.inr ⟨?_, rfl⟩)
        have h3 : ¬ x.toInt < y.toInt := fun z => h (Int64.lt_iff_toInt_lt.mpr z)
        have h4 : x.toInt ≠ y.toInt := fun z => h2 (Int64.toInt_inj.mp z)
        omega
  refine ⟨fun x y => ?_, fun x y => ?_, fun x y => ?_, fun x y z h1 h2 => ?_⟩
  · rcases k x y with h | h | h
    · exact Or.inl h.2
    · exact Or.inr (Or.inl h.2)
    · exact Or.inr (Or.inr h.2)
  · rcases k x y with h | h | h
    · rw [h.2]; exact ⟨fun z => absurd z m0, fun z => by rw [z] at h; omega⟩
    · exact ⟨fun _ => Int64.toInt_inj.mp h.1, fun _ => h.2⟩
    · rw [h.2]; exact ⟨fun z => absurd z p0, fun z => by rw [z] at h; omega⟩
  · rcases k x y with h | h | h <;> rcases k y x with g | g | g <;> first | (exfalso; omega) | (rw [h.2, g.2]; simp; done) | (rw [h.2, g.2]; exact ⟨fun z => absurd z (by decide), fun z => absurd z (by decide)⟩)
  · rcases k x y with h | h | h
    · rcases k y z with g | g | g
      · rcases k x z with w | w | w
        · exact w.2
        · omega
        · omega
      · rw [g.2] at h2; exact absurd h2.symm m0
      · rw [g.2] at h2; exact absurd h2.symm m1
    · rw [h.2] at h1; exact absurd h1.symm m0
    · rw [h.2] at h1; exact absurd h1.symm m1
theorem cmpL_good : Gd3 cmpL := by
  obtain ⟨f1, f2, f3, f4⟩ := c3_good
  have m0 : (-1 : Int32) ≠ nI 0 := by decide
  have p0 : nI 1 ≠ nI 0 := by decide
  have m1 : (-1 : Int32) ≠ nI 1 := by decide
  have a1 : ∀ x y, cmpL x y = -1 ∨ cmpL x y = nI 0 ∨ cmpL x y = nI 1 := by
    intro x
    induction x with
    | nil => intro y; cases y <;> simp [cmpL]
    | cons a x ih =>
      intro y
      cases y with
      | nil => simp [cmpL]
      | cons b y =>
        rw [cmpL]
        split
        · exact ih y
        · exact f1 a b
  have a2 : ∀ x y, cmpL x y = nI 0 ↔ x = y := by
    intro x
    induction x with
    | nil => intro y; cases y with
      | nil => simp [cmpL]
      | cons b y => rw [cmpL]; exact ⟨fun z => absurd z m0, fun z => by cases z⟩
    | cons a x ih =>
      intro y
      cases y with
      | nil => rw [cmpL]; exact ⟨fun z => absurd z p0, fun z => by cases z⟩
      | cons b y =>
        rw [cmpL]
        by_cases h : a = b
        · rw [if_pos h, ih y, h]; simp
        · rw [if_neg h, f2]; simp [h]
  have a3 : ∀ x y, cmpL x y = -1 ↔ cmpL y x = nI 1 := by
    intro x
    induction x with
    | nil => intro y; cases y with
      | nil => simp only [cmpL]; exact ⟨fun z => absurd z.symm m0, fun z => absurd z.symm p0⟩
      | cons b y => simp [cmpL]
    | cons a x ih =>
      intro y
      cases y with
      | nil => simp only [cmpL]; exact ⟨fun z => absurd z.symm m1, fun z => absurd z m1⟩
      | cons b y =>
        rw [cmpL, cmpL]
        by_cases h : a = b
        · rw [if_pos h, if_pos h.symm]; exact ih y
        · rw [if_neg h, if_neg (fun z => h z.symm)]; exact f3 a b
  refine ⟨a1, a2, a3, ?_⟩
  intro x
  induction x with
  | nil => intro y z h1 h2; cases y with
    | nil => exact h2
    | cons b y => cases z with
      | nil => rw [cmpL] at h2; exact absurd h2.symm m1
      | cons c z => rfl
  | cons a x ih =>
    intro y z h1 h2
    cases y with
    | nil => rw [cmpL] at h1; exact absurd h1.symm m1
    | cons b y => cases z with
      | nil => rw [cmpL] at h2; exact absurd h2.symm m1
      | cons c z =>
        rw [cmpL] at h1 h2 ⊢
        by_cases h : a = b
        · subst h
          rw [if_pos rfl] at h1
          by_cases g : a = c
          · rw [if_pos g] at h2 ⊢; exact ih y z h1 h2
          · rw [if_neg g] at h2 ⊢; exact h2
        · rw [if_neg h] at h1
          by_cases g : b = c
          · subst g
            rw [if_neg h]; exact h1
          · rw [if_neg g] at h2
            have h3 := f4 _ _ _ h1 h2
            have : a ≠ c := fun q => by rw [(f2 a c).mpr q] at h3; exact absurd h3.symm m0
            rw [if_neg this]; exact h3
theorem cmpM_lx (x y : Mng) : cmpM x y = lx3 c3 (lx3 c3L (lx3 cmpL (lx3 cmpL cmpL))) x y := by
  unfold cmpM lx3
  by_cases h : x.1 = y.1
  · rw [if_neg (c := x.1 ≠ y.1) (by simpa using h), if_neg (c := c3 x.1 y.1 ≠ nI 0) (by simp [(c3_good.2.1 _ _).mpr h])]
  · rw [if_pos h, if_pos (fun z => h ((c3_good.2.1 _ _).mp z))]
theorem cmpM_good : Gd3 cmpM := by
  have e : cmpM = lx3 c3 (lx3 c3L (lx3 cmpL (lx3 cmpL cmpL))) := by funext x y; exact cmpM_lx x y
  rw [e]
  exact lx3_good c3_good (lx3_good c3L_good (lx3_good cmpL_good (lx3_good cmpL_good cmpL_good)))
theorem cmpM_eq {x y : Mng} : cmpM x y = nI 0 ↔ x = y := cmpM_good.2.1 x y
theorem lt0_iff {x : Int32} (h : x = -1 ∨ x = nI 0 ∨ x = nI 1) : x < 0 ↔ x = -1 := by
  rcases h with h | h | h
  · rw [h]; exact ⟨fun _ => rfl, fun _ => by decide⟩
  · rw [h]; exact ⟨fun z => absurd z (by decide), fun z => absurd z (by decide)⟩
  · rw [h]; exact ⟨fun z => absurd z (by decide), fun z => absurd z (by decide)⟩
/-- ahead of, in the order of meanings -/
def ltM (x y : Mng) : Prop := cmpM x y = -1
theorem ltM_tr {x y z : Mng} (h1 : ltM x y) (h2 : ltM y z) : ltM x z := cmpM_good.2.2.2 x y z h1 h2
theorem ltM_ne {x y : Mng} (h : ltM x y) : x ≠ y := fun e => by
  have := cmpM_eq.mpr e
  rw [ltM, this] at h
  exact absurd h (by decide)
theorem ltM_as {x y : Mng} (h : ltM x y) : ¬ ltM y x := fun g => ltM_ne (ltM_tr h g) rfl
theorem ltM_tri (x y : Mng) : ltM x y ∨ x = y ∨ ltM y x := by
  rcases cmpM_good.1 x y with h | h | h
  · exact Or.inl h
  · exact Or.inr (Or.inl (cmpM_eq.mp h))
  · exact Or.inr (Or.inr ((cmpM_good.2.2.1 y x).mpr h))
theorem cmpM_lt0 {x y : Mng} : cmpM x y < 0 ↔ ltM x y := lt0_iff (cmpM_good.1 x y)
/-- meanings in order, each once -/
def SoM : List Mng → Prop
  | [] => True
  | x :: r => (∀ y ∈ r, ltM x y) ∧ SoM r
noncomputable def insM : List Mng → Mng → List Mng
  | [], m => [m]
  | x :: r, m => if cmpM x m = -1 then x :: insM r m else if cmpM x m = nI 0 then x :: r else m :: x :: r
noncomputable def lowM : List Mng → Mng → Nat
  | [], _ => 0
  | x :: r, m => if cmpM x m = -1 then lowM r m + 1 else 0
theorem lowM_le : ∀ (L : List Mng) (m : Mng), lowM L m ≤ L.length
  | [], m => Nat.le_refl _
  | x :: r, m => by
    unfold lowM
    have := lowM_le r m
    split
    · simp only [List.length_cons]; omega
    · omega
theorem insM_mem {m y : Mng} : ∀ (L : List Mng), y ∈ insM L m ↔ y = m ∨ y ∈ L
  | [] => by simp [insM]
  | x :: r => by
    unfold insM
    split
    · simp only [List.mem_cons, insM_mem r]; exact ⟨fun h => h.elim (fun q => Or.inr (Or.inl q)) (fun q => q.elim Or.inl (fun z => Or.inr (Or.inr z))), fun h => h.elim (fun q => Or.inr (Or.inl q)) (fun q => q.elim Or.inl (fun z => Or.inr (Or.inr z)))⟩
    · split
      · next h2 =>
        have := cmpM_eq.mp h2
        subst this
        simp
      · simp
theorem insM_so {m : Mng} : ∀ (L : List Mng), SoM L → SoM (insM L m)
  | [], _ => ⟨fun y hy => by simp at hy, trivial⟩
  | x :: r, h => by
    obtain ⟨h1, h2⟩ := h
    unfold insM
    split
    · next e =>
      refine ⟨fun y hy => ?_, insM_so r h2⟩
      rcases (insM_mem r).mp hy with q | q
      · rw [q]; exact e
      · exact h1 y q
    · next e1 =>
      split
      · exact ⟨h1, h2⟩
      · next e2 =>
        have hmx : ltM m x := by
          rcases ltM_tri m x with q | q | q
          · exact q
          · exact absurd (cmpM_eq.mpr q.symm) e2
          · exact absurd q e1
        refine ⟨fun y hy => ?_, h1, h2⟩
        rcases List.mem_cons.mp hy with q | q
        · rw [q]; exact hmx
        · exact ltM_tr hmx (h1 y q)
theorem insM_has {m : Mng} : ∀ (L : List Mng), SoM L → m ∈ L → insM L m = L
  | [], _, h => by cases h
  | x :: r, hs, h => by
    unfold insM
    rcases List.mem_cons.mp h with q | q
    · subst q
      rw [if_neg (show ¬ cmpM m m = -1 from fun z => ltM_ne z rfl), if_pos (cmpM_eq.mpr rfl)]
    · rw [if_pos (show cmpM x m = -1 from hs.1 m q), insM_has r hs.2 q]
theorem insM_new {m : Mng} : ∀ (L : List Mng), m ∉ L → insM L m = L.take (lowM L m) ++ m :: L.drop (lowM L m)
  | [], _ => rfl
  | x :: r, h => by
    unfold insM lowM
    split
    · rw [insM_new r (fun z => h (List.mem_cons_of_mem _ z))]; rfl
    · rw [if_neg (fun z => h (by rw [cmpM_eq.mp z]; exact List.mem_cons_self))]; rfl
theorem lowM_lt {m : Mng} : ∀ (L : List Mng) (j : Nat) (hj : j < L.length), j < lowM L m → cmpM L[j] m = -1
  | [], j, hj, _ => by simp at hj
  | x :: r, j, hj, h => by
    unfold lowM at h
    split at h
    · next e =>
      cases j with
      | zero => exact e
      | succ j => exact lowM_lt r j (by simpa using hj) (by omega)
    · omega
theorem lowM_ge {m : Mng} : ∀ (L : List Mng) (j : Nat) (hj : j < L.length), SoM L → lowM L m ≤ j → ¬ cmpM L[j] m = -1
  | [], j, hj, _, _ => by simp at hj
  | x :: r, j, hj, hs, h => by
    unfold lowM at h
    split at h
    · cases j with
      | zero => omega
      | succ j => exact lowM_ge r j (by simpa using hj) hs.2 (by omega)
    · next e =>
      cases j with
      | zero => exact e
      | succ j =>
        intro z
        exact e (ltM_tr (hs.1 _ (List.getElem_mem _)) z)
theorem lowM_has {m : Mng} : ∀ (L : List Mng), SoM L → m ∈ L → L[lowM L m]? = some m
  | [], _, h => by cases h
  | x :: r, hs, h => by
    unfold lowM
    rcases List.mem_cons.mp h with q | q
    · subst q
      rw [if_neg (show ¬ cmpM m m = -1 from fun z => ltM_ne z rfl)]; rfl
    · rw [if_pos (show cmpM x m = -1 from hs.1 m q)]
      exact lowM_has r hs.2 q
