/-! what a file without a fault is -/
/-- attributes: their end, their tells, that they are there -/
def attE (B : List Nat) (q : Nat) : Nat := atP B (b2 B q) (q + 2)
def attT (B : List Nat) : Nat → Nat → List (Nat × Nat)
  | 0, _ => []
  | d + 1, p => (p, 1) :: attT B d (p + 6 + b4 B (p + 2))
def AttG (B : List Nat) : Nat → Nat → Prop
  | 0, p => p ≤ B.length
  | d + 1, p => p + 6 + b4 B (p + 2) ≤ B.length ∧ b4 B (p + 2) < 2 ^ 31 ∧ AttG B d (p + 6 + b4 B (p + 2))
/-- members -/
def memL (B : List Nat) : Nat → Nat → List Nat
  | 0, _ => []
  | d + 1, p => p :: memL B d (attE B (p + 6))
def memE (B : List Nat) : Nat → Nat → Nat
  | 0, p => p
  | d + 1, p => memE B d (attE B (p + 6))
def memT (B : List Nat) : Nat → Nat → List (Nat × Nat)
  | 0, _ => []
  | d + 1, p => (p + 2, 1) :: (p + 4, 1) :: (attT B (b2 B (p + 6)) (p + 8) ++ memT B d (attE B (p + 6)))
def MemG (B : List Nat) : Nat → Nat → Prop
  | 0, p => p ≤ B.length
  | d + 1, p => p + 8 ≤ B.length ∧ b2 B (p + 6) ≤ 6 ∧ AttG B (b2 B (p + 6)) (p + 8) ∧ MemG B d (attE B (p + 6))
def facT : Nat → Nat → List (Nat × Nat)
  | 0, _ => []
  | d + 1, p => (p, 7) :: facT d (p + 2)
/-- entries -/
def eSz (B : List Nat) (p : Nat) : Nat := if b1 B p = 1 then 3 + b2 B (p + 1) else if b1 B p = 5 ∨ b1 B p = 6 then 9 else if b1 B p = 7 ∨ b1 B p = 8 then 3 else 5
def eTl (B : List Nat) (p : Nat) : List (Nat × Nat) := if b1 B p = 7 ∨ b1 B p = 8 then [(p + 1, 1)] else if b1 B p = 12 then [(p + 1, 1), (p + 3, 1)] else if 9 ≤ b1 B p ∧ b1 B p ≤ 11 then [(p + 1, 7), (p + 3, 12)] else []
/-- sums, tells over places 1 to i -/
def zS (B : List Nat) (S : Nat → Nat) : Nat → Nat
  | 0 => 0
  | i + 1 => zS B S i + (if S (i + 1) = 0 then 0 else eSz B (S (i + 1)))
def zW (B : List Nat) (S : Nat → Nat) : Nat → Nat
  | 0 => 0
  | i + 1 => zW B S i + (if S (i + 1) = 0 then 0 else wst (b1 B (S (i + 1))))
def zT (B : List Nat) (S : Nat → Nat) : Nat → List (Nat × Nat)
  | 0 => []
  | i + 1 => zT B S i ++ (if S (i + 1) = 0 then [] else eTl B (S (i + 1)))
theorem zS_congr {B : List Nat} {S S' : Nat → Nat} : ∀ i, (∀ j, j ≤ i → S j = S' j) → zS B S i = zS B S' i
  | 0, _ => rfl
  | i + 1, h => by rw [zS, zS, zS_congr i (fun j hj => h j (by omega)), h (i + 1) (Nat.le_refl _)]
theorem zW_congr {B : List Nat} {S S' : Nat → Nat} : ∀ i, (∀ j, j ≤ i → S j = S' j) → zW B S i = zW B S' i
  | 0, _ => rfl
  | i + 1, h => by rw [zW, zW, zW_congr i (fun j hj => h j (by omega)), h (i + 1) (Nat.le_refl _)]
theorem zT_congr {B : List Nat} {S S' : Nat → Nat} : ∀ i, (∀ j, j ≤ i → S j = S' j) → zT B S i = zT B S' i
  | 0, _ => rfl
  | i + 1, h => by rw [zT, zT, zT_congr i (fun j hj => h j (by omega)), h (i + 1) (Nat.le_refl _)]
/-- entries up to place i (without it), ending at a -/
def EnG (B : List Nat) (S : Nat → Nat) (i a : Nat) : Prop := S 0 = 0 ∧ 10 ≤ a ∧ a ≤ B.length ∧ (∀ j, i ≤ j → S j = 0) ∧ (∀ j, S j ≠ 0 → 10 ≤ S j ∧ (b1 B (S j) = 1 ∨ 3 ≤ b1 B (S j) ∧ b1 B (S j) ≤ 12) ∧ S j + eSz B (S j) ≤ a) ∧ 10 + zS B S (i - 1) = a ∧ zW B S (i - 1) = i - 1 ∧ 1 ≤ i
/-- where fields, methods are counted -/
def fP (B : List Nat) (bh : Nat) : Nat := bh + 8 + 2 * b2 B (bh + 6)
def mP (B : List Nat) (bh : Nat) : Nat := memE B (b2 B (fP B bh)) (fP B bh + 2)
def aP (B : List Nat) (bh : Nat) : Nat := memE B (b2 B (mP B bh)) (mP B bh + 2)
/-- the tells behind the pool -/
def bT (B : List Nat) (bh : Nat) : List (Nat × Nat) := (bh + 2, 7) :: ((if b2 B (bh + 4) = 0 then [] else [(bh + 4, 7)]) ++ (facT (b2 B (bh + 6)) (bh + 8) ++ (memT B (b2 B (fP B bh)) (fP B bh + 2) ++ (memT B (b2 B (mP B bh)) (mP B bh + 2) ++ attT B (b2 B (aP B bh)) (aP B bh + 2)))))
/-- what a scan without a fault has found -/
def GF (B : List Nat) (x : Fs) : Prop :=
  EnG B x.1 x.2.1 x.2.2.1 ∧ x.2.1 = b2 B 8 ∧ x.2.1 ≤ 61 ∧ x.2.2.1 + 8 ≤ B.length ∧ b2 B (x.2.2.1 + 6) ≤ 8 ∧ fP B x.2.2.1 + 2 ≤ B.length ∧ b2 B (fP B x.2.2.1) ≤ 12 ∧ MemG B (b2 B (fP B x.2.2.1)) (fP B x.2.2.1 + 2) ∧ mP B x.2.2.1 + 2 ≤ B.length ∧ b2 B (mP B x.2.2.1) ≤ 12 ∧ MemG B (b2 B (mP B x.2.2.1)) (mP B x.2.2.1 + 2) ∧ aP B x.2.2.1 + 2 ≤ B.length ∧ b2 B (aP B x.2.2.1) ≤ 6 ∧ AttG B (b2 B (aP B x.2.2.1)) (aP B x.2.2.1 + 2) ∧ attE B (aP B x.2.2.1) = B.length ∧ x.2.2.2.1 = aP B x.2.2.1 ∧ x.2.2.2.2.1 = memL B (b2 B (fP B x.2.2.1)) (fP B x.2.2.1 + 2) ∧ x.2.2.2.2.2.1 = memL B (b2 B (mP B x.2.2.1)) (mP B x.2.2.1 + 2) ∧ x.2.2.2.2.2.2 = zT B x.1 (x.2.1 - 1) ++ bT B x.2.2.1
/-- tells put behind -/
def apT (x : Fs) (L : List (Nat × Nat)) : Fs := (x.1, x.2.1, x.2.2.1, x.2.2.2.1, x.2.2.2.2.1, x.2.2.2.2.2.1, x.2.2.2.2.2.2 ++ L)
theorem apT_nil (x : Fs) : apT x [] = x := by unfold apT; rw [List.append_nil]
theorem apT_apT (x : Fs) (L M : List (Nat × Nat)) : apT (apT x L) M = apT x (L ++ M) := by unfold apT; simp only [List.append_assoc]
theorem k_skip {B : List Nat} {k : Nat} {s : Rt} {a' : Nat} {x' : Fs} (e : p_skip B k s = .inr (a', x')) : ∃ a, s = .inr (a, x') ∧ a' = a + k ∧ a' ≤ B.length := by
  unfold p_skip at e
  split at e
  · cases e
  · split at e
    · simp only [Sum.inr.injEq, Prod.mk.injEq] at e
      obtain ⟨rfl, rfl⟩ := e
      exact ⟨_, rfl, rfl, by assumption⟩
    · cases e
theorem k_tell {B : List Nat} {k : Nat} {s : Rt} {a' : Nat} {x' : Fs} (e : p_tell B k s = .inr (a', x')) : ∃ a x, s = .inr (a, x) ∧ a' = a + 2 ∧ a' ≤ B.length ∧ x' = apT x [(a, k)] := by
  unfold p_tell at e
  split at e
  · cases e
  · split at e
    · simp only [Sum.inr.injEq, Prod.mk.injEq] at e
      obtain ⟨rfl, rfl⟩ := e
      exact ⟨_, _, rfl, rfl, by assumption, rfl⟩
    · cases e
theorem k_many {B : List Nat} {m : Nat} {s : Rt} {a' : Nat} {x' : Fs} (e : (p_many B m s).2 = .inr (a', x')) : ∃ a, s = .inr (a, x') ∧ a' = a + 2 ∧ a' ≤ B.length ∧ b2 B a ≤ m ∧ (p_many B m s).1 = b2 B a := by
  cases s with
  | inl q => cases e
  | inr q =>
    obtain ⟨a, x⟩ := q
    unfold p_many at e ⊢
    simp only at e ⊢
    split at e
    · next h1 =>
      split at e
      · next h2 =>
        simp only [Sum.inr.injEq, Prod.mk.injEq] at e
        obtain ⟨rfl, rfl⟩ := e
        refine ⟨a, rfl, rfl, h1, h2, ?_⟩
        rw [if_pos h1, if_pos h2]
      · cases e
    · cases e
theorem k_fail {k w : Nat} {s : Rt} {a' : Nat} {x' : Fs} (e : p_fail k w s = .inr (a', x')) : False := by
  unfold p_fail at e
  split at e <;> cases e
theorem b2_out {B : List Nat} {k : Nat} (h : B.length ≤ k + 1) : b2 B k = 0 := by unfold b2; rw [if_neg (by omega)]
/-- an entry -/
theorem k_entry {B : List Nat} {l : Bool} {a a' : Nat} {x x' : Fs} (e : p_entry B l a x = .inr (a', x')) : (b1 B a = 1 ∨ 3 ≤ b1 B a ∧ b1 B a ≤ 12) ∧ ¬ (l = true ∧ (b1 B a = 5 ∨ b1 B a = 6)) ∧ a' = a + eSz B a ∧ a' ≤ B.length ∧ x' = apT x (eTl B a) := by
  unfold p_entry at e
  split at e
  · exact absurd e (fun z => k_fail z)
  · next h0 =>
    have g1 : b1 B a = 1 ∨ 3 ≤ b1 B a ∧ b1 B a ≤ 12 := Decidable.not_not.mp fun z => h0 (Or.inl z)
    have g2 : ¬ (l = true ∧ (b1 B a = 5 ∨ b1 B a = 6)) := fun z => h0 (Or.inr z)
    refine ⟨g1, g2, ?_⟩
    unfold eSz eTl
    split at e
    · next t1 =>
      obtain ⟨a1, e1, r1, r2⟩ := k_skip e
      obtain ⟨a2, e2, r3, r4⟩ := k_skip e1
      obtain ⟨a3, e3, r5, r6⟩ := k_skip e2
      simp only [Sum.inr.injEq, Prod.mk.injEq] at e3
      obtain ⟨rfl, rfl⟩ := e3
      have hp : p_two B (p_skip B 1 (.inr (a, x))) = b2 B (a + 1) := by
        rw [e2]
        simp only [p_two]
        rw [if_pos (by omega), r5]
      rw [hp] at r1
      rw [if_pos t1, if_neg (by omega), if_neg (by omega), if_neg (by omega), apT_nil]
      exact ⟨by omega, r2, rfl⟩
    · next t1 =>
      rw [if_neg t1]
      split at e
      · next t2 =>
        obtain ⟨a1, e1, r1, r2⟩ := k_skip e
        obtain ⟨a2, e2, r3, r4⟩ := k_skip e1
        simp only [Sum.inr.injEq, Prod.mk.injEq] at e2
        obtain ⟨rfl, rfl⟩ := e2
        rw [if_neg (c := b1 B a = 7 ∨ b1 B a = 8) (by omega), if_neg (c := b1 B a = 7 ∨ b1 B a = 8) (by omega), if_neg (c := b1 B a = 12) (by omega), if_neg (c := 9 ≤ b1 B a ∧ b1 B a ≤ 11) (by omega), apT_nil]
        refine ⟨?_, r2, rfl⟩
        by_cases t3 : b1 B a = 5 ∨ b1 B a = 6
        · rw [if_pos t3] at r1; rw [if_pos t3]; omega
        · rw [if_neg t3] at r1; rw [if_neg t3]; omega
      · next t2 =>
        rw [if_neg (c := b1 B a = 5 ∨ b1 B a = 6) (by omega)]
        split at e
        · next t3 =>
          obtain ⟨a1, x1, e1, r1, r2, r3⟩ := k_tell e
          obtain ⟨a2, e2, r4, r5⟩ := k_skip e1
          simp only [Sum.inr.injEq, Prod.mk.injEq] at e2
          obtain ⟨rfl, rfl⟩ := e2
          rw [if_pos t3, if_pos t3, r3, r4]
          exact ⟨by omega, r2, rfl⟩
        · next t3 =>
          rw [if_neg t3, if_neg t3]
          obtain ⟨a1, x1, e1, r1, r2, r3⟩ := k_tell e
          obtain ⟨a2, x2, e2, r4, r5, r6⟩ := k_tell e1
          obtain ⟨a3, e3, r7, r8⟩ := k_skip e2
          simp only [Sum.inr.injEq, Prod.mk.injEq] at e3
          obtain ⟨rfl, rfl⟩ := e3
          by_cases t4 : b1 B a = 12
          · rw [if_pos t4] at r3 r6
            rw [if_pos t4, r3, r6, apT_apT, r4, r7]
            exact ⟨by omega, r2, rfl⟩
          · rw [if_neg t4] at r3 r6
            rw [if_neg t4, if_pos (by omega), r3, r6, apT_apT, r4, r7]
            exact ⟨by omega, r2, rfl⟩
