/-! facts of a good file -/
def GG (B : List Nat) (x : Fs) : Prop := GF B x ∧ (∀ p ∈ x.2.2.2.2.2.2, wrg B x.1 x.2.1 (b2 B p.1) p.2 = 0) ∧ (∀ m ∈ x.2.2.2.2.1, okS 0 (tx B x.1 x.2.1 (b2 B (m + 4))) = true) ∧ ∀ m ∈ x.2.2.2.2.2.1, okS 1 (tx B x.1 x.2.1 (b2 B (m + 4))) = true
theorem wrg0 {B : List Nat} {S : Nat → Nat} {n i t : Nat} (h : wrg B S n i t = 0) : i < n ∧ tg B S n i = t ∧ t ≠ 0 := by
  unfold wrg at h
  split at h
  · cases h
  · split at h
    · cases h
    · split at h
      · next h1 h2 h3 => exact ⟨by omega, h3, by omega⟩
      · cases h
theorem ckT_none {B : List Nat} {S : Nat → Nat} {n : Nat} : ∀ T : List (Nat × Nat), ckT B S n T = none → ∀ p ∈ T, wrg B S n (b2 B p.1) p.2 = 0
  | [], _, p, hp => by cases hp
  | (q, w) :: T, h, p, hp => by
    unfold ckT at h
    split at h
    · next e =>
      rcases List.mem_cons.mp hp with z | z
      · rw [z]; exact e
      · exact ckT_none T h p z
    · cases h
theorem ckS_none {B : List Nat} {S : Nat → Nat} {n k : Nat} : ∀ M : List Nat, ckS B S n k M = none → ∀ m ∈ M, okS k (tx B S n (b2 B (m + 4))) = true
  | [], _, p, hp => by cases hp
  | q :: M, h, p, hp => by
    unfold ckS at h
    split at h
    · next e =>
      rcases List.mem_cons.mp hp with z | z
      · rw [z]; exact e
      · exact ckS_none M h p z
    · cases h
theorem EnG_tv {B : List Nat} {S : Nat → Nat} {n bh : Nat} (h : EnG B S n bh) : TV B S n := by
  obtain ⟨g0, g1, g2, g3, g4, g5, g6, g7⟩ := h
  intro i hi
  unfold tg at hi
  split at hi
  · cases hi
  · next hs =>
    unfold st at hs hi
    by_cases hin : i < n
    · rw [if_pos hin] at hs hi
      obtain ⟨r1, r2, r3⟩ := g4 i hs
      have e1 : st S n i = S i := if_pos hin
      have e2 : tg B S n i = 1 := by unfold tg; rw [e1, if_neg hs]; exact hi
      have e3 : tz B S n i = b2 B (S i + 1) := by unfold tz; rw [if_pos e2]; unfold tw; rw [e1, if_neg hs]
      have e4 : eSz B (S i) = 3 + b2 B (S i + 1) := if_pos hi
      rw [e1, e3]
      omega
    · rw [if_neg hin] at hs; exact absurd rfl hs
/-- the tells of a place are among those of all -/
theorem zT_mem {B : List Nat} {S : Nat → Nat} {p : Nat × Nat} : ∀ i j, 1 ≤ j → j ≤ i → S j ≠ 0 → p ∈ eTl B (S j) → p ∈ zT B S i
  | 0, j, h1, h2, _, _ => by omega
  | i + 1, j, h1, h2, h3, h4 => by
    unfold zT
    by_cases e : j = i + 1
    · subst e; rw [if_neg h3]; exact List.mem_append_right _ h4
    · exact List.mem_append_left _ (zT_mem i j h1 (by omega) h3 h4)
theorem zT_of {B : List Nat} {S : Nat → Nat} {p : Nat × Nat} : ∀ i, p ∈ zT B S i → ∃ j, 1 ≤ j ∧ j ≤ i ∧ S j ≠ 0 ∧ p ∈ eTl B (S j)
  | 0, h => by cases h
  | i + 1, h => by
    unfold zT at h
    rcases List.mem_append.mp h with z | z
    · obtain ⟨j, h1, h2, h3⟩ := zT_of i z
      exact ⟨j, h1, by omega, h3⟩
    · by_cases e : S (i + 1) = 0
      · rw [if_pos e] at z; cases z
      · rw [if_neg e] at z; exact ⟨i + 1, by omega, Nat.le_refl _, e, z⟩
section FACTS
variable {B : List Nat} {x : Fs}
theorem GG.tv (h : GG B x) : TV B x.1 x.2.1 := EnG_tv h.1.1
/-- a place's tag: the entry there -/
theorem tg_at {S : Nat → Nat} {n i t : Nat} (h : tg B S n i = t) (ht : t ≠ 0) : i < n ∧ S i ≠ 0 ∧ b1 B (S i) = t ∧ st S n i = S i := by
  unfold tg at h
  split at h
  · exact absurd h.symm ht
  · next hs =>
    unfold st at hs h
    by_cases hin : i < n
    · rw [if_pos hin] at hs h
      exact ⟨hin, hs, h, if_pos hin⟩
    · rw [if_neg hin] at hs; exact absurd rfl hs
theorem GG.place (h : GG B x) {i t p w : Nat} (ht : tg B x.1 x.2.1 i = t) (ht0 : t ≠ 0) (hp : (x.1 i + p, w) ∈ eTl B (x.1 i)) : tw B x.1 x.2.1 i p < x.2.1 ∧ tg B x.1 x.2.1 (tw B x.1 x.2.1 i p) = w := by
  obtain ⟨h1, h2, h3, h4⟩ := tg_at ht ht0
  have hi : 1 ≤ i := by
    rcases Nat.eq_zero_or_pos i with z | z
    · subst z; exact absurd h.1.1.1 h2
    · exact z
  have hm : (x.1 i + p, w) ∈ x.2.2.2.2.2.2 := by
    rw [h.1.2.2.2.2.2.2.2.2.2.2.2.2.2.2.2.2.2.2]
    exact List.mem_append_left _ (zT_mem _ i hi (by omega) h2 hp)
  have := wrg0 (h.2.1 _ hm)
  have e : tw B x.1 x.2.1 i p = b2 B (x.1 i + p) := by unfold tw; rw [h4, if_neg h2]
  rw [e]
  exact ⟨this.1, this.2.1⟩
theorem GG.p7 (h : GG B x) {i : Nat} (ht : tg B x.1 x.2.1 i = 7 ∨ tg B x.1 x.2.1 i = 8) : tw B x.1 x.2.1 i 1 < x.2.1 ∧ tg B x.1 x.2.1 (tw B x.1 x.2.1 i 1) = 1 := by
  rcases ht with e | e
  · refine h.place e (by decide) ?_
    obtain ⟨h1, h2, h3, h4⟩ := tg_at e (by decide)
    unfold eTl; rw [if_pos (Or.inl h3)]; simp
  · refine h.place e (by decide) ?_
    obtain ⟨h1, h2, h3, h4⟩ := tg_at e (by decide)
    unfold eTl; rw [if_pos (Or.inr h3)]; simp
theorem GG.p12 (h : GG B x) {i : Nat} (ht : tg B x.1 x.2.1 i = 12) : (tw B x.1 x.2.1 i 1 < x.2.1 ∧ tg B x.1 x.2.1 (tw B x.1 x.2.1 i 1) = 1) ∧ (tw B x.1 x.2.1 i 3 < x.2.1 ∧ tg B x.1 x.2.1 (tw B x.1 x.2.1 i 3) = 1) := by
  obtain ⟨h1, h2, h3, h4⟩ := tg_at ht (by decide)
  constructor
  · refine h.place ht (by decide) ?_
    unfold eTl; rw [if_neg (by omega), if_pos h3]; simp
  · refine h.place ht (by decide) ?_
    unfold eTl; rw [if_neg (by omega), if_pos h3]; simp
theorem GG.p9 (h : GG B x) {i : Nat} (ht : 9 ≤ tg B x.1 x.2.1 i ∧ tg B x.1 x.2.1 i ≤ 11) : (tw B x.1 x.2.1 i 1 < x.2.1 ∧ tg B x.1 x.2.1 (tw B x.1 x.2.1 i 1) = 7) ∧ (tw B x.1 x.2.1 i 3 < x.2.1 ∧ tg B x.1 x.2.1 (tw B x.1 x.2.1 i 3) = 12) := by
  obtain ⟨h1, h2, h3, h4⟩ := tg_at rfl (show tg B x.1 x.2.1 i ≠ 0 by omega)
  constructor
  · refine h.place rfl (by omega) ?_
    unfold eTl; rw [if_neg (by omega), if_neg (by omega), if_pos (by omega)]; simp
  · refine h.place rfl (by omega) ?_
    unfold eTl; rw [if_neg (by omega), if_neg (by omega), if_pos (by omega)]; simp
theorem GG.tg12 (h : GG B x) (i : Nat) : tg B x.1 x.2.1 i = 0 ∨ tg B x.1 x.2.1 i = 1 ∨ 3 ≤ tg B x.1 x.2.1 i ∧ tg B x.1 x.2.1 i ≤ 12 := by
  by_cases e : tg B x.1 x.2.1 i = 0
  · exact Or.inl e
  · obtain ⟨h1, h2, h3, h4⟩ := tg_at rfl e
    have := (h.1.1.2.2.2.2.1 i h2).2.1
    omega
/-- an entry's bytes lie ahead of what is behind the pool -/
theorem GG.sz (h : GG B x) {i : Nat} (e : tg B x.1 x.2.1 i ≠ 0) : 10 ≤ st x.1 x.2.1 i ∧ st x.1 x.2.1 i + bof B x.1 x.2.1 i ≤ x.2.2.1 ∧ bof B x.1 x.2.1 i = eSz B (x.1 i) := by
  obtain ⟨h1, h2, h3, h4⟩ := tg_at rfl e
  obtain ⟨r1, r2, r3⟩ := h.1.1.2.2.2.2.1 i h2
  have eb : bof B x.1 x.2.1 i = eSz B (x.1 i) := by
    unfold bof eSz
    rw [← h3]
    by_cases t1 : b1 B (x.1 i) = 1
    · rw [if_pos t1, if_pos t1]
      unfold tz tw
      rw [if_pos (by rw [← h3, t1]), h4, if_neg h2]
    · rw [if_neg t1, if_neg t1]
  rw [h4, eb]
  exact ⟨r1, r3, rfl⟩
theorem GG.bh_le (h : GG B x) : 10 ≤ x.2.2.1 ∧ x.2.2.1 + 8 ≤ B.length := ⟨h.1.1.2.1, h.1.2.2.2.1⟩
/-- tells that follow each other up to an end -/
def IncE : Nat → List Nat → Nat → Prop
  | a, [], e => a ≤ e
  | a, t :: T, e => a ≤ t ∧ IncE (t + 2) T e
theorem IncE.le : ∀ {T : List Nat} {a e : Nat}, IncE a T e → a ≤ e
  | [], a, e, h => h
  | t :: T, a, e, h => by have := IncE.le h.2; have := h.1; omega
theorem IncE.mono : ∀ {T : List Nat} {a b e : Nat}, IncE a T e → b ≤ a → IncE b T e
  | [], a, b, e, h, hb => Nat.le_trans hb h
  | t :: T, a, b, e, h, hb => ⟨Nat.le_trans hb h.1, h.2⟩
theorem IncE.app : ∀ {T U : List Nat} {a m e : Nat}, IncE a T m → IncE m U e → IncE a (T ++ U) e
  | [], U, a, m, e, h, g => g.mono h
  | t :: T, U, a, m, e, h, g => ⟨h.1, h.2.app g⟩
theorem IncE.inc : ∀ {T : List Nat} {a : Nat}, IncE a T B.length → Inc B a T
  | [], a, h => h
  | t :: T, a, h => ⟨h.1, h.2.le, h.2.inc⟩
theorem incE_att : ∀ d p, AttG B d p → IncE p ((attT B d p).map (·.1)) (atP B d p)
  | 0, p, _ => Nat.le_refl _
  | d + 1, p, h => by
    refine ⟨Nat.le_refl _, ?_⟩
    exact (incE_att d _ h.2.2).mono (show p + 2 ≤ p + 6 + b4 B (p + 2) by omega)
theorem incE_fac : ∀ d p, IncE p ((facT d p).map (·.1)) (p + 2 * d)
  | 0, p => Nat.le_refl _
  | d + 1, p => by
    refine ⟨Nat.le_refl _, ?_⟩
    have := incE_fac d (p + 2)
    rw [show p + 2 * (d + 1) = p + 2 + 2 * d by omega]
    exact this
theorem atP_ge : ∀ d p, p ≤ atP B d p
  | 0, p => Nat.le_refl _
  | d + 1, p => by have := atP_ge d (p + 6 + b4 B (p + 2)); unfold atP; omega
theorem incE_mem : ∀ d p, MemG B d p → IncE p ((memT B d p).map (·.1)) (memE B d p)
  | 0, p, _ => Nat.le_refl _
  | d + 1, p, h => by
    obtain ⟨h1, h2, h3, h4⟩ := h
    refine ⟨by simp, by simp, ?_⟩
    rw [List.map_append]
    refine IncE.app ((incE_att _ _ h3).mono (by simp)) ?_
    exact incE_mem d _ h4
theorem bT_inc (h : GF B x) : IncE x.2.2.1 ((bT B x.2.2.1).map (·.1)) B.length := by
  obtain ⟨h1, h2, h3, h4, h5, h6, h7, h8, h9, h10, h11, h12, h13, h14, h15, -⟩ := h
  unfold bT
  rw [List.map_cons, List.map_append, List.map_append, List.map_append, List.map_append]
  refine ⟨by simp, ?_⟩
  refine IncE.app (m := x.2.2.1 + 6) ?_ ?_
  · split
    · simp [IncE]
    · simp [IncE]
  · refine IncE.app (m := fP B x.2.2.1) ((incE_fac _ _).mono (by omega)) ?_
    refine IncE.app (m := mP B x.2.2.1) ((incE_mem _ _ h8).mono (by omega)) ?_
    refine IncE.app (m := aP B x.2.2.1) ((incE_mem _ _ h11).mono (by omega)) ?_
    have := incE_att _ _ h14
    rw [show atP B (b2 B (aP B x.2.2.1)) (aP B x.2.2.1 + 2) = B.length from h15] at this
    exact this.mono (by omega)
theorem fbh_at {A : List (Nat × Nat)} {b : Nat × Nat} {C : List (Nat × Nat)} {bh : Nat} (hA : ∀ p ∈ A, p.1 < bh) (hb : bh ≤ b.1) : ∀ d t, t ≤ A.length → t + d = (A ++ b :: C).length → fbh (A ++ b :: C) bh d t = A.length
  | 0, t, h1, h2 => by simp at h2; omega
  | d + 1, t, h1, h2 => by
    have ht : tA (A ++ b :: C) t = ((A ++ b :: C).getD t (0, 0)).1 := pr1
    unfold fbh
    by_cases e : t = A.length
    · subst e
      have : (A ++ b :: C).getD A.length (0, 0) = b := by
        rw [List.getD_eq_getElem?_getD, List.getElem?_append_right (Nat.le_refl _), Nat.sub_self]; rfl
      rw [if_pos (by rw [ht, this]; exact hb)]
    · have hlt : t < A.length := by omega
      have : (A ++ b :: C).getD t (0, 0) ∈ A := by
        rw [List.getD_eq_getElem?_getD, List.getElem?_append_left hlt, List.getElem?_eq_getElem hlt]
        exact List.getElem_mem hlt
      rw [if_neg (by rw [ht]; have := hA _ this; omega)]
      exact fbh_at hA hb d (t + 1) (by omega) (by omega)
theorem tB_eq (h : GF B x) : tB x.2.2.2.2.2.2 x.2.2.1 = (bT B x.2.2.1).map (·.1) := by
  have hT := h.2.2.2.2.2.2.2.2.2.2.2.2.2.2.2.2.2.2
  have hG := h.1
  unfold tB
  rw [hT]
  have hA : ∀ p ∈ zT B x.1 (x.2.1 - 1), p.1 < x.2.2.1 := by
    intro p hp
    obtain ⟨j, j1, j2, j3, j4⟩ := zT_of _ hp
    obtain ⟨r1, r2, r3⟩ := hG.2.2.2.2.1 j j3
    have hz : p.1 < x.1 j + eSz B (x.1 j) := by
      unfold eTl at j4
      unfold eSz
      split at j4
      · next t7 =>
        rw [if_neg (by omega), if_neg (by omega), if_pos t7]
        simp at j4; rw [j4]; simp
      · next t7 =>
        split at j4
        · next t12 =>
          rw [if_neg (by omega), if_neg (by omega), if_neg t7]
          simp at j4
          rcases j4 with j4 | j4 <;> rw [j4] <;> simp
        · split at j4
          · next t9 =>
            rw [if_neg (by omega), if_neg (by omega), if_neg t7]
            simp at j4
            rcases j4 with j4 | j4 <;> rw [j4] <;> simp
          · cases j4
    omega
  have hbT : bT B x.2.2.1 = (x.2.2.1 + 2, 7) :: (bT B x.2.2.1).tail := by unfold bT; rfl
  rw [hbT]
  rw [fbh_at hA (by simp) _ 0 (Nat.zero_le _) (by omega)]
  rw [List.map_append, List.drop_append_of_le_length (by simp), List.drop_eq_nil_of_le (by simp)]
  rfl
theorem GG.inc (h : GG B x) : Inc B x.2.2.1 (tB x.2.2.2.2.2.2 x.2.2.1) := by
  rw [tB_eq h.1]
  exact (bT_inc h.1).inc
theorem memL_t4 {m : Nat} : ∀ d p, m ∈ memL B d p → (m + 2, 1) ∈ memT B d p ∧ (m + 4, 1) ∈ memT B d p
  | 0, p, h => by cases h
  | d + 1, p, h => by
    unfold memT
    rcases List.mem_cons.mp h with z | z
    · subst z; exact ⟨by simp, by simp⟩
    · obtain ⟨q1, q2⟩ := memL_t4 d _ z
      exact ⟨by simp [q1], by simp [q2]⟩
theorem GF.mem {m : Nat} (h : GF B x) (hm : m ∈ x.2.2.2.2.1 ∨ m ∈ x.2.2.2.2.2.1) : (m + 2, 1) ∈ x.2.2.2.2.2.2 ∧ (m + 4, 1) ∈ x.2.2.2.2.2.2 := by
  obtain ⟨h1, h2, h3, h4, h5, h6, h7, h8, h9, h10, h11, h12, h13, h14, h15, h16, h17, h18, h19⟩ := h
  rw [h19]
  unfold bT
  rcases hm with q | q
  · rw [h17] at q
    obtain ⟨q1, q2⟩ := memL_t4 _ _ q
    exact ⟨by simp [q1], by simp [q2]⟩
  · rw [h18] at q
    obtain ⟨q1, q2⟩ := memL_t4 _ _ q
    exact ⟨by simp [q1], by simp [q2]⟩
theorem GG.mem {m : Nat} (h : GG B x) (hm : m ∈ x.2.2.2.2.1 ∨ m ∈ x.2.2.2.2.2.1) : tg B x.1 x.2.1 (b2 B (m + 2)) = 1 ∧ tg B x.1 x.2.1 (b2 B (m + 4)) = 1 := by
  obtain ⟨q1, q2⟩ := h.1.mem hm
  exact ⟨(wrg0 (h.2.1 _ q1)).2.1, (wrg0 (h.2.1 _ q2)).2.1⟩
end FACTS
/-- reading -/
def p_read (B : List Nat) : Rt := p_srt B 1 (p_srt B 0 (p_chk B (p_scan B (.inr (0, x00)))))
theorem chk_ok {B : List Nat} {s : Rt} {a : Nat} {x : Fs} (h : p_chk B s = .inr (a, x)) : s = .inr (a, x) ∧ ∀ p ∈ x.2.2.2.2.2.2, wrg B x.1 x.2.1 (b2 B p.1) p.2 = 0 := by
  unfold p_chk at h
  split at h
  · cases h
  · split at h
    · next e =>
      simp only [Sum.inr.injEq, Prod.mk.injEq] at h
      obtain ⟨rfl, rfl⟩ := h
      exact ⟨rfl, ckT_none _ e⟩
    · cases h
theorem srt_ok {B : List Nat} {k : Nat} {s : Rt} {a : Nat} {x : Fs} (h : p_srt B k s = .inr (a, x)) : s = .inr (a, x) ∧ ∀ m ∈ mK x.2.2.2.2.1 x.2.2.2.2.2.1 k, okS k (tx B x.1 x.2.1 (b2 B (m + 4))) = true := by
  unfold p_srt at h
  split at h
  · cases h
  · split at h
    · next e =>
      simp only [Sum.inr.injEq, Prod.mk.injEq] at h
      obtain ⟨rfl, rfl⟩ := h
      exact ⟨rfl, ckS_none _ e⟩
    · cases h
theorem read_ok {B : List Nat} {a : Nat} {x : Fs} (h : p_read B = .inr (a, x)) : GG B x := by
  obtain ⟨h1, h2⟩ := srt_ok h
  obtain ⟨h3, h4⟩ := srt_ok h1
  obtain ⟨h5, h6⟩ := chk_ok h3
  exact ⟨(scan_ok h5).1, h6, h4, h2⟩
theorem chk_tv {B : List Nat} {a : Nat} {x : Fs} {k : Nat} (hk : k < 2) (h : p_chk B (p_scan B (.inr (0, x00))) = .inr (a, x)) : TV B x.1 x.2.1 ∧ ∀ m ∈ mK x.2.2.2.2.1 x.2.2.2.2.2.1 k, tg B x.1 x.2.1 (b2 B (m + 4)) = 1 := by
  obtain ⟨h5, h6⟩ := chk_ok h
  have hG := (scan_ok h5).1
  refine ⟨EnG_tv hG.1, fun m hm => ?_⟩
  have : m ∈ x.2.2.2.2.1 ∨ m ∈ x.2.2.2.2.2.1 := by
    unfold mK at hm
    split at hm
    · exact Or.inl hm
    · exact Or.inr hm
  exact (wrg0 (h6 _ (hG.mem this).2)).2.1
