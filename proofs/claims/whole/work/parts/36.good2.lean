/-! a scan without a fault -/
theorem eSz_pos (B : List Nat) (p : Nat) : 3 ≤ eSz B p := by
  unfold eSz
  split
  · omega
  · split
    · omega
    · split <;> omega
theorem k_ents {B : List Nat} {m : Nat} : ∀ (f i : Nat) (a a' : Nat) (x x' : Fs), p_ents B m f i (.inr (a, x)) = .inr (a', x') → m ≤ i + f → i ≤ m → x.2.1 = m → EnG B x.1 i a → EnG B x'.1 m a' ∧ x'.2.1 = m ∧ x'.2.2.1 = x.2.2.1 ∧ x'.2.2.2.1 = x.2.2.2.1 ∧ x'.2.2.2.2.1 = x.2.2.2.2.1 ∧ x'.2.2.2.2.2.1 = x.2.2.2.2.2.1 ∧ (x.2.2.2.2.2.2 = zT B x.1 (i - 1) → x'.2.2.2.2.2.2 = zT B x'.1 (m - 1))
  | 0, i, a, a', x, x', e, hf, hi, hn, hG => by
    simp only [p_ents, Sum.inr.injEq, Prod.mk.injEq] at e
    obtain ⟨rfl, rfl⟩ := e
    have : i = m := by omega
    subst this
    exact ⟨hG, hn, rfl, rfl, rfl, rfl, fun q => q⟩
  | f + 1, i, a, a', x, x', e, hf, hi, hn, hG => by
    unfold p_ents at e
    by_cases him : i < m
    · rw [if_pos him] at e
      simp only at e
      cases hq : p_entry B (decide (i + 1 = m)) a (setS x i a) with
      | inl q =>
        rw [hq, p_ents_bad] at e
        cases e
      | inr q =>
        obtain ⟨b, y⟩ := q
        rw [hq] at e
        obtain ⟨t1, t2, t3, t4, t5⟩ := k_entry hq
        obtain ⟨g0, g1, g2, g3, g4, g5, g6, g7⟩ := hG
        have hz := eSz_pos B a
        have hw := wst_b (b1 B a)
        have hi2 : i + wst (b1 B a) ≤ m := by
          unfold wst at hw ⊢
          split
          · next hwd =>
            have : ¬ (i + 1 = m) := fun z => t2 ⟨by simp [z], hwd⟩
            omega
          · omega
        have hy1 : y.1 = upS x.1 i a := by rw [t5]; rfl
        have hy2 : y.2.1 = m := by rw [t5]; exact hn
        have hup : ∀ j, j ≤ i - 1 → x.1 j = upS x.1 i a j := fun j hj => by unfold upS; rw [if_neg (by omega)]
        have hui : upS x.1 i a i = a := by unfold upS; rw [if_pos rfl]
        have hun : ∀ j, i < j → upS x.1 i a j = 0 := fun j hj => by unfold upS; rw [if_neg (by omega)]; exact g3 j (by omega)
        have sw : ∀ (Z : Nat → Nat) (c : Nat), (∀ j, Z (j + 1) = Z j + (if upS x.1 i a (j + 1) = 0 then 0 else c)) → True := fun _ _ _ => trivial
        have hS1 : zS B (upS x.1 i a) (i + wst (b1 B a) - 1) = zS B x.1 (i - 1) + eSz B a := by
          have hi1 : i = (i - 1) + 1 := by omega
          have base : zS B (upS x.1 i a) i = zS B x.1 (i - 1) + eSz B a := by
            conv => lhs; rw [hi1]
            rw [zS, ← hi1, hui, if_neg (by omega), ← zS_congr (i - 1) hup]
          unfold wst
          split
          · rw [show i + 2 - 1 = i + 1 by omega, zS, base, hun (i + 1) (by omega)]; rfl
          · rw [show i + 1 - 1 = i by omega, base]
        have hW1 : zW B (upS x.1 i a) (i + wst (b1 B a) - 1) = zW B x.1 (i - 1) + wst (b1 B a) := by
          have hi1 : i = (i - 1) + 1 := by omega
          have base : zW B (upS x.1 i a) i = zW B x.1 (i - 1) + wst (b1 B a) := by
            conv => lhs; rw [hi1]
            rw [zW, ← hi1, hui, if_neg (by omega), ← zW_congr (i - 1) hup]
          by_cases hwd : b1 B a = 5 ∨ b1 B a = 6
          · have ew : wst (b1 B a) = 2 := if_pos hwd
            rw [ew] at base ⊢
            rw [show i + 2 - 1 = i + 1 by omega, zW, base, hun (i + 1) (by omega)]; rfl
          · have ew : wst (b1 B a) = 1 := if_neg hwd
            rw [ew] at base ⊢
            rw [show i + 1 - 1 = i by omega, base]
        have hT1 : zT B (upS x.1 i a) (i + wst (b1 B a) - 1) = zT B x.1 (i - 1) ++ eTl B a := by
          have hi1 : i = (i - 1) + 1 := by omega
          have base : zT B (upS x.1 i a) i = zT B x.1 (i - 1) ++ eTl B a := by
            conv => lhs; rw [hi1]
            rw [zT, ← hi1, hui, if_neg (by omega), ← zT_congr (i - 1) hup]
          unfold wst
          split
          · rw [show i + 2 - 1 = i + 1 by omega, zT, base, hun (i + 1) (by omega)]; simp
          · rw [show i + 1 - 1 = i by omega, base]
        have hG2 : EnG B y.1 (i + wst (b1 B a)) b := by
          rw [hy1]
          refine ⟨?_, by omega, t4, fun j hj => hun j (by omega), fun j hj => ?_, by rw [hS1]; omega, by rw [hW1]; omega, by omega⟩
          · unfold upS; rw [if_neg (by omega)]; exact g0
          · by_cases hji : j = i
            · subst hji
              rw [hui]
              exact ⟨g1, t1, by omega⟩
            · have hq : upS x.1 i a j = x.1 j := by unfold upS; rw [if_neg hji]
              rw [hq] at hj ⊢
              obtain ⟨r1, r2, r3⟩ := g4 j hj
              exact ⟨r1, r2, by omega⟩
        obtain ⟨r1, r2, r3, r4, r5, r6, r7⟩ := k_ents f _ b a' y x' e (by omega) hi2 hy2 hG2
        refine ⟨r1, r2, ?_, ?_, ?_, ?_, fun hq => r7 ?_⟩
        · rw [r3, t5]; rfl
        · rw [r4, t5]; rfl
        · rw [r5, t5]; rfl
        · rw [r6, t5]; rfl
        · rw [hy1, hT1, t5, ← hq]; rfl
    · rw [if_neg him] at e
      simp only [Sum.inr.injEq, Prod.mk.injEq] at e
      obtain ⟨rfl, rfl⟩ := e
      have : i = m := by omega
      subst this
      exact ⟨hG, hn, rfl, rfl, rfl, rfl, fun q => q⟩
theorem k_att {B : List Nat} {s : Rt} {a' : Nat} {x' : Fs} (e : p_att B s = .inr (a', x')) : ∃ a x, s = .inr (a, x) ∧ a' = a + 6 + b4 B (a + 2) ∧ a' ≤ B.length ∧ b4 B (a + 2) < 2 ^ 31 ∧ x' = apT x [(a, 1)] := by
  unfold p_att at e
  split at e
  · cases e
  · next a1 x1 e1 =>
    obtain ⟨a2, e2, r1, r2⟩ := k_skip e1
    obtain ⟨a3, x3, e3, r3, r4, r5⟩ := k_tell e2
    split at e
    · cases e
    · next hn =>
      obtain ⟨a4, e4, r6, r7⟩ := k_skip e
      simp only [Sum.inr.injEq, Prod.mk.injEq] at e4
      obtain ⟨rfl, rfl⟩ := e4
      have : a1 - 4 = a3 + 2 := by omega
      rw [this] at r6 hn
      exact ⟨a3, x3, e3, by omega, r7, by omega, r5⟩
theorem k_atts {B : List Nat} : ∀ (d : Nat) (a a' : Nat) (x x' : Fs), a ≤ B.length → p_atts B d (.inr (a, x)) = .inr (a', x') → a' = atP B d a ∧ AttG B d a ∧ x' = apT x (attT B d a)
  | 0, a, a', x, x', ha, e => by
    simp only [p_atts, Sum.inr.injEq, Prod.mk.injEq] at e
    obtain ⟨rfl, rfl⟩ := e
    exact ⟨rfl, ha, (apT_nil _).symm⟩
  | d + 1, a, a', x, x', ha, e => by
    rw [show p_atts B (d + 1) (.inr (a, x)) = p_atts B d (p_att B (.inr (a, x))) from rfl] at e
    cases hq : p_att B (.inr (a, x)) with
    | inl q =>
      rw [hq] at e
      cases d <;> cases e
    | inr q =>
      obtain ⟨b, y⟩ := q
      rw [hq] at e
      obtain ⟨a1, x1, e1, r1, r2, r3, r4⟩ := k_att hq
      simp only [Sum.inr.injEq, Prod.mk.injEq] at e1
      obtain ⟨rfl, rfl⟩ := e1
      obtain ⟨q1, q2, q3⟩ := k_atts d b a' y x' r2 e
      rw [r1] at q1 q2 q3 r2
      exact ⟨q1, ⟨r2, r3, q2⟩, by rw [q3, r4, apT_apT]; rfl⟩
theorem p_atts_bad (B : List Nat) (e : Nat × Nat) : ∀ d, p_atts B d (.inl e) = .inl e
  | 0 => rfl
  | _ + 1 => rfl
theorem k_attrs {B : List Nat} {s : Rt} {a' : Nat} {x' : Fs} (e : p_attrs B s = .inr (a', x')) : ∃ a x, s = .inr (a, x) ∧ a + 2 ≤ B.length ∧ b2 B a ≤ 6 ∧ AttG B (b2 B a) (a + 2) ∧ a' = attE B a ∧ x' = apT x (attT B (b2 B a) (a + 2)) := by
  unfold p_attrs at e
  cases hq : (p_many B 6 s).2 with
  | inl q => rw [hq, p_atts_bad] at e; cases e
  | inr q =>
    obtain ⟨b, y⟩ := q
    rw [hq] at e
    obtain ⟨a, e1, r1, r2, r3, r4⟩ := k_many hq
    rw [r4] at e
    subst r1
    obtain ⟨q1, q2, q3⟩ := k_atts _ _ _ _ _ r2 e
    exact ⟨a, y, e1, r2, r3, q2, q1, q3⟩
/-- members put behind -/
def apM (x : Fs) (k : Nat) (L : List Nat) : Fs := (x.1, x.2.1, x.2.2.1, x.2.2.2.1, (if k = 0 then x.2.2.2.2.1 ++ L else x.2.2.2.2.1), (if k = 0 then x.2.2.2.2.2.1 else x.2.2.2.2.2.1 ++ L), x.2.2.2.2.2.2)
theorem apM_nil (x : Fs) (k : Nat) : apM x k [] = x := by
  unfold apM
  simp only [List.append_nil, ite_self]
theorem AttG_le {B : List Nat} : ∀ d p, AttG B d p → atP B d p ≤ B.length ∧ p ≤ B.length
  | 0, p, h => ⟨h, h⟩
  | d + 1, p, h => by
    obtain ⟨h1, h2, h3⟩ := h
    have := AttG_le d _ h3
    exact ⟨this.1, by omega⟩
theorem k_mems {B : List Nat} {k : Nat} : ∀ (d : Nat) (a a' : Nat) (x x' : Fs), a ≤ B.length → p_mems B k d (.inr (a, x)) = .inr (a', x') → a' = memE B d a ∧ MemG B d a ∧ x' = apT (apM x k (memL B d a)) (memT B d a)
  | 0, a, a', x, x', ha, e => by
    simp only [p_mems, Sum.inr.injEq, Prod.mk.injEq] at e
    obtain ⟨rfl, rfl⟩ := e
    exact ⟨rfl, ha, by rw [memL, memT, apM_nil, apT_nil]⟩
  | d + 1, a, a', x, x', ha, e => by
    rw [show p_mems B k (d + 1) (.inr (a, x)) = p_mems B k d (p_mem B k a x) from rfl] at e
    cases hq : p_mem B k a x with
    | inl q =>
      rw [hq] at e
      cases d <;> cases e
    | inr q =>
      obtain ⟨b, y⟩ := q
      rw [hq] at e
      obtain ⟨a1, x1, e1, r1, r2, r3, r4, r5⟩ := k_attrs hq
      obtain ⟨a2, x2, e2, t1, t2, t3⟩ := k_tell e1
      obtain ⟨a3, x3, e3, t4, t5, t6⟩ := k_tell e2
      obtain ⟨a4, e4, t7, t8⟩ := k_skip e3
      simp only [Sum.inr.injEq, Prod.mk.injEq] at e4
      obtain ⟨rfl, rfl⟩ := e4
      have ea : a1 = a + 6 := by omega
      subst ea
      have hb : b ≤ B.length := by rw [r4]; exact (AttG_le _ _ r3).1
      obtain ⟨q1, q2, q3⟩ := k_mems d b a' y x' hb e
      rw [r4] at q1 q2 q3
      refine ⟨q1, ⟨r1, r2, r3, q2⟩, ?_⟩
      rw [q3, r5, t3, t6, show a2 = a + 4 by omega, show a3 = a + 2 by omega]
      rw [memL, memT]
      unfold apT apM addM
      by_cases hk : k = 0
      · simp [hk]
      · simp [hk]
theorem p_mems_bad (B : List Nat) (k : Nat) (e : Nat × Nat) : ∀ d, p_mems B k d (.inl e) = .inl e
  | 0 => rfl
  | _ + 1 => rfl
theorem k_members {B : List Nat} {k : Nat} {s : Rt} {a' : Nat} {x' : Fs} (e : p_members B k s = .inr (a', x')) : ∃ a x, s = .inr (a, x) ∧ a + 2 ≤ B.length ∧ b2 B a ≤ 12 ∧ MemG B (b2 B a) (a + 2) ∧ a' = memE B (b2 B a) (a + 2) ∧ x' = apT (apM x k (memL B (b2 B a) (a + 2))) (memT B (b2 B a) (a + 2)) := by
  unfold p_members at e
  cases hq : (p_many B 12 s).2 with
  | inl q => rw [hq, p_mems_bad] at e; cases e
  | inr q =>
    obtain ⟨b, y⟩ := q
    rw [hq] at e
    obtain ⟨a, e1, r1, r2, r3, r4⟩ := k_many hq
    rw [r4] at e
    subst r1
    obtain ⟨q1, q2, q3⟩ := k_mems _ _ _ _ _ r2 e
    exact ⟨a, y, e1, r2, r3, q2, q1, q3⟩
theorem p_tells_bad (B : List Nat) (e : Nat × Nat) : ∀ d, p_tells B d (.inl e) = .inl e
  | 0 => rfl
  | _ + 1 => rfl
theorem k_tells {B : List Nat} : ∀ (d : Nat) (a a' : Nat) (x x' : Fs), a ≤ B.length → p_tells B d (.inr (a, x)) = .inr (a', x') → a' = a + 2 * d ∧ a' ≤ B.length ∧ x' = apT x (facT d a)
  | 0, a, a', x, x', ha, e => by
    simp only [p_tells, Sum.inr.injEq, Prod.mk.injEq] at e
    obtain ⟨rfl, rfl⟩ := e
    exact ⟨rfl, ha, (apT_nil _).symm⟩
  | d + 1, a, a', x, x', ha, e => by
    rw [show p_tells B (d + 1) (.inr (a, x)) = p_tells B d (p_tell B 7 (.inr (a, x))) from rfl] at e
    cases hq : p_tell B 7 (.inr (a, x)) with
    | inl q =>
      rw [hq, p_tells_bad] at e; cases e
    | inr q =>
      obtain ⟨b, y⟩ := q
      rw [hq] at e
      obtain ⟨a1, x1, e1, r1, r2, r3⟩ := k_tell hq
      simp only [Sum.inr.injEq, Prod.mk.injEq] at e1
      obtain ⟨rfl, rfl⟩ := e1
      obtain ⟨q1, q2, q3⟩ := k_tells d b a' y x' r2 e
      exact ⟨by omega, q2, by rw [q3, r3, apT_apT, r1]; rfl⟩
theorem k_above {B : List Nat} {s : Rt} {a' : Nat} {x' : Fs} (e : p_above B s = .inr (a', x')) : ∃ a x, s = .inr (a, x) ∧ a' = a + 2 ∧ a' ≤ B.length ∧ x' = apT x (if b2 B a = 0 then [] else [(a, 7)]) := by
  unfold p_above at e
  split at e
  · cases e
  · next a x =>
    split at e
    · next h0 =>
      obtain ⟨a1, e1, r1, r2⟩ := k_skip e
      simp only [Sum.inr.injEq, Prod.mk.injEq] at e1
      obtain ⟨rfl, rfl⟩ := e1
      exact ⟨a, x, rfl, r1, r2, by rw [if_pos h0, apT_nil]⟩
    · next h0 =>
      obtain ⟨a1, x1, e1, r1, r2, r3⟩ := k_tell e
      simp only [Sum.inr.injEq, Prod.mk.injEq] at e1
      obtain ⟨rfl, rfl⟩ := e1
      exact ⟨a, x, rfl, r1, r2, by rw [if_neg h0, r3]⟩
/-- how a reader begins -/
def x00 : Fs := (fun _ => 0, 0, 0, 0, [], [], [])
theorem k_mags {B : List Nat} : ∀ (d i : Nat) (s : Rt) (a' : Nat) (x' : Fs), p_mags B d i s = .inr (a', x') → ∃ a, s = .inr (a, x') ∧ a' = a + d ∧ (a ≤ B.length → a' ≤ B.length)
  | 0, i, s, a', x', e => ⟨a', e, rfl, fun q => q⟩
  | d + 1, i, s, a', x', e => by
    obtain ⟨a, e1, r1, r2⟩ := k_mags d (i + 1) _ a' x' e
    unfold p_mag at e1
    split at e1
    · obtain ⟨a1, e2, r3, r4⟩ := k_skip e1
      exact ⟨a1, e2, by omega, fun _ => r2 (by omega)⟩
    · exact absurd e1 (fun z => k_fail z)
theorem k_entries {B : List Nat} {s : Rt} {a' : Nat} {x' : Fs} (e : p_entries B s = .inr (a', x')) : ∃ a x, s = .inr (a, x) ∧ a + 2 ≤ B.length ∧ b2 B a ≤ 61 ∧ (a = 8 → EnG B x'.1 (b2 B a) a') ∧ x'.2.1 = b2 B a ∧ x'.2.2.1 = x.2.2.1 ∧ x'.2.2.2.1 = x.2.2.2.1 ∧ x'.2.2.2.2.1 = x.2.2.2.2.1 ∧ x'.2.2.2.2.2.1 = x.2.2.2.2.2.1 ∧ (x.2.2.2.2.2.2 = [] → a = 8 → x'.2.2.2.2.2.2 = zT B x'.1 (b2 B a - 1)) := by
  unfold p_entries at e
  split at e
  · cases e
  · next a x =>
    cases hq : (p_many B 61 (.inr (a, x))).2 with
    | inl q =>
      rw [hq] at e
      split at e
      · simp only [p_fail, p_begin, p_ents_bad] at e; cases e
      · simp only [p_begin, p_ents_bad] at e; cases e
    | inr q =>
      obtain ⟨b, y⟩ := q
      obtain ⟨a1, e1, r1, r2, r3, r4⟩ := k_many hq
      simp only [Sum.inr.injEq, Prod.mk.injEq] at e1
      obtain ⟨rfl, rfl⟩ := e1
      rw [hq, r4] at e
      by_cases hz : b2 B a = 0
      · rw [if_pos hz] at e
        simp only [p_fail, p_begin, p_ents_bad] at e; cases e
      · rw [if_neg hz] at e
        simp only [p_begin] at e
        refine ⟨a, x, rfl, by omega, r3, ?_⟩
        by_cases ha : a = 8
        · have hG : EnG B (fun _ => 0) 1 b := ⟨rfl, by omega, r2, fun _ _ => rfl, fun j hj => absurd rfl hj, by show 10 + 0 = b; omega, rfl, Nat.le_refl _⟩
          obtain ⟨g1, g2, g3, g4, g5, g6, g7⟩ := k_ents (b2 B a) 1 b a' (fun _ => 0, b2 B a, x.2.2) x' e (by omega) (by omega) rfl hG
          exact ⟨fun _ => g1, g2, g3, g4, g5, g6, fun q _ => g7 q⟩
        · have hn : ∀ (f i : Nat) (c : Nat) (y x' : Fs) (a' : Nat), p_ents B (b2 B a) f i (.inr (c, y)) = .inr (a', x') → x'.2.1 = y.2.1 ∧ x'.2.2.1 = y.2.2.1 ∧ x'.2.2.2.1 = y.2.2.2.1 ∧ x'.2.2.2.2.1 = y.2.2.2.2.1 ∧ x'.2.2.2.2.2.1 = y.2.2.2.2.2.1 := by
            intro f
            induction f with
            | zero => intro i c y x' a' e; simp only [p_ents, Sum.inr.injEq, Prod.mk.injEq] at e; obtain ⟨rfl, rfl⟩ := e; exact ⟨rfl, rfl, rfl, rfl, rfl⟩
            | succ f ih =>
              intro i c y x' a' e
              unfold p_ents at e
              split at e
              · simp only at e
                cases hq : p_entry B (decide (i + 1 = b2 B a)) c (setS y i c) with
                | inl q => rw [hq, p_ents_bad] at e; cases e
                | inr q =>
                  obtain ⟨b', y'⟩ := q
                  rw [hq] at e
                  obtain ⟨-, -, -, -, t5⟩ := k_entry hq
                  obtain ⟨g2, g3, g4, g5, g6⟩ := ih _ _ _ _ _ e
                  rw [t5] at g2 g3 g4 g5 g6
                  exact ⟨g2, g3, g4, g5, g6⟩
              · simp only [Sum.inr.injEq, Prod.mk.injEq] at e; obtain ⟨rfl, rfl⟩ := e; exact ⟨rfl, rfl, rfl, rfl, rfl⟩
          obtain ⟨g2, g3, g4, g5, g6⟩ := hn _ _ _ _ _ _ e
          exact ⟨fun q => absurd q ha, g2, g3, g4, g5, g6, fun _ q => absurd q ha⟩
theorem scan_ok {B : List Nat} {a' : Nat} {x' : Fs} (e : p_scan B (.inr (0, x00)) = .inr (a', x')) : GF B x' ∧ a' = B.length := by
  unfold p_scan p_rest at e
  unfold p_end at e
  split at e
  · cases e
  · next a1 x1 e1 =>
    split at e
    · cases e
    · next hend =>
      simp only [Sum.inr.injEq, Prod.mk.injEq] at e
      obtain ⟨rfl, rfl⟩ := e
      obtain ⟨a2, x2, e2, r1, r2, r3, r4, r5⟩ := k_attrs e1
      unfold p_aa at e2
      split at e2
      · cases e2
      · next a3 x3 e3 =>
        simp only [Sum.inr.injEq, Prod.mk.injEq] at e2
        obtain ⟨rfl, rfl⟩ := e2
        obtain ⟨a4, x4, e4, t1, t2, t3, t4, t5⟩ := k_members e3
        obtain ⟨a5, x5, e5, u1, u2, u3, u4, u5⟩ := k_members e4
        generalize hS7 : p_heads B (p_entries B (p_skip B 4 (p_mags B 4 0 (.inr (0, x00))))) = s7 at e5
        cases hq : (p_many B 8 s7).2 with
        | inl q => rw [hq, p_tells_bad] at e5; cases e5
        | inr q =>
          obtain ⟨b, y⟩ := q
          rw [hq] at e5
          obtain ⟨a6, e6, v1, v2, v3, v4⟩ := k_many hq
          rw [v4] at e5
          obtain ⟨w1, w2, w3⟩ := k_tells _ _ _ _ _ v2 e5
          rw [← hS7] at e6
          unfold p_heads at e6
          obtain ⟨a7, x7, e7, y1, y2, y3⟩ := k_above e6
          obtain ⟨a8, x8, e8, y4, y5, y6⟩ := k_tell e7
          obtain ⟨a9, e9, y7, y8⟩ := k_skip e8
          unfold p_bh at e9
          split at e9
          · cases e9
          · next a10 x10 e10 =>
            simp only [Sum.inr.injEq, Prod.mk.injEq] at e9
            obtain ⟨rfl, rfl⟩ := e9
            obtain ⟨a11, x11, e11, z1, z2, z3, z4, z5, z6, z7, z8, z9⟩ := k_entries e10
            obtain ⟨a12, e12, o1, o2⟩ := k_skip e11
            obtain ⟨a13, e13, o3, o4⟩ := k_mags _ _ _ _ _ e12
            simp only [Sum.inr.injEq, Prod.mk.injEq] at e13
            obtain ⟨rfl, rfl⟩ := e13
            have ha8 : a11 = 8 := by omega
            subst ha8
            have hG := z3 rfl
            have hTl := z9 rfl rfl
            have q6 : a6 = a10 + 6 := by omega
            have q7 : a7 = a10 + 4 := by omega
            have q8 : a8 = a10 + 2 := by omega
            subst q6
            rw [q7] at y3
            rw [q8] at y6
            subst v1
            have e5p : a5 = fP B a10 := by unfold fP; omega
            subst e5p
            have e4p : a4 = mP B a10 := u4
            subst e4p
            have e3p : a3 = aP B a10 := t4
            have k1 : x10.2.2.2.2.1 = [] := z7
            have k2 : x10.2.2.2.2.2.1 = [] := z8
            have hx1 : x1 = (x10.1, x10.2.1, a10, aP B a10, memL B (b2 B (fP B a10)) (fP B a10 + 2), memL B (b2 B (mP B a10)) (mP B a10 + 2), zT B x10.1 (x10.2.1 - 1) ++ bT B a10) := by
              rw [r5, t5, u5, w3, y3, y6, e3p]
              simp only [apT, apM, if_true, Nat.one_ne_zero, if_false, k1, k2, List.nil_append, hTl, z4, bT, List.append_assoc, List.cons_append]
            rw [hx1]
            rw [e3p] at r1 r2 r3 r4
            have hbb : b2 B 8 = x10.2.1 := z4.symm
            refine ⟨⟨?_, z4, by rw [z4]; exact z2, by show a10 + 8 ≤ B.length; omega, v3, u1, u2, u3, t1, t2, t3, r1, r2, r3, ?_, rfl, rfl, rfl, rfl⟩, ?_⟩
            · rw [hbb] at hG; exact hG
            · have := (AttG_le _ _ r3).1
              show attE B (aP B a10) = B.length
              rw [r4] at hend
              have h2 : attE B (aP B a10) ≤ B.length := this
              omega
            · have := (AttG_le _ _ r3).1
              have h2 : attE B (aP B a10) ≤ B.length := this
              omega
