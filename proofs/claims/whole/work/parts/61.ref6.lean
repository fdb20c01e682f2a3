/-! the other side: where a scan is, step by step -/
theorem smP_heads {B : List Nat} (s : Rt) : smP (p_skip B 6 s) (p_heads B s) := by
  unfold p_heads
  have h1 : smP s (p_bh s) := by cases s <;> exact rfl
  have h2 : smP (p_skip B 2 (p_skip B 2 s)) (p_tell B 7 (p_skip B 2 (p_bh s))) := smP_tr (smP_skip (smP_skip h1)) (smP_tell _)
  have h3 : ∀ t : Rt, smP (p_skip B 2 t) (p_above B t) := by
    intro t
    unfold p_above
    cases t with
    | inl e => exact rfl
    | inr e =>
      by_cases h : b2 B e.1 = 0
      · simp only [h, if_true]; exact smP_rf _
      · simp only [h, if_false]; exact smP_tell _
  rw [show (6 : Nat) = 2 + 2 + 2 from rfl, ← skip_skip (j := 2) (k := 2 + 2), ← skip_skip (j := 2) (k := 2)]
  exact smP_tr (smP_skip h2) (h3 _)
theorem smP_tells {B : List Nat} : ∀ (d : Nat) (s : Rt), (∀ p x, s = .inr (p, x) → p ≤ B.length) → smP (p_skip B (2 * d) s) (p_tells B d s)
  | 0, s, hs => by
    cases s with
    | inl e => exact rfl
    | inr e => unfold p_skip p_tells; simp only [Nat.mul_zero, Nat.add_zero, hs e.1 e.2 rfl, if_true]; exact rfl
  | d + 1, s, hs => by
    cases s with
    | inl e => exact rfl
    | inr e =>
      show smP (p_skip B (2 * (d + 1)) (.inr e)) (p_tells B d (p_tell B 7 (.inr e)))
      have ih := smP_tells d (p_tell B 7 (.inr e)) (fun p x q => by obtain ⟨_, _, _, _, q2, _⟩ := k_tell q; exact q2)
      refine smP_tr ?_ ih
      rw [show 2 * (d + 1) = 2 + 2 * d by omega, ← skip_skip]
      exact smP_skip (smP_tell _)
/-- the state behind the count of places -/
def p_cnt (B : List Nat) (s : Rt) : Rt := match s with
  | .inl e => .inl e
  | .inr (a, x) => if a + 2 ≤ B.length then (if 1 ≤ b2 B a ∧ b2 B a ≤ 61 then .inr (a + 2, x) else .inl (3, a)) else .inl (1, B.length)
theorem p_entries_cnt {B : List Nat} (s : Rt) : (∀ e, p_cnt B s = .inl e → p_entries B s = .inl e) ∧ ∀ a x, s = .inr (a, x) → ∀ y, p_cnt B s = .inr y → y = (a + 2, x) ∧ p_entries B s = p_ents B (b2 B a) (b2 B a) 1 (.inr (a + 2, (fun _ => 0, b2 B a, x.2.2))) := by
  cases s with
  | inl e => exact ⟨fun e' h => h, fun a x h => by cases h⟩
  | inr e =>
    obtain ⟨a, x⟩ := e
    refine ⟨fun e' h => ?_, fun a' x' h y hy => ?_⟩
    · unfold p_entries p_cnt at *
      simp only at h ⊢
      by_cases h1 : a + 2 ≤ B.length
      · rw [if_pos h1] at h
        by_cases h2 : 1 ≤ b2 B a ∧ b2 B a ≤ 61
        · rw [if_pos h2] at h; cases h
        · rw [if_neg h2] at h
          simp only [Sum.inl.injEq] at h
          subst h
          by_cases h3 : b2 B a ≤ 61
          · have e1 : p_many B 61 (.inr (a, x)) = (b2 B a, .inr (a + 2, x)) := (if_pos h1).trans (if_pos h3)
            rw [e1]
            simp only
            rw [if_pos (by omega)]
            exact p_ents_bad _ _ _ _
          · have e1 : p_many B 61 (.inr (a, x)) = (0, .inl (3, a)) := (if_pos h1).trans (if_neg h3)
            rw [e1]
            rfl
      · rw [if_neg h1] at h
        simp only [Sum.inl.injEq] at h
        subst h
        have e1 : p_many B 61 (.inr (a, x)) = (0, .inl (1, B.length)) := if_neg h1
        rw [e1]
        rfl
    · simp only [Sum.inr.injEq, Prod.mk.injEq] at h
      obtain ⟨rfl, rfl⟩ := h
      unfold p_cnt at hy
      simp only at hy
      split at hy
      · next h1 =>
        split at hy
        · next h2 =>
          simp only [Sum.inr.injEq] at hy
          refine ⟨hy.symm, ?_⟩
          unfold p_entries
          have e1 : p_many B 61 (.inr (a, x)) = (b2 B a, .inr (a + 2, x)) := (if_pos h1).trans (if_pos h2.2)
          simp only [e1]
          rw [if_neg (by omega)]
          rfl
        · cases hy
      · cases hy
theorem scan_pos {B : List Nat} {a' : Nat} {x' : Fs} (e : p_scan B (.inr (0, x00)) = .inr (a', x')) : (∃ x3, p_entries B (p_skip B 4 (p_mags B 4 0 (.inr (0, x00)))) = .inr (x'.2.2.1, x3) ∧ x3.1 = x'.1 ∧ x3.2.1 = x'.2.1) ∧ (∃ y, p_tells B (p_many B 8 (p_heads B (p_entries B (p_skip B 4 (p_mags B 4 0 (.inr (0, x00))))))).1 (p_many B 8 (p_heads B (p_entries B (p_skip B 4 (p_mags B 4 0 (.inr (0, x00))))))).2 = .inr (fP B x'.2.2.1, y)) ∧ (∃ y, p_members B 0 (p_tells B (p_many B 8 (p_heads B (p_entries B (p_skip B 4 (p_mags B 4 0 (.inr (0, x00))))))).1 (p_many B 8 (p_heads B (p_entries B (p_skip B 4 (p_mags B 4 0 (.inr (0, x00))))))).2) = .inr (mP B x'.2.2.1, y)) ∧ (∃ y, p_members B 1 (p_members B 0 (p_tells B (p_many B 8 (p_heads B (p_entries B (p_skip B 4 (p_mags B 4 0 (.inr (0, x00))))))).1 (p_many B 8 (p_heads B (p_entries B (p_skip B 4 (p_mags B 4 0 (.inr (0, x00))))))).2)) = .inr (aP B x'.2.2.1, y)) ∧ (p_many B 8 (p_heads B (p_entries B (p_skip B 4 (p_mags B 4 0 (.inr (0, x00))))))).1 = b2 B (x'.2.2.1 + 6) ∧ ∃ y, p_attrs B (p_aa (p_members B 1 (p_members B 0 (p_tells B (p_many B 8 (p_heads B (p_entries B (p_skip B 4 (p_mags B 4 0 (.inr (0, x00))))))).1 (p_many B 8 (p_heads B (p_entries B (p_skip B 4 (p_mags B 4 0 (.inr (0, x00))))))).2)))) = .inr y := by
  unfold p_scan p_rest at e
  unfold p_end at e
  split at e
  · cases e
  · next a1 x1 e1 =>
    split at e
    · cases e
    · simp only [Sum.inr.injEq, Prod.mk.injEq] at e
      obtain ⟨rfl, rfl⟩ := e
      have E1 := e1
      obtain ⟨a2, x2, e2, r1, r2, r3, r4, r5⟩ := k_attrs e1
      unfold p_aa at e2
      split at e2
      · cases e2
      · next a3 x3 e3 =>
        simp only [Sum.inr.injEq, Prod.mk.injEq] at e2
        obtain ⟨rfl, rfl⟩ := e2
        have E3 := e3
        obtain ⟨a4, x4, e4, t1, t2, t3, t4, t5⟩ := k_members e3
        have E4 := e4
        obtain ⟨a5, x5, e5, u1, u2, u3, u4, u5⟩ := k_members e4
        have E5 := e5
        generalize hS7 : p_heads B (p_entries B (p_skip B 4 (p_mags B 4 0 (.inr (0, x00))))) = s7 at *
        cases hq : (p_many B 8 s7).2 with
        | inl q => rw [hq, p_tells_bad] at e5; cases e5
        | inr q =>
          obtain ⟨b, y⟩ := q
          rw [hq] at e5
          obtain ⟨a6, e6, v1, v2, v3, v4⟩ := k_many hq
          rw [v4] at e5
          obtain ⟨w1, w2, w3⟩ := k_tells _ _ _ _ _ v2 e5
          rw [← hS7] at e6
          unfold p_heads at e6
          obtain ⟨a7, x7, e7, y1, y2, y3⟩ := k_above e6
          obtain ⟨a8, x8, e8, y4, y5, y6⟩ := k_tell e7
          obtain ⟨a9, e9, y7, y8⟩ := k_skip e8
          unfold p_bh at e9
          split at e9
          · cases e9
          · next a10 x10 e10 =>
            simp only [Sum.inr.injEq, Prod.mk.injEq] at e9
            obtain ⟨rfl, rfl⟩ := e9
            have q6 : a6 = a10 + 6 := by omega
            subst q6
            subst v1
            have e5p : a5 = fP B a10 := by unfold fP; omega
            subst e5p
            have e4p : a4 = mP B a10 := u4
            subst e4p
            have e3p : a3 = aP B a10 := t4
            subst e3p
            have hx1 : x1.1 = x10.1 ∧ x1.2.1 = x10.2.1 ∧ x1.2.2.1 = a10 := by
              rw [r5, t5, u5, w3, y3, y6]
              exact ⟨rfl, rfl, rfl⟩
            obtain ⟨hx1, hx2, hx3⟩ := hx1
            rw [hx3]
            rw [hq] at E1 E3 E4 E5
            exact ⟨⟨x10, e10, hx1.symm, hx2.symm⟩, ⟨_, E5⟩, ⟨_, E4⟩, ⟨_, E3⟩, v4, ⟨_, E1⟩⟩
