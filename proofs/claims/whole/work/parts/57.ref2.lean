/-! the other side: steps of parsing -/
def mcl (a : Nat → Value) (f : Nat) (p fl fp : Int32) : List Value := [a 0, a 1, a 2, a 3, a 4, a 5, .ref f, .int p, .int fl, .int fp, a 10, a 11, a 12, a 13, a 14, a 15, a 16]
def RqM (s : Rt) (p : Nat) (k : Nat) (fp : Int32) : Prop := match s with
  | .inl (f', w') => k = f' ∧ fp = nI w' ∧ f' ≠ 0
  | .inr (a', _) => k = 0 ∧ fp = -1 ∧ p = a'
abbrev MCe (h : Hp) (m0 : Nat) (a : Nat → Value) (f p k : Nat) (fp : Int32) : Prop := h.2.2 m0 = some (true, .inr (11, [a 0, a 1, a 2, a 3, a 4, a 5, .ref f, .int (nI p), .int (nI k), .int fp, a 10, a 11, a 12, a 13, a 14, a 15, a 16]))
def RQ (h : Hp) (m0 f : Nat) (a : Nat → Value) (B : List Nat) (s : Rt) : Prop := ∃ p k fp, MCe h m0 a f p k fp ∧ p ≤ B.length ∧ k ≤ 10 ∧ RqM s p k fp
section REF2
variable {nb sa : Nat} {h : Hp} {m0 f b : Nat} {a : Nat → Value} {B : List Nat} {s : Rt}
theorem RqM.ok {s : Rt} {p : Nat} {fp : Int32} (h : RqM s p 0 fp) : (∃ x, s = .inr (p, x)) ∧ fp = -1 := by
  cases s with
  | inl e => exact absurd h.1.symm h.2.2
  | inr e => obtain ⟨-, h1, h2⟩ := h; subst h2; exact ⟨⟨e.2, rfl⟩, h1⟩
theorem RqM.bad {s : Rt} {p k : Nat} {fp : Int32} (h : RqM s p k fp) (hk : k ≠ 0) : ∃ w, s = .inl (k, w) ∧ fp = nI w := by
  cases s with
  | inl e => obtain ⟨h1, h2, h3⟩ := h; exact ⟨e.2, by rw [h1], h2⟩
  | inr e => exact absurd h.1 hk
theorem HB.fr {h' : Hp} {lo hi : Nat} (hB : HB h f b B) (F : FrI lo hi h h') (h1 : f < lo ∨ hi ≤ f) (h2 : b < lo ∨ hi ≤ b) : HB h' f b B := by
  obtain ⟨⟨r, hf⟩, w, g, e1, e2⟩ := hB
  exact ⟨⟨r, F.at hf (by omega)⟩, w, g, F.at e1 (by omega), e2⟩
theorem c_MO_fails (hs : RQ h m0 f a B s) {k w : Nat} (hk : k ≠ 0) (hk2 : k ≤ 10) : EvQ (prog nb sa) m_MO_fails [.ref m0, .int (nI k), .int (nI w)] h (fun v h' => v = none ∧ RQ h' m0 f a B (p_fail k w s) ∧ FrI m0 (m0 + 1) h h') := by
  obtain ⟨p, j, fp, hc, hp, hj, hm⟩ := id hs
  refine EvQ_of k_MO_fails 3 [some (.ref m0), some (.int (nI k)), some (.int (nI w))] rfl (Nat.le_of_ble_eq_true rfl) rfl ?_
  by_cases hj0 : j = 0
  · subst hj0
    obtain ⟨⟨x, rfl⟩, rfl⟩ := hm.ok
    refine Ex_mv rfl rfl ?_; refine Ex_getf rfl (by assumption) rfl ?_; refine Ex_mv rfl rfl ?_; refine Ex_iff (by decide) ?_; refine Ex_mv rfl rfl ?_; refine Ex_mv rfl rfl ?_; refine Ex_putf rfl (by assumption) rfl rfl ?_; refine Ex_mv rfl rfl ?_; refine Ex_mv rfl rfl ?_; refine Ex_putf rfl hs_at rfl rfl ?_
    refine Ex_rt rfl rfl ?_
    exact ⟨rfl, ⟨p, k, nI w, hs_at, hp, hk2, rfl, rfl, hk⟩, (FrI.rf.set (by omega) (by omega)).set (by omega) (by omega)⟩
  · obtain ⟨w', rfl, rfl⟩ := hm.bad hj0
    refine Ex_mv rfl rfl ?_; refine Ex_getf rfl (by assumption) rfl ?_; refine Ex_mv rfl rfl ?_; refine Ex_ift (nI_nz hj0 (by omega)) ?_
    refine Ex_rt rfl rfl ?_
    exact ⟨rfl, hs, FrI.rf⟩
def ok1 (s : Rt) : Nat := match s with
  | .inl _ => 0
  | .inr _ => 1
theorem c_MO_goes (hs : RQ h m0 f a B s) (hB : HB h f b B) (hd : m0 < f) (hb : m0 < b) {k : Nat} (hk : k < 2 ^ 31) : EvQ (prog nb sa) m_MO_goes [.ref m0, .int (nI k)] h (fun v h' => v = some (.int (nI (ok1 (p_skip B k s)))) ∧ RQ h' m0 f a B (p_skip B k s) ∧ FrI m0 (m0 + 1) h h') := by
  obtain ⟨p, j, fp, hc, hp, hj, hm⟩ := id hs
  obtain ⟨⟨r, hf⟩, w, g, e1, e2, e3, e4⟩ := id hB
  refine EvQ_of k_MO_goes 2 [some (.ref m0), some (.int (nI k))] rfl (Nat.le_of_ble_eq_true rfl) rfl ?_
  by_cases hj0 : j = 0
  · subst hj0
    obtain ⟨⟨x, rfl⟩, rfl⟩ := hm.ok
    by_cases e : p + k ≤ B.length
    · have es : p_skip B k (.inr (p, x)) = .inr (p + k, x) := if_pos e
      rw [es]
      refine Ex_mv rfl rfl ?_; refine Ex_getf rfl (by assumption) rfl ?_; refine Ex_mv rfl rfl ?_; refine Ex_iff (by decide) ?_; refine Ex_mv rfl rfl ?_; refine Ex_mv rfl rfl ?_; refine Ex_getf rfl (by assumption) rfl ?_; refine Ex_getf rfl (by assumption) rfl ?_; refine Ex_alen rfl (by assumption) rfl ?_; refine Ex_mv rfl rfl ?_; refine Ex_getf rfl (by assumption) rfl ?_; (first | refine Ex_subN rfl (by omega) ?_ | refine Ex_mv rfl rfl ?_); refine Ex_mv rfl rfl ?_; refine Ex_ift (nI_le (by omega) (by omega)) ?_; refine Ex_mv rfl rfl ?_; refine Ex_mv rfl rfl ?_; refine Ex_getf rfl (by assumption) rfl ?_; refine Ex_mv rfl rfl ?_; refine Ex_getf rfl (by assumption) rfl ?_; refine Ex_mv rfl rfl ?_; refine Ex_iff (by decide) ?_; refine Ex_mv rfl rfl ?_; refine Ex_mv rfl rfl ?_; (first | refine Ex_addN rfl ?_ | refine Ex_mv rfl rfl ?_); refine Ex_putf rfl (by assumption) rfl rfl ?_; refine Ex_mv rfl rfl ?_; refine Ex_getf rfl hs_at rfl ?_; refine Ex_mv rfl rfl ?_; refine Ex_iff (by decide) ?_; refine Ex_mv rfl rfl ?_; refine Ex_mv rfl rfl ?_
      refine Ex_rt rfl rfl ?_
      exact ⟨rfl, ⟨p + k, 0, -1, hs_at, e, by decide, rfl, rfl, rfl⟩, FrI.rf.set (by omega) (by omega)⟩
    · have es : p_skip B k (.inr (p, x)) = .inl (1, B.length) := if_neg e
      rw [es]
      obtain ⟨_, h1, e5, rfl, R1, F1⟩ := c_MO_fails (nb := nb) (sa := sa) hs (k := 1) (w := B.length) (by decide) (by decide)
      obtain ⟨p1, j1, fp1, hc1, hp1, hj1, hm1⟩ := id R1
      obtain ⟨q1, q2, q3⟩ := hm1
      subst q1
      refine Ex_mv rfl rfl ?_; refine Ex_getf rfl (by assumption) rfl ?_; refine Ex_mv rfl rfl ?_; refine Ex_iff (by decide) ?_; refine Ex_mv rfl rfl ?_; refine Ex_mv rfl rfl ?_; refine Ex_getf rfl (by assumption) rfl ?_; refine Ex_getf rfl (by assumption) rfl ?_; refine Ex_alen rfl (by assumption) rfl ?_; refine Ex_mv rfl rfl ?_; refine Ex_getf rfl (by assumption) rfl ?_; (first | refine Ex_subN rfl (by omega) ?_ | refine Ex_mv rfl rfl ?_); refine Ex_mv rfl rfl ?_; refine Ex_iff (nI_ge (by omega) (by omega)) ?_; refine Ex_mv rfl rfl ?_; refine Ex_mv rfl rfl ?_; refine Ex_mv rfl rfl ?_; refine Ex_getf rfl (by assumption) rfl ?_; refine Ex_getf rfl (by assumption) rfl ?_; refine Ex_alen rfl (by assumption) rfl ?_; refine Ex_invV rfl (by rfl) (by rfl) (by assumption) (by rfl) (e5) ?_; refine Ex_mv rfl rfl ?_; refine Ex_mv rfl rfl ?_; refine Ex_getf rfl (by assumption) rfl ?_; refine Ex_mv rfl rfl ?_; refine Ex_getf rfl (by assumption) rfl ?_; refine Ex_mv rfl rfl ?_; refine Ex_ift (by decide) ?_; refine Ex_mv rfl rfl ?_; (first | refine Ex_addN rfl ?_ | refine Ex_mv rfl rfl ?_); refine Ex_putf rfl (by assumption) rfl rfl ?_; refine Ex_mv rfl rfl ?_; refine Ex_getf rfl hs_at rfl ?_; refine Ex_mv rfl rfl ?_; refine Ex_ift (by decide) ?_; refine Ex_mv rfl rfl ?_
      refine Ex_rt rfl rfl ?_
      exact ⟨rfl, ⟨p1, 1, fp1, hs_at, hp1, by decide, rfl, q2, by decide⟩, F1.set (by omega) (by omega)⟩
  · obtain ⟨w', rfl, rfl⟩ := hm.bad hj0
    refine Ex_mv rfl rfl ?_; refine Ex_getf rfl (by assumption) rfl ?_; refine Ex_mv rfl rfl ?_; refine Ex_ift (nI_nz hj0 (by omega)) ?_; refine Ex_mv rfl rfl ?_; refine Ex_mv rfl rfl ?_; refine Ex_getf rfl (by assumption) rfl ?_; refine Ex_mv rfl rfl ?_; refine Ex_getf rfl (by assumption) rfl ?_; refine Ex_mv rfl rfl ?_; refine Ex_ift (nI_nz hj0 (by omega)) ?_; refine Ex_mv rfl rfl ?_; (first | refine Ex_addN rfl ?_ | refine Ex_mv rfl rfl ?_); refine Ex_putf rfl (by assumption) rfl rfl ?_; refine Ex_mv rfl rfl ?_; refine Ex_getf rfl hs_at rfl ?_; refine Ex_mv rfl rfl ?_; refine Ex_ift (nI_nz hj0 (by omega)) ?_; refine Ex_mv rfl rfl ?_
    refine Ex_rt rfl rfl ?_
    exact ⟨rfl, ⟨p, j, nI w', hs_at, hp, hj, rfl, rfl, hj0⟩, FrI.rf.set (by omega) (by omega)⟩
theorem c_MO_goesB {e : Nat × Nat} (hs : RQ h m0 f a B (.inl e)) (k : Int32) : EvQ (prog nb sa) m_MO_goes [.ref m0, .int k] h (fun v h' => v = some (.int (nI 0)) ∧ RQ h' m0 f a B (.inl e) ∧ FrI m0 (m0 + 1) h h') := by
  obtain ⟨p, j, fp, hc, hp, hj, hm⟩ := id hs
  obtain ⟨q1, q2, q3⟩ := hm
  have hj0 : j ≠ 0 := by omega
  refine EvQ_of k_MO_goes 2 [some (.ref m0), some (.int k)] rfl (Nat.le_of_ble_eq_true rfl) rfl ?_
  refine Ex_mv rfl rfl ?_; refine Ex_getf rfl (by assumption) rfl ?_; refine Ex_mv rfl rfl ?_; refine Ex_ift (nI_nz hj0 (by omega)) ?_; refine Ex_mv rfl rfl ?_; refine Ex_mv rfl rfl ?_; refine Ex_getf rfl (by assumption) rfl ?_; refine Ex_mv rfl rfl ?_; refine Ex_getf rfl (by assumption) rfl ?_; refine Ex_mv rfl rfl ?_; refine Ex_ift (nI_nz hj0 (by omega)) ?_; refine Ex_mv rfl rfl ?_; (first | refine Ex_addN rfl ?_ | refine Ex_mv rfl rfl ?_); refine Ex_putf rfl (by assumption) rfl rfl ?_; refine Ex_mv rfl rfl ?_; refine Ex_getf rfl hs_at rfl ?_; refine Ex_mv rfl rfl ?_; refine Ex_ift (nI_nz hj0 (by omega)) ?_; refine Ex_mv rfl rfl ?_
  refine Ex_rt rfl rfl ?_
  exact ⟨rfl, ⟨p, j, fp, hs_at, hp, hj, q1, q2, q3⟩, FrI.rf.set (by omega) (by omega)⟩
theorem c_MO_nextTwo (hs : RQ h m0 f a B s) (hB : HB h f b B) (hd : m0 < f) (hb : m0 < b) : EvQ (prog nb sa) m_MO_nextTwo [.ref m0] h (fun v h' => v = some (.int (nI (p_two B s))) ∧ RQ h' m0 f a B (p_skip B 2 s) ∧ FrI m0 (m0 + 1) h h') := by
  obtain ⟨_, h1, e1, rfl, R1, F1⟩ := c_MO_goes (nb := nb) (sa := sa) hs hB hd hb (k := 2) (by decide)
  obtain ⟨p, j, fp, hc, hp, hj, hm⟩ := id hs
  obtain ⟨p1, j1, fp1, hc1, hp1, hj1, hm1⟩ := id R1
  have hB1 := hB.fr F1 (by omega) (by omega)
  have hf1 : ∃ r, h1.2.2 f = some (true, .inr (8, .ref b :: r)) := hB1.1
  obtain ⟨r1, hf1⟩ := hf1
  refine EvQ_of k_MO_nextTwo 1 [some (.ref m0)] rfl (Nat.le_of_ble_eq_true rfl) rfl ?_
  cases s with
  | inl e =>
    refine Ex_mv rfl rfl ?_; refine Ex_mv rfl rfl ?_; refine Ex_invV rfl (by rfl) (by rfl) (by assumption) (by rfl) (e1) ?_; refine Ex_mv rfl rfl ?_; refine Ex_ift (show nI 0 = 0 from rfl) ?_; refine Ex_mv rfl rfl ?_
    refine Ex_rt rfl rfl ?_
    exact ⟨rfl, R1, F1⟩
  | inr e =>
    obtain ⟨p0, x⟩ := e
    by_cases e : p0 + 2 ≤ B.length
    · have es : p_skip B 2 (.inr (p0, x)) = .inr (p0 + 2, x) := if_pos e
      have es2 : p_two B (.inr (p0, x)) = b2 B p0 := if_pos e
      rw [es] at e1 hm1
      rw [es2]
      obtain ⟨q1, q2, q3⟩ := hm1
      subst q1
      subst q3
      refine Ex_mv rfl rfl ?_; refine Ex_mv rfl rfl ?_; refine Ex_invV rfl (by rfl) (by rfl) (by assumption) (by rfl) (e1) ?_; refine Ex_mv rfl rfl ?_; refine Ex_iff (show ¬ nI 1 = 0 by decide) ?_; refine Ex_mv rfl rfl ?_; refine Ex_getf rfl (by assumption) rfl ?_; refine Ex_mv rfl rfl ?_; refine Ex_getf rfl (by assumption) rfl ?_; refine Ex_mv rfl rfl ?_; (first | refine Ex_subN rfl (by omega) ?_ | refine Ex_mv rfl rfl ?_); refine Ex_invV rfl (by rfl) (by rfl) (by assumption) (by rfl) (c_MH_two hB1 (by omega)) ?_; refine Ex_mv rfl rfl ?_
      refine Ex_rt rfl rfl ?_
      exact ⟨by rw [Nat.add_sub_cancel], R1, F1⟩
    · have es : p_skip B 2 (.inr (p0, x)) = .inl (1, B.length) := if_neg e
      have es2 : p_two B (.inr (p0, x)) = 0 := if_neg e
      rw [es] at e1
      rw [es2]
      refine Ex_mv rfl rfl ?_; refine Ex_mv rfl rfl ?_; refine Ex_invV rfl (by rfl) (by rfl) (by assumption) (by rfl) (e1) ?_; refine Ex_mv rfl rfl ?_; refine Ex_ift (show nI 0 = 0 from rfl) ?_; refine Ex_mv rfl rfl ?_
      refine Ex_rt rfl rfl ?_
      exact ⟨rfl, R1, F1⟩
theorem c_MO_many (hs : RQ h m0 f a B s) (hB : HB h f b B) (hd : m0 < f) (hb : m0 < b) {m : Nat} (hm0 : m < 65536) : EvQ (prog nb sa) m_MO_many [.ref m0, .int (nI m)] h (fun v h' => v = some (.int (nI (p_many B m s).1)) ∧ RQ h' m0 f a B (p_many B m s).2 ∧ FrI m0 (m0 + 1) h h') := by
  obtain ⟨_, h1, e1, rfl, R1, F1⟩ := c_MO_nextTwo (nb := nb) (sa := sa) hs hB hd hb
  obtain ⟨p, j, fp, hc, hp, hj, hm⟩ := id hs
  obtain ⟨p1, j1, fp1, hc1, hp1, hj1, hm1⟩ := id R1
  have hlt := hB.2.choose_spec.choose_spec.2.2.1
  refine EvQ_of k_MO_many 3 [some (.ref m0), some (.int (nI m)), none] rfl (Nat.le_of_ble_eq_true rfl) rfl ?_
  cases s with
  | inl e =>
    obtain ⟨q1, q2, q3⟩ := hm1
    rw [show p_two B (.inl e) = 0 from rfl] at e1
    refine Ex_mv rfl rfl ?_; refine Ex_invV rfl (by rfl) (by rfl) (by assumption) (by rfl) (e1) ?_; refine Ex_mv rfl rfl ?_; refine Ex_mv rfl rfl ?_; refine Ex_mv rfl rfl ?_; refine Ex_mv rfl rfl ?_; refine Ex_ift (nI_le (by omega) (by omega)) ?_; refine Ex_mv rfl rfl ?_; refine Ex_getf rfl (by assumption) rfl ?_; refine Ex_mv rfl rfl ?_; refine Ex_ift (nI_nz (by omega) (by omega)) ?_; refine Ex_mv rfl rfl ?_
    refine Ex_rt rfl rfl ?_
    exact ⟨rfl, R1, F1⟩
  | inr e =>
    obtain ⟨p0, x⟩ := e
    by_cases e : p0 + 2 ≤ B.length
    · have es : p_skip B 2 (.inr (p0, x)) = .inr (p0 + 2, x) := if_pos e
      have es2 : p_two B (.inr (p0, x)) = b2 B p0 := if_pos e
      have hb := b2_lt hlt p0
      rw [es2] at e1
      rw [es] at hm1 R1
      obtain ⟨q1, q2, q3⟩ := hm1
      subst q1
      subst q3
      by_cases hb2 : b2 B p0 ≤ m
      · have es3 : p_many B m (.inr (p0, x)) = (b2 B p0, .inr (p0 + 2, x)) := (if_pos e).trans (if_pos hb2)
        rw [es3]
        refine Ex_mv rfl rfl ?_; refine Ex_invV rfl (by rfl) (by rfl) (by assumption) (by rfl) (e1) ?_; refine Ex_mv rfl rfl ?_; refine Ex_mv rfl rfl ?_; refine Ex_mv rfl rfl ?_; refine Ex_mv rfl rfl ?_; refine Ex_ift (nI_le (by omega) (by omega)) ?_; refine Ex_mv rfl rfl ?_; refine Ex_getf rfl (by assumption) rfl ?_; refine Ex_mv rfl rfl ?_; refine Ex_iff (by decide) ?_; refine Ex_mv rfl rfl ?_; refine Ex_mv rfl rfl ?_
        refine Ex_rt rfl rfl ?_
        exact ⟨rfl, R1, F1⟩
      · have es3 : p_many B m (.inr (p0, x)) = (0, .inl (3, p0)) := (if_pos e).trans (if_neg hb2)
        rw [es3]
        obtain ⟨_, h2, e2, rfl, R2, F2⟩ := c_MO_fails (nb := nb) (sa := sa) R1 (k := 3) (w := p0 + 2 - 2) (by decide) (by decide)
        obtain ⟨p2, j2, fp2, hc2, hp2, hj2, hm2⟩ := id R2
        obtain ⟨z1, z2, z3⟩ := hm2
        rw [Nat.add_sub_cancel] at R2
        refine Ex_mv rfl rfl ?_; refine Ex_invV rfl (by rfl) (by rfl) (by assumption) (by rfl) (e1) ?_; refine Ex_mv rfl rfl ?_; refine Ex_mv rfl rfl ?_; refine Ex_mv rfl rfl ?_; refine Ex_mv rfl rfl ?_; refine Ex_iff (nI_ge (by omega) (by omega)) ?_; refine Ex_mv rfl rfl ?_; refine Ex_mv rfl rfl ?_; refine Ex_mv rfl rfl ?_; refine Ex_getf rfl (by assumption) rfl ?_; refine Ex_mv rfl rfl ?_; (first | refine Ex_subN rfl (by omega) ?_ | refine Ex_mv rfl rfl ?_); refine Ex_invV rfl (by rfl) (by rfl) (by assumption) (by rfl) (e2) ?_; refine Ex_mv rfl rfl ?_; refine Ex_getf rfl (by assumption) rfl ?_; refine Ex_mv rfl rfl ?_; refine Ex_ift (nI_nz (by omega) (by omega)) ?_; refine Ex_mv rfl rfl ?_
        refine Ex_rt rfl rfl ?_
        exact ⟨rfl, R2, F1.tr F2⟩
    · have es : p_skip B 2 (.inr (p0, x)) = .inl (1, B.length) := if_neg e
      have es2 : p_two B (.inr (p0, x)) = 0 := if_neg e
      have es3 : p_many B m (.inr (p0, x)) = (0, .inl (1, B.length)) := if_neg e
      rw [es2] at e1
      rw [es] at hm1 R1
      rw [es3]
      obtain ⟨q1, q2, q3⟩ := hm1
      refine Ex_mv rfl rfl ?_; refine Ex_invV rfl (by rfl) (by rfl) (by assumption) (by rfl) (e1) ?_; refine Ex_mv rfl rfl ?_; refine Ex_mv rfl rfl ?_; refine Ex_mv rfl rfl ?_; refine Ex_mv rfl rfl ?_; refine Ex_ift (nI_le (by omega) (by omega)) ?_; refine Ex_mv rfl rfl ?_; refine Ex_getf rfl (by assumption) rfl ?_; refine Ex_mv rfl rfl ?_; refine Ex_ift (nI_nz (by omega) (by omega)) ?_; refine Ex_mv rfl rfl ?_
      refine Ex_rt rfl rfl ?_
      exact ⟨rfl, R1, F1⟩
end REF2
