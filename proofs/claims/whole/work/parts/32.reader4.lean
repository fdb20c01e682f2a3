/-! Reader: attributes, members, the whole file -/
/-- one more member -/
def addM (x : Fs) (k a : Nat) : Fs := (x.1, x.2.1, x.2.2.1, x.2.2.2.1, (if k = 0 then x.2.2.2.2.1 ++ [a] else x.2.2.2.2.1), (if k = 0 then x.2.2.2.2.2.1 else x.2.2.2.2.2.1 ++ [a]), x.2.2.2.2.2.2)
def p_mem (B : List Nat) (k a : Nat) (x : Fs) : Rt := p_attrs B (p_tell B 1 (p_tell B 1 (p_skip B 2 (.inr (a, addM x k a)))))
def p_mems (B : List Nat) (k : Nat) : Nat → Rt → Rt
  | 0, s => s
  | d + 1, s => match s with
    | .inl e => .inl e
    | .inr (a, x) => p_mems B k d (p_mem B k a x)
def p_members (B : List Nat) (k : Nat) (s : Rt) : Rt := p_mems B k (p_many B 12 s).1 (p_many B 12 s).2
def p_tells (B : List Nat) : Nat → Rt → Rt
  | 0, s => s
  | d + 1, s => match s with
    | .inl e => .inl e
    | .inr (a, x) => p_tells B d (p_tell B 7 (.inr (a, x)))
def p_bh (s : Rt) : Rt := match s with
  | .inl e => .inl e
  | .inr (a, x) => .inr (a, (x.1, x.2.1, a, x.2.2.2))
def p_aa (s : Rt) : Rt := match s with
  | .inl e => .inl e
  | .inr (a, x) => .inr (a, (x.1, x.2.1, x.2.2.1, a, x.2.2.2.2))
def p_end (B : List Nat) (s : Rt) : Rt := match s with
  | .inl e => .inl e
  | .inr (a, x) => if a < B.length then .inl (6, a) else .inr (a, x)
/-- members, attributes behind them, the end -/
def p_rest (B : List Nat) (s : Rt) : Rt := p_end B (p_attrs B (p_aa (p_members B 1 (p_members B 0 s))))
def p_heads (B : List Nat) (s : Rt) : Rt := p_above B (p_tell B 7 (p_skip B 2 (p_bh s)))
def p_scan (B : List Nat) (s : Rt) : Rt := p_rest B (p_tells B (p_many B 8 (p_heads B (p_entries B (p_skip B 4 (p_mags B 4 0 s))))).1 (p_many B 8 (p_heads B (p_entries B (p_skip B 4 (p_mags B 4 0 s))))).2)
/-- what stays: members' lists and the rest but tells -/
def SmM (s s' : Rt) : Prop := ∀ a' x', s' = .inr (a', x') → ∃ a x, s = .inr (a, x) ∧ a ≤ a' ∧ x'.1 = x.1 ∧ x'.2.1 = x.2.1 ∧ x'.2.2.1 = x.2.2.1 ∧ x'.2.2.2.1 = x.2.2.2.1 ∧ x'.2.2.2.2.1 = x.2.2.2.2.1 ∧ x'.2.2.2.2.2.1 = x.2.2.2.2.2.1
theorem SmM.rf (s : Rt) : SmM s s := fun a x e => ⟨a, x, e, Nat.le_refl _, rfl, rfl, rfl, rfl, rfl, rfl⟩
theorem SmM.tr {s s1 s2 : Rt} (h1 : SmM s s1) (h2 : SmM s1 s2) : SmM s s2 := by
  intro a' x' e
  obtain ⟨a, x, e1, g0, g1, g2, g3, g4, g5, g6⟩ := h2 a' x' e
  obtain ⟨b, y, e2, k0, k1, k2, k3, k4, k5, k6⟩ := h1 a x e1
  exact ⟨b, y, e2, by omega, g1.trans k1, g2.trans k2, g3.trans k3, g4.trans k4, g5.trans k5, g6.trans k6⟩
theorem SmM.bad (s : Rt) (e : Nat × Nat) : SmM s (.inl e) := fun a x q => by cases q
theorem Sm_skip (B : List Nat) (k : Nat) (s : Rt) : SmM s (p_skip B k s) := by
  intro a' x' e
  unfold p_skip at e
  split at e
  · cases e
  · split at e
    · simp only [Sum.inr.injEq, Prod.mk.injEq] at e
      obtain ⟨rfl, rfl⟩ := e
      exact ⟨_, _, rfl, by omega, rfl, rfl, rfl, rfl, rfl, rfl⟩
    · cases e
theorem Sm_tell (B : List Nat) (k : Nat) (s : Rt) : SmM s (p_tell B k s) := by
  intro a' x' e
  unfold p_tell at e
  split at e
  · cases e
  · split at e
    · simp only [Sum.inr.injEq, Prod.mk.injEq] at e
      obtain ⟨rfl, rfl⟩ := e
      exact ⟨_, _, rfl, by omega, rfl, rfl, rfl, rfl, rfl, rfl⟩
    · cases e
theorem Sm_many (B : List Nat) (k : Nat) (s : Rt) : SmM s (p_many B k s).2 := by
  intro a' x' e
  unfold p_many at e
  split at e
  · cases e
  · split at e
    · split at e
      · simp only [Sum.inr.injEq, Prod.mk.injEq] at e
        obtain ⟨rfl, rfl⟩ := e
        exact ⟨_, _, rfl, by omega, rfl, rfl, rfl, rfl, rfl, rfl⟩
      · cases e
    · cases e
theorem Sm_att (B : List Nat) (s : Rt) : SmM s (p_att B s) := by
  unfold p_att
  have h1 := (Sm_tell B 1 s).tr (Sm_skip B 4 (p_tell B 1 s))
  split
  · exact SmM.bad _ _
  · next a x e =>
    rw [e] at h1
    split
    · exact SmM.bad _ _
    · exact h1.tr (Sm_skip B _ _)
theorem Sm_atts (B : List Nat) : ∀ (d : Nat) (s : Rt), SmM s (p_atts B d s)
  | 0, s => SmM.rf s
  | d + 1, s => by
    unfold p_atts
    split
    · exact SmM.rf _
    · exact (Sm_att B _).tr (Sm_atts B d _)
theorem Sm_attrs (B : List Nat) (s : Rt) : SmM s (p_attrs B s) := (Sm_many B 6 s).tr (Sm_atts B _ _)
theorem nI_neg32 {n : Nat} (h1 : 2 ^ 31 ≤ n) (h2 : n < 2 ^ 32) : ¬ (0 : Int32) ≤ nI n := by
  rw [Int32.le_iff_toInt_le]
  have e : (nI n).toInt = (BitVec.ofNat 32 n).toInt := rfl
  have e0 : (0 : Int32).toInt = 0 := by decide
  rw [e, e0, BitVec.toInt_eq_toNat_cond, BitVec.toNat_ofNat]
  have : n % 2 ^ 32 = n := Nat.mod_eq_of_lt h2
  rw [this, if_neg (by omega)]
  omega
section READER4
variable {nb sa : Nat} {c rd : Nat} {B : List Nat}
theorem RD_attributes_loop (hd : rd < c ∨ c + 11 ≤ rd) {m : Nat} (hm6 : m ≤ 6) : ∀ (d i : Nat) (x3 x4 : Option Value) (h : Hp) (s : Rt), i + d = m → RSt h c rd B s → Ex (prog nb sa) k_RD_attributes 9 [some (.ref rd), some (.int (nI m)), some (.int (nI i)), x3, x4] [] h (fun v h' => v = none ∧ RSt h' c rd B (p_atts B d s) ∧ FR c rd h h')
  | 0, i, x3, x4, h, s, hi, hs => by
    refine Ex_mv rfl rfl ?_; refine Ex_mv rfl rfl ?_; refine Ex_mv rfl rfl ?_; refine Ex_ift (nI_le (by omega) (by omega)) ?_
    refine Ex_rt rfl rfl ?_
    exact ⟨rfl, hs, FR.rf⟩
  | d + 1, i, x3, x4, h, s, hi, hs => by
    obtain ⟨f, w0, a, x, hR, hC, ha, hf2, hm⟩ := id hs
    have hl := hC.len
    by_cases hf0 : f = 0
    · subst hf0
      obtain ⟨rfl, rfl, hT⟩ := hm.ok
      rw [show p_atts B (d + 1) (.inr (a, x)) = p_atts B d (p_att B (.inr (a, x))) from rfl]
      obtain ⟨_, h1, e1, rfl, R1, F1⟩ := c_RD_tell (nb := nb) (sa := sa) hd hs (k := 1) (by decide)
      obtain ⟨_, h2, e2, rfl, R2, F2⟩ := c_RD_skip (nb := nb) (sa := sa) hd R1 (k := 4) (by decide)
      obtain ⟨f1, w1, a1, x1, hR1, hC1, ha1, hf1, hm1⟩ := id R1
      obtain ⟨f2, w2, a2, x2, hR2, hC2, ha2, hf2', hm2⟩ := id R2
      have hrow2 : RW h2 (c + 2) B := CF.row hC2
      obtain ⟨fr, hr, hra, hB⟩ := id hrow2
      have hb := b4_lt hrow2.lt a1
      by_cases hz : f2 = 0
      · subst hz
        obtain ⟨es, rfl, hT2⟩ := hm2.ok
        have e21 : a2 = a1 + 4 := by
          cases hq : p_tell B 1 (.inr (a, x)) with
          | inl e => rw [hq] at es; cases es
          | inr e =>
            rw [hq] at es hm1
            obtain ⟨-, -, q, -, -⟩ := hm1
            simp only [p_skip] at es
            split at es
            · simp only [Sum.inr.injEq, Prod.mk.injEq] at es; omega
            · cases es
        by_cases hneg : 2 ^ 31 ≤ b4 B a1
        · have ep : p_att B (.inr (a, x)) = .inl (5, a1) := by
            unfold p_att
            rw [es]
            simp only [e21, Nat.add_sub_cancel]
            rw [if_pos hneg]
          rw [ep]
          obtain ⟨_, h3, e3, rfl, R3, F3⟩ := c_RD_fail (nb := nb) (sa := sa) hd R2 (k := 5) (w := a1) (by decide) (by decide)
          rw [es] at R3
          have e4 : Ev (prog nb sa) m_RD_skip [.ref rd, .int (nI (b4 B a1))] h3 none h3 := c_RD_skipB R3 (e := (5, a1)) rfl
          obtain ⟨f3, w3, a3, x3', hR3, hC3, ha3, hf3, hm3⟩ := id R3
          have ih := RD_attributes_loop hd hm6 d (i + 1) (some (.int (nI a1))) (some (.int (nI (b4 B a1)))) h3 (.inl (5, a1)) (by omega) R3
          have hng : ¬ (0 : Int32) ≤ nI (b4 B a1) := nI_neg32 hneg hb
          refine Ex_mv rfl rfl ?_; refine Ex_mv rfl rfl ?_; refine Ex_mv rfl rfl ?_; refine Ex_iff (nI_ge (by omega) (by omega)) ?_; refine Ex_mv rfl rfl ?_; refine Ex_getf rfl (by assumption) rfl ?_; refine Ex_mv rfl rfl ?_; refine Ex_iff (by decide) ?_; refine Ex_mv rfl rfl ?_; refine Ex_mv rfl rfl ?_; refine Ex_invV rfl (by rfl) (by rfl) (by assumption) (by rfl) (e1) ?_; refine Ex_mv rfl rfl ?_; refine Ex_getf rfl (by assumption) rfl ?_; refine Ex_mv rfl rfl ?_; refine Ex_mv rfl rfl ?_; refine Ex_mv rfl rfl ?_; refine Ex_invV rfl (by rfl) (by rfl) (by assumption) (by rfl) (e2) ?_; refine Ex_mv rfl rfl ?_; refine Ex_getf rfl (by assumption) rfl ?_; refine Ex_mv rfl rfl ?_; refine Ex_iff (by decide) ?_; refine Ex_mv rfl rfl ?_; refine Ex_getf rfl (by assumption) rfl ?_; refine Ex_mv rfl rfl ?_; refine Ex_invV rfl (by rfl) (by rfl) (by assumption) (by rfl) (c_RW_four hrow2 (by omega)) ?_; refine Ex_mv rfl rfl ?_; refine Ex_mv rfl rfl ?_; refine Ex_mv rfl rfl ?_; refine Ex_mv rfl rfl ?_; refine Ex_iff hng ?_; refine Ex_mv rfl rfl ?_; refine Ex_mv rfl rfl ?_; refine Ex_mv rfl rfl ?_; refine Ex_invV rfl (by rfl) (by rfl) (by assumption) (by rfl) (e3) ?_; refine Ex_mv rfl rfl ?_; refine Ex_mv rfl rfl ?_; refine Ex_invV rfl (by rfl) (by rfl) (by assumption) (by rfl) (e4) ?_; (first | refine Ex_incN rfl rfl ?_ | refine Ex_mv rfl rfl ?_); refine Ex_mv rfl rfl ?_
          refine Ex_mono ih ?_
          rintro v h' ⟨rfl, q1, q2⟩
          exact ⟨rfl, q1, ((F1.tr F2).tr F3).tr q2⟩
        · have ep : p_att B (.inr (a, x)) = p_skip B (b4 B a1) (.inr (a2, x2)) := by
            unfold p_att
            rw [es]
            simp only [e21, Nat.add_sub_cancel]
            rw [if_neg hneg]
          rw [ep]
          rw [es] at R2
          obtain ⟨_, h3, e3, rfl, R3, F3⟩ := c_RD_skip (nb := nb) (sa := sa) hd R2 (k := b4 B a1) (by omega)
          obtain ⟨f3, w3, a3, x3', hR3, hC3, ha3, hf3, hm3⟩ := id R3
          have ih := RD_attributes_loop hd hm6 d (i + 1) (some (.int (nI a1))) (some (.int (nI (b4 B a1)))) h3 _ (by omega) R3
          refine Ex_mv rfl rfl ?_; refine Ex_mv rfl rfl ?_; refine Ex_mv rfl rfl ?_; refine Ex_iff (nI_ge (by omega) (by omega)) ?_; refine Ex_mv rfl rfl ?_; refine Ex_getf rfl (by assumption) rfl ?_; refine Ex_mv rfl rfl ?_; refine Ex_iff (by decide) ?_; refine Ex_mv rfl rfl ?_; refine Ex_mv rfl rfl ?_; refine Ex_invV rfl (by rfl) (by rfl) (by assumption) (by rfl) (e1) ?_; refine Ex_mv rfl rfl ?_; refine Ex_getf rfl (by assumption) rfl ?_; refine Ex_mv rfl rfl ?_; refine Ex_mv rfl rfl ?_; refine Ex_mv rfl rfl ?_; refine Ex_invV rfl (by rfl) (by rfl) (by assumption) (by rfl) (e2) ?_; refine Ex_mv rfl rfl ?_; refine Ex_getf rfl (by assumption) rfl ?_; refine Ex_mv rfl rfl ?_; refine Ex_iff (by decide) ?_; refine Ex_mv rfl rfl ?_; refine Ex_getf rfl (by assumption) rfl ?_; refine Ex_mv rfl rfl ?_; refine Ex_invV rfl (by rfl) (by rfl) (by assumption) (by rfl) (c_RW_four hrow2 (by omega)) ?_; refine Ex_mv rfl rfl ?_; refine Ex_mv rfl rfl ?_; refine Ex_mv rfl rfl ?_; refine Ex_mv rfl rfl ?_; refine Ex_ift (nI_pos' (by omega)) ?_; refine Ex_mv rfl rfl ?_; refine Ex_mv rfl rfl ?_; refine Ex_invV rfl (by rfl) (by rfl) (by assumption) (by rfl) (e3) ?_; (first | refine Ex_incN rfl rfl ?_ | refine Ex_mv rfl rfl ?_); refine Ex_mv rfl rfl ?_
          refine Ex_mono ih ?_
          rintro v h' ⟨rfl, q1, q2⟩
          exact ⟨rfl, q1, ((F1.tr F2).tr F3).tr q2⟩
      · obtain ⟨w', es, rfl⟩ := hm2.bad hz
        have ep : p_att B (.inr (a, x)) = .inl (f2, w') := by
          unfold p_att
          rw [es]
        rw [ep]
        rw [es] at R2
        have e4 : Ev (prog nb sa) m_RD_skip [.ref rd, .int (nI 0)] h2 none h2 := c_RD_skipB R2 (e := (f2, w')) rfl
        have ih := RD_attributes_loop hd hm6 d (i + 1) (some (.int (nI a1))) (some (.int (nI 0))) h2 (.inl (f2, w')) (by omega) R2
        refine Ex_mv rfl rfl ?_; refine Ex_mv rfl rfl ?_; refine Ex_mv rfl rfl ?_; refine Ex_iff (nI_ge (by omega) (by omega)) ?_; refine Ex_mv rfl rfl ?_; refine Ex_getf rfl (by assumption) rfl ?_; refine Ex_mv rfl rfl ?_; refine Ex_iff (by decide) ?_; refine Ex_mv rfl rfl ?_; refine Ex_mv rfl rfl ?_; refine Ex_invV rfl (by rfl) (by rfl) (by assumption) (by rfl) (e1) ?_; refine Ex_mv rfl rfl ?_; refine Ex_getf rfl (by assumption) rfl ?_; refine Ex_mv rfl rfl ?_; refine Ex_mv rfl rfl ?_; refine Ex_mv rfl rfl ?_; refine Ex_invV rfl (by rfl) (by rfl) (by assumption) (by rfl) (e2) ?_; refine Ex_mv rfl rfl ?_; refine Ex_getf rfl (by assumption) rfl ?_; refine Ex_mv rfl rfl ?_; refine Ex_ift (nI_nz hz (by omega)) ?_; refine Ex_mv rfl rfl ?_; refine Ex_mv rfl rfl ?_; refine Ex_mv rfl rfl ?_; refine Ex_mv rfl rfl ?_; refine Ex_ift (by decide) ?_; refine Ex_mv rfl rfl ?_; refine Ex_mv rfl rfl ?_; refine Ex_invV rfl (by rfl) (by rfl) (by assumption) (by rfl) (e4) ?_; (first | refine Ex_incN rfl rfl ?_ | refine Ex_mv rfl rfl ?_); refine Ex_mv rfl rfl ?_
        refine Ex_mono ih ?_
        rintro v h' ⟨rfl, q1, q2⟩
        exact ⟨rfl, q1, (F1.tr F2).tr q2⟩
    · obtain ⟨w', rfl, rfl⟩ := hm.bad hf0
      refine Ex_mv rfl rfl ?_; refine Ex_mv rfl rfl ?_; refine Ex_mv rfl rfl ?_; refine Ex_iff (nI_ge (by omega) (by omega)) ?_; refine Ex_mv rfl rfl ?_; refine Ex_getf rfl (by assumption) rfl ?_; refine Ex_mv rfl rfl ?_; refine Ex_ift (nI_nz hf0 (by omega)) ?_
      refine Ex_rt rfl rfl ?_
      exact ⟨rfl, hs, FR.rf⟩
theorem c_RD_attributes {h : Hp} {s : Rt} (hd : rd < c ∨ c + 11 ≤ rd) (hs : RSt h c rd B s) : EvQ (prog nb sa) m_RD_attributes [.ref rd] h (fun v h' => v = none ∧ RSt h' c rd B (p_attrs B s) ∧ FR c rd h h') := by
  obtain ⟨_, h1, e1, rfl, R1, F1⟩ := c_RD_many (nb := nb) (sa := sa) hd hs (m := 6) (by decide)
  obtain ⟨f, w0, a, x, hR, hC, ha, hf, hm⟩ := id hs
  have ih := RD_attributes_loop (nb := nb) (sa := sa) (B := B) hd (p_many_le (B := B) 6 s) (p_many B 6 s).1 0 none none h1 (p_many B 6 s).2 (by omega) R1
  refine EvQ_of k_RD_attributes 5 [some (.ref rd), none, none, none, none] rfl (Nat.le_of_ble_eq_true rfl) rfl ?_
  refine Ex_mv rfl rfl ?_; refine Ex_mv rfl rfl ?_; refine Ex_invV rfl (by rfl) (by rfl) (by assumption) (by rfl) (e1) ?_; refine Ex_mv rfl rfl ?_; refine Ex_mv rfl rfl ?_; refine Ex_mv rfl rfl ?_
  refine Ex_mono ih ?_
  rintro v h' ⟨rfl, q1, q2⟩
  exact ⟨rfl, q1, F1.tr q2⟩
theorem Sm_mem {k a : Nat} {x : Fs} (a' : Nat) (x' : Fs) (e : p_mem B k a x = .inr (a', x')) : (mK x'.2.2.2.2.1 x'.2.2.2.2.2.1 k).length = (mK x.2.2.2.2.1 x.2.2.2.2.2.1 k).length + 1 := by
  have h1 := ((Sm_skip B 2 (.inr (a, addM x k a))).tr (Sm_tell B 1 _)).tr (Sm_tell B 1 _)
  have h2 := h1.tr (Sm_attrs B _)
  obtain ⟨b, y, e1, -, -, -, -, -, g5, g6⟩ := h2 a' x' e
  simp only [Sum.inr.injEq, Prod.mk.injEq] at e1
  rw [g5, g6, ← e1.2]
  unfold mK addM
  by_cases hk : k = 0
  · simp [hk]
  · simp [hk]
theorem RD_members_loop (hd : rd < c ∨ c + 11 ≤ rd) {m k : Nat} (hk : k < 2) (hm12 : m ≤ 12) : ∀ (d i : Nat) (h : Hp) (s : Rt), i + d = m → (∀ a x, s = .inr (a, x) → (mK x.2.2.2.2.1 x.2.2.2.2.2.1 k).length + d ≤ 12) → RSt h c rd B s → Ex (prog nb sa) k_RD_members 9 [some (.ref rd), some (.int (nI k)), some (.int (nI m)), some (.int (nI i))] [] h (fun v h' => v = none ∧ RSt h' c rd B (p_mems B k d s) ∧ FR c rd h h')
  | 0, i, h, s, hi, hn, hs => by
    refine Ex_mv rfl rfl ?_; refine Ex_mv rfl rfl ?_; refine Ex_mv rfl rfl ?_; refine Ex_ift (nI_le (by omega) (by omega)) ?_
    refine Ex_rt rfl rfl ?_
    exact ⟨rfl, hs, FR.rf⟩
  | d + 1, i, h, s, hi, hn, hs => by
    obtain ⟨f, w0, a, x, hR, hC, ha, hf2, hm⟩ := id hs
    have hl := hC.len
    have hc := hC.1
    unfold p_mems
    by_cases hf0 : f = 0
    · subst hf0
      obtain ⟨rfl, rfl, hT⟩ := hm.ok
      have hn0 := hn a x rfl
      obtain ⟨_, h0, e0, rfl, C0, F0⟩ := c_CF_addMember (nb := nb) (sa := sa) hC hk (a := a) (by omega) (by omega)
      have hR0 : RdO h0 rd c 0 (-1) a := F0.at hR (by omega)
      have R0 : RSt h0 c rd B (.inr (a, addM x k a)) := ⟨0, -1, a, addM x k a, hR0, C0, ha, by decide, rfl, rfl, rfl, rfl, hT⟩
      obtain ⟨_, h1, e1, rfl, R1, F1⟩ := c_RD_skip (nb := nb) (sa := sa) hd R0 (k := 2) (by decide)
      obtain ⟨_, h2, e2, rfl, R2, F2⟩ := c_RD_tell (nb := nb) (sa := sa) hd R1 (k := 1) (by decide)
      obtain ⟨_, h3, e3, rfl, R3, F3⟩ := c_RD_tell (nb := nb) (sa := sa) hd R2 (k := 1) (by decide)
      obtain ⟨_, h4, e4, rfl, R4, F4⟩ := c_RD_attributes (nb := nb) (sa := sa) hd R3
      obtain ⟨f1, w1, a1, x1, hR1, -⟩ := id R1
      obtain ⟨f2, w2, a2, x2, hR2, -⟩ := id R2
      obtain ⟨f3, w3, a3, x3, hR3, -⟩ := id R3
      have ih := RD_members_loop hd hk hm12 d (i + 1) h4 (p_mem B k a x) (by omega) (fun a' x' e => by have := Sm_mem a' x' e; omega) R4
      refine Ex_mv rfl rfl ?_; refine Ex_mv rfl rfl ?_; refine Ex_mv rfl rfl ?_; refine Ex_iff (nI_ge (by omega) (by omega)) ?_; refine Ex_mv rfl rfl ?_; refine Ex_getf rfl (by assumption) rfl ?_; refine Ex_mv rfl rfl ?_; refine Ex_iff (by decide) ?_; refine Ex_mv rfl rfl ?_; refine Ex_getf rfl (by assumption) rfl ?_; refine Ex_mv rfl rfl ?_; refine Ex_mv rfl rfl ?_; refine Ex_getf rfl (by assumption) rfl ?_; refine Ex_invV rfl (by rfl) (by rfl) (by assumption) (by rfl) (e0) ?_; refine Ex_mv rfl rfl ?_; refine Ex_mv rfl rfl ?_; refine Ex_invV rfl (by rfl) (by rfl) (by assumption) (by rfl) (e1) ?_; refine Ex_mv rfl rfl ?_; refine Ex_mv rfl rfl ?_; refine Ex_invV rfl (by rfl) (by rfl) (by assumption) (by rfl) (e2) ?_; refine Ex_mv rfl rfl ?_; refine Ex_mv rfl rfl ?_; refine Ex_invV rfl (by rfl) (by rfl) (by assumption) (by rfl) (e3) ?_; refine Ex_mv rfl rfl ?_; refine Ex_invV rfl (by rfl) (by rfl) (by assumption) (by rfl) (e4) ?_; (first | refine Ex_incN rfl rfl ?_ | refine Ex_mv rfl rfl ?_); refine Ex_mv rfl rfl ?_
      refine Ex_mono ih ?_
      rintro v h' ⟨rfl, q1, q2⟩
      exact ⟨rfl, q1, (((((FR.of F0).tr F1).tr F2).tr F3).tr F4).tr q2⟩
    · obtain ⟨w', rfl, rfl⟩ := hm.bad hf0
      refine Ex_mv rfl rfl ?_; refine Ex_mv rfl rfl ?_; refine Ex_mv rfl rfl ?_; refine Ex_iff (nI_ge (by omega) (by omega)) ?_; refine Ex_mv rfl rfl ?_; refine Ex_getf rfl (by assumption) rfl ?_; refine Ex_mv rfl rfl ?_; refine Ex_ift (nI_nz hf0 (by omega)) ?_
      refine Ex_rt rfl rfl ?_
      exact ⟨rfl, hs, FR.rf⟩
theorem c_RD_members {h : Hp} {s : Rt} {k : Nat} (hd : rd < c ∨ c + 11 ≤ rd) (hk : k < 2) (hn : ∀ a x, s = .inr (a, x) → mK x.2.2.2.2.1 x.2.2.2.2.2.1 k = []) (hs : RSt h c rd B s) : EvQ (prog nb sa) m_RD_members [.ref rd, .int (nI k)] h (fun v h' => v = none ∧ RSt h' c rd B (p_members B k s) ∧ FR c rd h h') := by
  obtain ⟨_, h1, e1, rfl, R1, F1⟩ := c_RD_many (nb := nb) (sa := sa) hd hs (m := 12) (by decide)
  obtain ⟨f, w0, a, x, hR, hC, ha, hf, hm⟩ := id hs
  have hle := p_many_le (B := B) 12 s
  have ih := RD_members_loop (nb := nb) (sa := sa) (B := B) hd hk hle (p_many B 12 s).1 0 h1 (p_many B 12 s).2 (by omega) (fun a' x' e => by
    obtain ⟨b, y, e1, -, -, -, -, -, g5, g6⟩ := Sm_many B 12 s a' x' e
    rw [g5, g6, hn b y e1]
    simpa using hle) R1
  refine EvQ_of k_RD_members 4 [some (.ref rd), some (.int (nI k)), none, none] rfl (Nat.le_of_ble_eq_true rfl) rfl ?_
  refine Ex_mv rfl rfl ?_; refine Ex_mv rfl rfl ?_; refine Ex_invV rfl (by rfl) (by rfl) (by assumption) (by rfl) (e1) ?_; refine Ex_mv rfl rfl ?_; refine Ex_mv rfl rfl ?_; refine Ex_mv rfl rfl ?_
  refine Ex_mono ih ?_
  rintro v h' ⟨rfl, q1, q2⟩
  exact ⟨rfl, q1, F1.tr q2⟩
end READER4
