/-! Reader: all entries, attributes, members -/
def p_att (B : List Nat) (s : Rt) : Rt := match p_skip B 4 (p_tell B 1 s) with
  | .inl e => .inl e
  | .inr (a, x) => if 2 ^ 31 ≤ b4 B (a - 4) then .inl (5, a - 4) else p_skip B (b4 B (a - 4)) (.inr (a, x))
def p_atts (B : List Nat) : Nat → Rt → Rt
  | 0, s => s
  | d + 1, s => match s with
    | .inl e => .inl e
    | .inr (a, x) => p_atts B d (p_att B (.inr (a, x)))
def p_attrs (B : List Nat) (s : Rt) : Rt := p_atts B (p_many B 6 s).1 (p_many B 6 s).2
def p_above (B : List Nat) (s : Rt) : Rt := match s with
  | .inl e => .inl e
  | .inr (a, x) => if b2 B a = 0 then p_skip B 2 (.inr (a, x)) else p_tell B 7 (.inr (a, x))
section READER3
variable {nb sa : Nat} {c rd : Nat} {B : List Nat}
theorem CF.withPO {h h1 : Hp} {S S' : Nat → Nat} {n n' bh aa : Nat} {M0 M1 : List Nat} {TL : List (Nat × Nat)} (hC : CF h c B S n bh aa M0 M1 TL) (hP : PO h1 (c + 1) B S' n') (F : FrI (c + 1) (c + 5) h h1) : CF h1 c B S' n' bh aa M0 M1 TL := by
  obtain ⟨a1, a2, a3, a4, a5, a6, a7, a8, a9⟩ := hC
  exact ⟨F.at a1 (by omega), hP, F.at a3 (by omega), a4.fr F (by omega), a5.fr F (by omega), a6.fr F (by omega), a7.fr F (by omega), a8.fr F (by omega), a9⟩
theorem wst_b (t : Nat) : 1 ≤ wst t ∧ wst t ≤ 2 := by unfold wst; split <;> omega
theorem p_entry_n {B : List Nat} {l : Bool} {a a' : Nat} {x x' : Fs} (e : p_entry B l a x = .inr (a', x')) : x'.2.1 = x.2.1 := by
  have k1 : ∀ (k : Nat) (s : Rt) (a' : Nat) (x' : Fs), p_skip B k s = .inr (a', x') → ∃ a x, s = .inr (a, x) ∧ x'.2.1 = x.2.1 := by
    intro k s a' x' e
    unfold p_skip at e
    split at e
    · cases e
    · split at e
      · simp only [Sum.inr.injEq, Prod.mk.injEq] at e; exact ⟨_, _, rfl, by rw [e.2]⟩
      · cases e
  have k2 : ∀ (k : Nat) (s : Rt) (a' : Nat) (x' : Fs), p_tell B k s = .inr (a', x') → ∃ a x, s = .inr (a, x) ∧ x'.2.1 = x.2.1 := by
    intro k s a' x' e
    unfold p_tell at e
    split at e
    · cases e
    · split at e
      · simp only [Sum.inr.injEq, Prod.mk.injEq] at e; exact ⟨_, _, rfl, by rw [← e.2]; rfl⟩
      · cases e
  have k3 : ∀ (k w : Nat) (s : Rt), p_fail k w s = .inr (a', x') → False := by
    intro k w s e
    unfold p_fail at e
    split at e <;> cases e
  have k4 : ∀ (a1 : Nat) (x1 : Fs), p_skip B 1 (.inr (a, x)) = .inr (a1, x1) → x1.2.1 = x.2.1 := by
    intro a1 x1 e
    obtain ⟨a2, x2, e2, e3⟩ := k1 _ _ _ _ e
    simp only [Sum.inr.injEq, Prod.mk.injEq] at e2
    rw [e3, e2.2]
  unfold p_entry at e
  split at e
  · exact absurd e (fun z => k3 _ _ _ z)
  · split at e
    · obtain ⟨a1, x1, e1, g1⟩ := k1 _ _ _ _ e
      obtain ⟨a2, x2, e2, g2⟩ := k1 _ _ _ _ e1
      rw [g1, g2, k4 _ _ e2]
    · split at e
      · obtain ⟨a1, x1, e1, g1⟩ := k1 _ _ _ _ e
        rw [g1, k4 _ _ e1]
      · split at e
        · obtain ⟨a1, x1, e1, g1⟩ := k2 _ _ _ _ e
          rw [g1, k4 _ _ e1]
        · obtain ⟨a1, x1, e1, g1⟩ := k2 _ _ _ _ e
          obtain ⟨a2, x2, e2, g2⟩ := k2 _ _ _ _ e1
          rw [g1, g2, k4 _ _ e2]
theorem RD_entries_loop (hd : rd < c ∨ c + 11 ≤ rd) {m v1 : Nat} (hm61 : m ≤ 61) : ∀ (f i : Nat) (x4 : Option Value) (h : Hp) (s : Rt), m ≤ i + f → i ≤ 62 → (∀ a x, s = .inr (a, x) → x.2.1 = m) → RSt h c rd B s → Ex (prog nb sa) k_RD_entries 35 [some (.ref rd), some (.int (nI v1)), some (.int (nI m)), some (.int (nI i)), x4] [] h (fun v h' => v = none ∧ RSt h' c rd B (p_ents B m f i s) ∧ FR c rd h h')
  | 0, i, x4, h, s, hf, hi, hn, hs => by
    refine Ex_mv rfl rfl ?_; refine Ex_mv rfl rfl ?_; refine Ex_mv rfl rfl ?_; refine Ex_ift (nI_le (by omega) (by omega)) ?_
    refine Ex_rt rfl rfl ?_
    exact ⟨rfl, hs, FR.rf⟩
  | g + 1, i, x4, h, s, hf, hi, hn, hs => by
    by_cases him : i < m
    · obtain ⟨f, w0, a, x, hR, hC, ha, hf2, hm⟩ := id hs
      have hc := hC.1
      have hp := (CF.po hC).1
      have hl := hC.len
      unfold p_ents
      rw [if_pos him]
      by_cases hf0 : f = 0
      · subst hf0
        obtain ⟨rfl, rfl, hT⟩ := hm.ok
        have hxn : x.2.1 = m := hn a x rfl
        obtain ⟨_, h1, e1, rfl, P1, F1⟩ := c_PL_set (nb := nb) (sa := sa) (CF.po hC) (i := i) (a := a) (by omega) (by omega)
        have C1 : CFs h1 c B (setS x i a) := CF.withPO hC P1 (F1.wd (by omega) (by omega))
        have hR1 : RdO h1 rd c 0 (-1) a := F1.at hR (by omega)
        have R1 : RSt h1 c rd B (.inr (a, setS x i a)) := ⟨0, -1, a, setS x i a, hR1, C1, ha, by decide, rfl, rfl, rfl, rfl, hT⟩
        obtain ⟨_, h2, e2, rfl, R2, F2⟩ := c_RD_anEntry (nb := nb) (sa := sa) (l := decide (i + 1 = m)) hd R1
        have hn2 : ∀ a' x', p_entry B (decide (i + 1 = m)) a (setS x i a) = .inr (a', x') → x'.2.1 = m := fun a' x' q => (p_entry_n q).trans hxn
        have hw := wst_b (b1 B a)
        have ih := RD_entries_loop hd hm61 (v1 := v1) g (i + wst (b1 B a)) (some (.int (nI (b1 B a)))) h2 _ (by omega) (by omega) hn2 R2
        have hrow1 : RW h1 (c + 2) B := CF.row C1
        obtain ⟨fr, hr, hra, hB⟩ := id hrow1
        have hb := b1_lt hrow1.lt a
        obtain ⟨f2', w2, a2, x2, hR2, hC2, ha2, hf3, hm2⟩ := id R2
        have fin : ∀ (v : Option Value) h', (v = none ∧ RSt h' c rd B (p_ents B m g (i + wst (b1 B a)) (p_entry B (decide (i + 1 = m)) a (setS x i a))) ∧ FR c rd h2 h') → v = none ∧ RSt h' c rd B (p_ents B m g (i + wst (b1 B a)) (p_entry B (decide (i + 1 = m)) a (setS x i a))) ∧ FR c rd h h' := by
          rintro v h' ⟨rfl, q1, q2⟩
          exact ⟨rfl, q1, ((FR.of (F1.wd (by omega) (by omega))).tr F2).tr q2⟩
        refine Ex_mono (R := fun v h' => v = none ∧ RSt h' c rd B (p_ents B m g (i + wst (b1 B a)) (p_entry B (decide (i + 1 = m)) a (setS x i a))) ∧ FR c rd h2 h') ?_ fin
        have tail : Ex (prog nb sa) k_RD_entries 91 [some (.ref rd), some (.int (nI v1)), some (.int (nI m)), some (.int (nI i)), some (.int (nI (b1 B a)))] [] h2 (fun v h' => v = none ∧ RSt h' c rd B (p_ents B m g (i + wst (b1 B a)) (p_entry B (decide (i + 1 = m)) a (setS x i a))) ∧ FR c rd h2 h') := by
          by_cases hwd : b1 B a = 5 ∨ b1 B a = 6
          · have ew : wst (b1 B a) = 2 := if_pos hwd
            rw [ew] at ih ⊢
            refine Ex_mv rfl rfl ?_; refine Ex_inv rfl (by rfl) (by rfl) (by rfl) (c_CP_isWide (by omega)) ?_
            rw [if_pos hwd]
            refine Ex_mv rfl rfl ?_; refine Ex_iff (by decide) ?_; (first | refine Ex_incN rfl rfl ?_ | refine Ex_mv rfl rfl ?_); (first | refine Ex_incN rfl rfl ?_ | refine Ex_mv rfl rfl ?_); refine Ex_mv rfl rfl ?_
            exact ih
          · have ew : wst (b1 B a) = 1 := if_neg hwd
            rw [ew] at ih ⊢
            refine Ex_mv rfl rfl ?_; refine Ex_inv rfl (by rfl) (by rfl) (by rfl) (c_CP_isWide (by omega)) ?_
            rw [if_neg hwd]
            refine Ex_mv rfl rfl ?_; refine Ex_ift (by decide) ?_; (first | refine Ex_incN rfl rfl ?_ | refine Ex_mv rfl rfl ?_); refine Ex_mv rfl rfl ?_
            exact ih
        by_cases hla : i + 1 = m
        · rw [show (if decide (i + 1 = m) then (1 : Nat) else 0) = 1 by simp [hla]] at e2
          refine Ex_mv rfl rfl ?_; refine Ex_mv rfl rfl ?_; refine Ex_mv rfl rfl ?_; refine Ex_iff (nI_ge (by omega) (by omega)) ?_; refine Ex_mv rfl rfl ?_; refine Ex_getf rfl (by assumption) rfl ?_; refine Ex_mv rfl rfl ?_; refine Ex_iff (by decide) ?_; refine Ex_mv rfl rfl ?_; refine Ex_getf rfl (by assumption) rfl ?_; refine Ex_getf rfl (by assumption) rfl ?_; refine Ex_mv rfl rfl ?_; refine Ex_mv rfl rfl ?_; refine Ex_getf rfl (by assumption) rfl ?_; refine Ex_invV rfl (by rfl) (by rfl) (by assumption) (by rfl) (e1) ?_; refine Ex_mv rfl rfl ?_; refine Ex_getf rfl (by assumption) rfl ?_; refine Ex_mv rfl rfl ?_; refine Ex_getf rfl (by assumption) rfl ?_; refine Ex_invV rfl (by rfl) (by rfl) (by assumption) (by rfl) (c_RW_one hrow1 (by omega)) ?_; refine Ex_mv rfl rfl ?_; refine Ex_mv rfl rfl ?_; refine Ex_mv rfl rfl ?_; refine Ex_mv rfl rfl ?_; refine Ex_mv rfl rfl ?_; (first | refine Ex_subN rfl (by omega) ?_ | refine Ex_mv rfl rfl ?_); refine Ex_mv rfl rfl ?_; refine Ex_iff (by rw [show m - 1 = i by omega]; exact not_not_intro rfl) ?_; refine Ex_mv rfl rfl ?_; refine Ex_mv rfl rfl ?_; refine Ex_invV rfl (by rfl) (by rfl) (by assumption) (by rfl) (e2) ?_
          exact tail
        · rw [show (if decide (i + 1 = m) then (1 : Nat) else 0) = 0 by simp [hla]] at e2
          refine Ex_mv rfl rfl ?_; refine Ex_mv rfl rfl ?_; refine Ex_mv rfl rfl ?_; refine Ex_iff (nI_ge (by omega) (by omega)) ?_; refine Ex_mv rfl rfl ?_; refine Ex_getf rfl (by assumption) rfl ?_; refine Ex_mv rfl rfl ?_; refine Ex_iff (by decide) ?_; refine Ex_mv rfl rfl ?_; refine Ex_getf rfl (by assumption) rfl ?_; refine Ex_getf rfl (by assumption) rfl ?_; refine Ex_mv rfl rfl ?_; refine Ex_mv rfl rfl ?_; refine Ex_getf rfl (by assumption) rfl ?_; refine Ex_invV rfl (by rfl) (by rfl) (by assumption) (by rfl) (e1) ?_; refine Ex_mv rfl rfl ?_; refine Ex_getf rfl (by assumption) rfl ?_; refine Ex_mv rfl rfl ?_; refine Ex_getf rfl (by assumption) rfl ?_; refine Ex_invV rfl (by rfl) (by rfl) (by assumption) (by rfl) (c_RW_one hrow1 (by omega)) ?_; refine Ex_mv rfl rfl ?_; refine Ex_mv rfl rfl ?_; refine Ex_mv rfl rfl ?_; refine Ex_mv rfl rfl ?_; refine Ex_mv rfl rfl ?_; (first | refine Ex_subN rfl (by omega) ?_ | refine Ex_mv rfl rfl ?_); refine Ex_mv rfl rfl ?_; refine Ex_ift (fun z => absurd ((nI_eq (by omega) (by omega)).mp z) (by omega)) ?_; refine Ex_mv rfl rfl ?_; refine Ex_invV rfl (by rfl) (by rfl) (by assumption) (by rfl) (e2) ?_
          exact tail
      · obtain ⟨w', rfl, rfl⟩ := hm.bad hf0
        refine Ex_mv rfl rfl ?_; refine Ex_mv rfl rfl ?_; refine Ex_mv rfl rfl ?_; refine Ex_iff (nI_ge (by omega) (by omega)) ?_; refine Ex_mv rfl rfl ?_; refine Ex_getf rfl (by assumption) rfl ?_; refine Ex_mv rfl rfl ?_; refine Ex_ift (nI_nz hf0 (by omega)) ?_
        refine Ex_rt rfl rfl ?_
        exact ⟨rfl, hs, FR.rf⟩
    · unfold p_ents
      rw [if_neg him]
      refine Ex_mv rfl rfl ?_; refine Ex_mv rfl rfl ?_; refine Ex_mv rfl rfl ?_; refine Ex_ift (nI_le (by omega) (by omega)) ?_
      refine Ex_rt rfl rfl ?_
      exact ⟨rfl, hs, FR.rf⟩
theorem p_many_le (m : Nat) (s : Rt) : (p_many B m s).1 ≤ m := by
  unfold p_many
  split
  · exact Nat.zero_le _
  · split
    · split
      · assumption
      · exact Nat.zero_le _
    · exact Nat.zero_le _
theorem RSt.begin {h h1 : Hp} {s : Rt} {m f a : Nat} {w : Int32} {x : Fs} (hd : rd < c ∨ c + 11 ≤ rd) (hR : RdO h rd c f w a) (hC : CFs h c B x) (ha : a ≤ B.length) (hf : f ≤ 10) (hm : RtM s f w a x) (P1 : PO h1 (c + 1) B (fun _ => 0) m) (F1 : FrI (c + 1) (c + 1 + 4) h h1) : RSt h1 c rd B (p_begin m s) := by
  refine ⟨f, w, a, (fun _ => 0, m, x.2.2), F1.at hR (by omega), CF.withPO hC P1 F1, ha, hf, ?_⟩
  cases s with
  | inl e => exact hm
  | inr e => obtain ⟨h1, h2, h3, h4, h5⟩ := hm; subst h4; exact ⟨h1, h2, h3, rfl, h5⟩
theorem p_ents_bad (m : Nat) (e : Nat × Nat) : ∀ f i, p_ents B m f i (.inl e) = .inl e
  | 0, i => rfl
  | f + 1, i => by
    unfold p_ents
    split <;> rfl
theorem c_RD_entries {h : Hp} {s : Rt} (hd : rd < c ∨ c + 11 ≤ rd) (hs : RSt h c rd B s) : EvQ (prog nb sa) m_RD_entries [.ref rd] h (fun v h' => v = none ∧ RSt h' c rd B (p_entries B s) ∧ FR c rd h h') := by
  obtain ⟨_, h1, e1, rfl, R1, F1⟩ := c_RD_many (nb := nb) (sa := sa) hd hs (m := 61) (by decide)
  obtain ⟨f, w0, a, x, hR, hC, ha, hf, hm⟩ := id hs
  obtain ⟨f1, w1, a1, x1, hR1, hC1, ha1, hf1, hm1⟩ := id R1
  have hc1 := hC1.1
  have hp1 := (CF.po hC1).1
  obtain ⟨_, h2, e2, rfl, R2, F2⟩ := c_RD_fail (nb := nb) (sa := sa) hd R1 (k := 3) (w := a) (by decide) (by decide)
  obtain ⟨f2, w2, a2, x2, hR2, hC2, ha2, hf2, hm2⟩ := id R2
  have hc2 := hC2.1
  have hp2 := (CF.po hC2).1
  have hm61 := p_many_le (B := B) 61 s
  have hes : p_entries B s = p_ents B (p_many B 61 s).1 (p_many B 61 s).1 1 (p_begin (p_many B 61 s).1 (if (p_many B 61 s).1 = 0 then p_fail 3 a (p_many B 61 s).2 else (p_many B 61 s).2)) := by
    cases s with
    | inl e => rfl
    | inr e => obtain ⟨-, -, q, -, -⟩ := hm; subst q; rfl
  rw [hes]
  generalize (p_many B 61 s).1 = m at *
  generalize (p_many B 61 s).2 = s1 at *
  have hbn : ∀ (s : Rt) a x, p_begin m s = .inr (a, x) → x.2.1 = m := by
    intro s a x q
    cases s with
    | inl e => cases q
    | inr e => unfold p_begin at q; simp only [Sum.inr.injEq, Prod.mk.injEq] at q; rw [← q.2]
  refine EvQ_of k_RD_entries 5 [some (.ref rd), none, none, none, none] rfl (Nat.le_of_ble_eq_true rfl) rfl ?_
  by_cases hz : m = 0
  · rw [if_pos hz]
    obtain ⟨_, h3, e3, rfl, P3, F3⟩ := c_PL_begin (nb := nb) (sa := sa) (CF.po hC2) (m := m) hm61
    have R3 := RSt.begin hd hR2 hC2 ha2 hf2 hm2 P3 F3
    have ih := RD_entries_loop (nb := nb) (sa := sa) (B := B) hd hm61 (v1 := a) m 1 none h3 _ (by omega) (by omega) (hbn _) R3
    refine Ex_mv rfl rfl ?_; refine Ex_getf rfl (by assumption) rfl ?_; refine Ex_mv rfl rfl ?_; refine Ex_mv rfl rfl ?_; refine Ex_mv rfl rfl ?_; refine Ex_invV rfl (by rfl) (by rfl) (by assumption) (by rfl) (e1) ?_; refine Ex_mv rfl rfl ?_; refine Ex_mv rfl rfl ?_; refine Ex_mv rfl rfl ?_; refine Ex_iff (by rw [hz]; decide) ?_; refine Ex_mv rfl rfl ?_; refine Ex_mv rfl rfl ?_; refine Ex_mv rfl rfl ?_; refine Ex_invV rfl (by rfl) (by rfl) (by assumption) (by rfl) (e2) ?_; refine Ex_mv rfl rfl ?_; refine Ex_getf rfl (by assumption) rfl ?_; refine Ex_getf rfl (by assumption) rfl ?_; refine Ex_mv rfl rfl ?_; refine Ex_invV rfl (by rfl) (by rfl) (by assumption) (by rfl) (e3) ?_; refine Ex_mv rfl rfl ?_; refine Ex_mv rfl rfl ?_
    refine Ex_mono ih ?_
    rintro v h' ⟨rfl, q1, q2⟩
    exact ⟨rfl, q1, ((F1.tr F2).tr (FR.of (F3.wd (by omega) (by omega)))).tr q2⟩
  · rw [if_neg hz]
    obtain ⟨_, h3, e3, rfl, P3, F3⟩ := c_PL_begin (nb := nb) (sa := sa) (CF.po hC1) (m := m) hm61
    have R3 := RSt.begin hd hR1 hC1 ha1 hf1 hm1 P3 F3
    have ih := RD_entries_loop (nb := nb) (sa := sa) (B := B) hd hm61 (v1 := a) m 1 none h3 _ (by omega) (by omega) (hbn _) R3
    refine Ex_mv rfl rfl ?_; refine Ex_getf rfl (by assumption) rfl ?_; refine Ex_mv rfl rfl ?_; refine Ex_mv rfl rfl ?_; refine Ex_mv rfl rfl ?_; refine Ex_invV rfl (by rfl) (by rfl) (by assumption) (by rfl) (e1) ?_; refine Ex_mv rfl rfl ?_; refine Ex_mv rfl rfl ?_; refine Ex_mv rfl rfl ?_; refine Ex_ift (nI_nz hz (by omega)) ?_; refine Ex_mv rfl rfl ?_; refine Ex_getf rfl (by assumption) rfl ?_; refine Ex_getf rfl (by assumption) rfl ?_; refine Ex_mv rfl rfl ?_; refine Ex_invV rfl (by rfl) (by rfl) (by assumption) (by rfl) (e3) ?_; refine Ex_mv rfl rfl ?_; refine Ex_mv rfl rfl ?_
    refine Ex_mono ih ?_
    rintro v h' ⟨rfl, q1, q2⟩
    exact ⟨rfl, q1, (F1.tr (FR.of (F3.wd (by omega) (by omega)))).tr q2⟩
theorem c_RD_classAbove {h : Hp} {s : Rt} (hd : rd < c ∨ c + 11 ≤ rd) (hs : RSt h c rd B s) : EvQ (prog nb sa) m_RD_classAbove [.ref rd] h (fun v h' => v = none ∧ RSt h' c rd B (p_above B s) ∧ FR c rd h h') := by
  obtain ⟨_, h1, e1, rfl, R1, F1⟩ := c_RD_skip (nb := nb) (sa := sa) hd hs (k := 2) (by decide)
  obtain ⟨_, h2, e2, rfl, R2, F2⟩ := c_RD_tell (nb := nb) (sa := sa) hd hs (k := 7) (by decide)
  obtain ⟨f, w0, a, x, hR, hC, ha, hf, hm⟩ := id hs
  have hrow : RW h (c + 2) B := CF.row hC
  obtain ⟨fr, hr, hra, hB⟩ := id hrow
  have hb := b2_lt hrow.lt a
  have hl := hC.len
  refine EvQ_of k_RD_classAbove 1 [some (.ref rd)] rfl (Nat.le_of_ble_eq_true rfl) rfl ?_
  by_cases hz : b2 B a = 0
  · have es : p_above B s = p_skip B 2 s := by
      cases s with
      | inl e => rfl
      | inr e => obtain ⟨-, -, q, -, -⟩ := hm; subst q; exact if_pos hz
    rw [es]
    refine Ex_mv rfl rfl ?_; refine Ex_getf rfl (by assumption) rfl ?_; refine Ex_mv rfl rfl ?_; refine Ex_getf rfl (by assumption) rfl ?_; refine Ex_invV rfl (by rfl) (by rfl) (by assumption) (by rfl) (c_RW_two hrow (by omega)) ?_; refine Ex_mv rfl rfl ?_; refine Ex_iff (by rw [hz]; decide) ?_; refine Ex_mv rfl rfl ?_; refine Ex_mv rfl rfl ?_; refine Ex_invV rfl (by rfl) (by rfl) (by assumption) (by rfl) (e1) ?_; refine Ex_mv rfl rfl ?_
    refine Ex_rt rfl rfl ?_
    exact ⟨rfl, R1, F1⟩
  · have es : p_above B s = p_tell B 7 s := by
      cases s with
      | inl e => rfl
      | inr e => obtain ⟨-, -, q, -, -⟩ := hm; subst q; exact if_neg hz
    rw [es]
    refine Ex_mv rfl rfl ?_; refine Ex_getf rfl (by assumption) rfl ?_; refine Ex_mv rfl rfl ?_; refine Ex_getf rfl (by assumption) rfl ?_; refine Ex_invV rfl (by rfl) (by rfl) (by assumption) (by rfl) (c_RW_two hrow (by omega)) ?_; refine Ex_mv rfl rfl ?_; refine Ex_ift (nI_nz hz (by omega)) ?_; refine Ex_mv rfl rfl ?_; refine Ex_mv rfl rfl ?_; refine Ex_invV rfl (by rfl) (by rfl) (by assumption) (by rfl) (e2) ?_
    refine Ex_rt rfl rfl ?_
    exact ⟨rfl, R2, F2⟩
end READER3
