/-! Reader: magic, entries -/
def mgc (i : Nat) : Nat := ([202, 254, 186, 190] : List Nat).getD i 0
def p_mag (B : List Nat) (i : Nat) (s : Rt) : Rt := if b1 B i = mgc i then p_skip B 1 s else p_fail 2 i (p_skip B 1 s)
def p_mags (B : List Nat) : Nat → Nat → Rt → Rt
  | 0, _, s => s
  | d + 1, i, s => p_mags B d (i + 1) (p_mag B i s)
def isT (t : Nat) : Prop := t = 1 ∨ 3 ≤ t ∧ t ≤ 12
def isW (t : Nat) : Prop := t = 5 ∨ t = 6
def p_entry (B : List Nat) (l : Bool) (a : Nat) (x : Fs) : Rt :=
  if ¬ (b1 B a = 1 ∨ 3 ≤ b1 B a ∧ b1 B a ≤ 12) ∨ l = true ∧ (b1 B a = 5 ∨ b1 B a = 6) then p_fail 4 a (p_skip B 1 (.inr (a, x)))
  else if b1 B a = 1 then p_skip B (p_two B (p_skip B 1 (.inr (a, x)))) (p_skip B 2 (p_skip B 1 (.inr (a, x))))
  else if 3 ≤ b1 B a ∧ b1 B a ≤ 6 then p_skip B (if b1 B a = 5 ∨ b1 B a = 6 then 8 else 4) (p_skip B 1 (.inr (a, x)))
  else if b1 B a = 7 ∨ b1 B a = 8 then p_tell B 1 (p_skip B 1 (.inr (a, x)))
  else p_tell B (if b1 B a = 12 then 1 else 12) (p_tell B (if b1 B a = 12 then 1 else 7) (p_skip B 1 (.inr (a, x))))
/-- a start laid into the file -/
def setS (x : Fs) (i a : Nat) : Fs := (upS x.1 i a, x.2)
def wst (t : Nat) : Nat := if t = 5 ∨ t = 6 then 2 else 1
def p_ents (B : List Nat) (m : Nat) : Nat → Nat → Rt → Rt
  | 0, _, s => s
  | f + 1, i, s => if i < m then (match s with
    | .inl e => .inl e
    | .inr (a, x) => p_ents B m f (i + wst (b1 B a)) (p_entry B (decide (i + 1 = m)) a (setS x i a))) else s
def p_begin (m : Nat) (s : Rt) : Rt := match s with
  | .inl e => .inl e
  | .inr (a, x) => .inr (a, (fun _ => 0, m, x.2.2))
def p_entries (B : List Nat) (s : Rt) : Rt := match s with
  | .inl e => .inl e
  | .inr (a, x) => p_ents B (p_many B 61 (.inr (a, x))).1 (p_many B 61 (.inr (a, x))).1 1 (p_begin (p_many B 61 (.inr (a, x))).1 (if (p_many B 61 (.inr (a, x))).1 = 0 then p_fail 3 a (p_many B 61 (.inr (a, x))).2 else (p_many B 61 (.inr (a, x))).2))
theorem mgc_eq {i : Nat} (hi : i < 4) : ((-889275714 : Int32) >>> (nI (24 - 8 * i) &&& 31)) &&& nI 255 = nI (mgc i) := by
  have : i = 0 ∨ i = 1 ∨ i = 2 ∨ i = 3 := by omega
  rcases this with rfl | rfl | rfl | rfl <;> decide
theorem mgc_lt (i : Nat) (hi : i < 4) : mgc i < 256 := by
  have : i = 0 ∨ i = 1 ∨ i = 2 ∨ i = 3 := by omega
  rcases this with rfl | rfl | rfl | rfl <;> decide
section READER2
variable {nb sa : Nat} {c rd : Nat} {B : List Nat}
theorem RD_magic_loop (hd : rd < c ∨ c + 11 ≤ rd) : ∀ (d i : Nat) (h : Hp) (s : Rt), i + d = 4 → RSt h c rd B s → Ex (prog nb sa) k_RD_magic 2 [some (.ref rd), some (.int (nI i))] [] h (fun v h' => v = none ∧ RSt h' c rd B (p_mags B d i s) ∧ FR c rd h h')
  | 0, i, h, s, hi, hs => by
    refine Ex_mv rfl rfl ?_; refine Ex_mv rfl rfl ?_; refine Ex_mv rfl rfl ?_; refine Ex_ift (nI_le (by omega) (by omega)) ?_
    refine Ex_rt rfl rfl ?_
    exact ⟨rfl, hs, FR.rf⟩
  | d + 1, i, h, s, hi, hs => by
    obtain ⟨_, h1, e1, rfl, R1, F1⟩ := c_RD_skip (nb := nb) (sa := sa) hd hs (k := 1) (by decide)
    obtain ⟨_, h2, e2, rfl, R2, F2⟩ := c_RD_fail (nb := nb) (sa := sa) hd R1 (k := 2) (w := i) (by decide) (by decide)
    obtain ⟨f, w0, a, x, hR, hC, ha, hf, hm⟩ := id hs
    obtain ⟨f1, w1, a1, x1, hR1, hC1, ha1, hf1, hm1⟩ := id R1
    have hrow1 : RW h1 (c + 2) B := CF.row hC1
    obtain ⟨fr, hr, hra, hB⟩ := id hrow1
    have hb := b1_lt hrow1.lt i
    have hg := mgc_lt i (by omega)
    by_cases e : b1 B i = mgc i
    · have es : p_mags B (d + 1) i s = p_mags B d (i + 1) (p_skip B 1 s) := by rw [p_mags, p_mag, if_pos e]
      rw [es]
      refine Ex_mv rfl rfl ?_; refine Ex_mv rfl rfl ?_; refine Ex_mv rfl rfl ?_; refine Ex_iff (nI_ge (by omega) (by omega)) ?_; refine Ex_mv rfl rfl ?_; refine Ex_mv rfl rfl ?_; refine Ex_invV rfl (by rfl) (by rfl) (by assumption) (by rfl) (e1) ?_; refine Ex_mv rfl rfl ?_; refine Ex_getf rfl (by assumption) rfl ?_; refine Ex_mv rfl rfl ?_; refine Ex_invV rfl (by rfl) (by rfl) (by assumption) (by rfl) (c_RW_one hrow1 (by omega)) ?_; refine Ex_mv rfl rfl ?_; refine Ex_mv rfl rfl ?_; refine Ex_mv rfl rfl ?_; refine Ex_mv rfl rfl ?_; (first | refine Ex_mulN rfl ?_ | refine Ex_mv rfl rfl ?_); (first | refine Ex_subN rfl (by omega) ?_ | refine Ex_mv rfl rfl ?_); refine Ex_ishr rfl ?_; refine Ex_mv rfl rfl ?_; refine Ex_iand rfl ?_; refine Ex_mv rfl rfl ?_; refine Ex_ift (by rw [mgc_eq (by omega), e]) ?_; (first | refine Ex_incN rfl rfl ?_ | refine Ex_mv rfl rfl ?_); refine Ex_mv rfl rfl ?_
      refine Ex_mono (RD_magic_loop hd d (i + 1) _ _ (by omega) R1) ?_
      rintro v h' ⟨rfl, q1, q2⟩
      exact ⟨rfl, q1, F1.tr q2⟩
    · have es : p_mags B (d + 1) i s = p_mags B d (i + 1) (p_fail 2 i (p_skip B 1 s)) := by rw [p_mags, p_mag, if_neg e]
      rw [es]
      refine Ex_mv rfl rfl ?_; refine Ex_mv rfl rfl ?_; refine Ex_mv rfl rfl ?_; refine Ex_iff (nI_ge (by omega) (by omega)) ?_; refine Ex_mv rfl rfl ?_; refine Ex_mv rfl rfl ?_; refine Ex_invV rfl (by rfl) (by rfl) (by assumption) (by rfl) (e1) ?_; refine Ex_mv rfl rfl ?_; refine Ex_getf rfl (by assumption) rfl ?_; refine Ex_mv rfl rfl ?_; refine Ex_invV rfl (by rfl) (by rfl) (by assumption) (by rfl) (c_RW_one hrow1 (by omega)) ?_; refine Ex_mv rfl rfl ?_; refine Ex_mv rfl rfl ?_; refine Ex_mv rfl rfl ?_; refine Ex_mv rfl rfl ?_; (first | refine Ex_mulN rfl ?_ | refine Ex_mv rfl rfl ?_); (first | refine Ex_subN rfl (by omega) ?_ | refine Ex_mv rfl rfl ?_); refine Ex_ishr rfl ?_; refine Ex_mv rfl rfl ?_; refine Ex_iand rfl ?_; refine Ex_mv rfl rfl ?_; refine Ex_iff (by rw [mgc_eq (by omega)]; exact fun z => e ((nI_eq (by omega) (by omega)).mp z)) ?_; refine Ex_mv rfl rfl ?_; refine Ex_mv rfl rfl ?_; refine Ex_mv rfl rfl ?_; refine Ex_invV rfl (by rfl) (by rfl) (by assumption) (by rfl) (e2) ?_; (first | refine Ex_incN rfl rfl ?_ | refine Ex_mv rfl rfl ?_); refine Ex_mv rfl rfl ?_
      refine Ex_mono (RD_magic_loop hd d (i + 1) _ _ (by omega) R2) ?_
      rintro v h' ⟨rfl, q1, q2⟩
      exact ⟨rfl, q1, (F1.tr F2).tr q2⟩
theorem c_RD_magic {h : Hp} {s : Rt} (hd : rd < c ∨ c + 11 ≤ rd) (hs : RSt h c rd B s) : EvQ (prog nb sa) m_RD_magic [.ref rd] h (fun v h' => v = none ∧ RSt h' c rd B (p_mags B 4 0 s) ∧ FR c rd h h') := by
  refine EvQ_of k_RD_magic 2 [some (.ref rd), none] rfl (Nat.le_of_ble_eq_true rfl) rfl ?_
  refine Ex_mv rfl rfl ?_; refine Ex_mv rfl rfl ?_
  exact RD_magic_loop hd 4 0 h s (by omega) hs
theorem p_two_lt (hB : ∀ x ∈ B, x < 256) (s : Rt) : p_two B s < 65536 := by
  unfold p_two
  split
  · decide
  · split
    · exact b2_lt hB _
    · decide
theorem c_RD_anEntry {h : Hp} {a : Nat} {x : Fs} {l : Bool} (hd : rd < c ∨ c + 11 ≤ rd) (hs : RSt h c rd B (.inr (a, x))) : EvQ (prog nb sa) m_RD_anEntry [.ref rd, .int (nI (if l then 1 else 0))] h (fun v h' => v = none ∧ RSt h' c rd B (p_entry B l a x) ∧ FR c rd h h') := by
  obtain ⟨_, h1, e1, rfl, R1, F1⟩ := c_RD_skip (nb := nb) (sa := sa) hd hs (k := 1) (by decide)
  obtain ⟨f, w0, a0, x0, hR, hC, ha, hf, hm⟩ := id hs
  obtain ⟨f1, w1, a1, x1, hR1, hC1, ha1, hf1, hm1⟩ := id R1
  have hrow1 : RW h1 (c + 2) B := CF.row hC1
  obtain ⟨fr, hr, hra, hB⟩ := id hrow1
  have hl := hC.len
  have hb := b1_lt hrow1.lt a
  obtain ⟨rfl, rfl, rfl, rfl, hT⟩ := hm
  unfold p_entry
  refine EvQ_of k_RD_anEntry 4 [some (.ref rd), some (.int (nI (if l then 1 else 0))), none, none] rfl (Nat.le_of_ble_eq_true rfl) rfl ?_
  by_cases g1 : b1 B a0 = 1 ∨ 3 ≤ b1 B a0 ∧ b1 B a0 ≤ 12
  · by_cases g2 : l = true ∧ (b1 B a0 = 5 ∨ b1 B a0 = 6)
    · rw [if_pos (Or.inr g2)]
      obtain ⟨g2a, g2b⟩ := g2
      subst g2a
      obtain ⟨_, h2, e2, rfl, R2, F2⟩ := c_RD_fail (nb := nb) (sa := sa) hd R1 (k := 4) (w := a0) (by decide) (by decide)
      refine Ex_mv rfl rfl ?_; refine Ex_getf rfl (by assumption) rfl ?_; refine Ex_mv rfl rfl ?_; refine Ex_mv rfl rfl ?_; refine Ex_mv rfl rfl ?_; refine Ex_invV rfl (by rfl) (by rfl) (by assumption) (by rfl) (e1) ?_; refine Ex_mv rfl rfl ?_; refine Ex_getf rfl (by assumption) rfl ?_; refine Ex_mv rfl rfl ?_; refine Ex_invV rfl (by rfl) (by rfl) (by assumption) (by rfl) (c_RW_one hrow1 (by omega)) ?_; refine Ex_mv rfl rfl ?_; refine Ex_mv rfl rfl ?_; refine Ex_inv rfl (by rfl) (by rfl) (by rfl) (c_CP_isTag (by omega)) ?_
      rw [if_pos g1]
      refine Ex_mv rfl rfl ?_; refine Ex_iff (by decide) ?_; refine Ex_mv rfl rfl ?_
      rw [if_pos rfl]
      refine Ex_mv rfl rfl ?_; refine Ex_iff (by decide) ?_; refine Ex_mv rfl rfl ?_; refine Ex_inv rfl (by rfl) (by rfl) (by rfl) (c_CP_isWide (by omega)) ?_
      rw [if_pos g2b]
      refine Ex_mv rfl rfl ?_; refine Ex_iff (by decide) ?_; refine Ex_mv rfl rfl ?_; refine Ex_mv rfl rfl ?_; refine Ex_mv rfl rfl ?_; refine Ex_invV rfl (by rfl) (by rfl) (by assumption) (by rfl) (e2) ?_; refine Ex_mv rfl rfl ?_
      refine Ex_rt rfl rfl ?_
      exact ⟨rfl, R2, F1.tr F2⟩
    · have g3 : ¬ (¬ (b1 B a0 = 1 ∨ 3 ≤ b1 B a0 ∧ b1 B a0 ≤ 12) ∨ l = true ∧ (b1 B a0 = 5 ∨ b1 B a0 = 6)) := fun z => z.elim (fun q => q g1) g2
      rw [if_neg g3]
      have key : ∀ K : Prop, (Ex (prog nb sa) k_RD_anEntry 46 [some (.ref rd), some (.int (nI (if l then 1 else 0))), some (.int (nI a0)), some (.int (nI (b1 B a0)))] [] h1 (fun v h' => v = none ∧ RSt h' c rd B (if b1 B a0 = 1 then p_skip B (p_two B (p_skip B 1 (.inr (a0, x0)))) (p_skip B 2 (p_skip B 1 (.inr (a0, x0))))
  else if 3 ≤ b1 B a0 ∧ b1 B a0 ≤ 6 then p_skip B (if b1 B a0 = 5 ∨ b1 B a0 = 6 then 8 else 4) (p_skip B 1 (.inr (a0, x0)))
  else if b1 B a0 = 7 ∨ b1 B a0 = 8 then p_tell B 1 (p_skip B 1 (.inr (a0, x0)))
  else p_tell B (if b1 B a0 = 12 then 1 else 12) (p_tell B (if b1 B a0 = 12 then 1 else 7) (p_skip B 1 (.inr (a0, x0))))) ∧ FR c rd h h') → K) → K := by
        intro K hK
        refine hK ?_
        by_cases t1 : b1 B a0 = 1
        · rw [if_pos t1]
          obtain ⟨_, h2, e2, rfl, R2, F2⟩ := c_RD_two (nb := nb) (sa := sa) hd R1
          have hp2 := p_two_lt hrow1.lt (p_skip B 1 (.inr (a0, x0)))
          obtain ⟨_, h3, e3, rfl, R3, F3⟩ := c_RD_skip (nb := nb) (sa := sa) hd R2 (k := p_two B (p_skip B 1 (.inr (a0, x0)))) (by omega)
          obtain ⟨f2, w2, a2, x2, hR2, -, -, -, -⟩ := id R2
          refine Ex_mv rfl rfl ?_; refine Ex_mv rfl rfl ?_; refine Ex_mv rfl rfl ?_; refine Ex_iff (by rw [t1]; exact not_not_intro rfl) ?_; refine Ex_mv rfl rfl ?_; refine Ex_mv rfl rfl ?_; refine Ex_invV rfl (by rfl) (by rfl) (by assumption) (by rfl) (e2) ?_; refine Ex_invV rfl (by rfl) (by rfl) (by assumption) (by rfl) (e3) ?_; refine Ex_mv rfl rfl ?_
          refine Ex_rt rfl rfl ?_
          exact ⟨rfl, R3, (F1.tr F2).tr F3⟩
        · rw [if_neg t1]
          by_cases t2 : 3 ≤ b1 B a0 ∧ b1 B a0 ≤ 6
          · rw [if_pos t2]
            by_cases t3 : b1 B a0 = 5 ∨ b1 B a0 = 6
            · rw [if_pos t3]
              obtain ⟨_, h3, e3, rfl, R3, F3⟩ := c_RD_skip (nb := nb) (sa := sa) hd R1 (k := 8) (by decide)
              refine Ex_mv rfl rfl ?_; refine Ex_mv rfl rfl ?_; refine Ex_mv rfl rfl ?_; refine Ex_ift (fun z => t1 ((nI_eq (by omega) (by decide)).mp z)) ?_; refine Ex_mv rfl rfl ?_; refine Ex_inv rfl (by rfl) (by rfl) (by rfl) (c_CP_isNumber (by omega)) ?_
              rw [if_pos t2]
              refine Ex_mv rfl rfl ?_; refine Ex_iff (by decide) ?_; refine Ex_mv rfl rfl ?_; refine Ex_mv rfl rfl ?_; refine Ex_inv rfl (by rfl) (by rfl) (by rfl) (c_CP_isWide (by omega)) ?_
              rw [if_pos t3]
              refine Ex_mv rfl rfl ?_; refine Ex_iff (by decide) ?_; refine Ex_mv rfl rfl ?_; refine Ex_mv rfl rfl ?_; refine Ex_invV rfl (by rfl) (by rfl) (by assumption) (by rfl) (e3) ?_; refine Ex_mv rfl rfl ?_
              refine Ex_rt rfl rfl ?_
              exact ⟨rfl, R3, F1.tr F3⟩
            · rw [if_neg t3]
              obtain ⟨_, h3, e3, rfl, R3, F3⟩ := c_RD_skip (nb := nb) (sa := sa) hd R1 (k := 4) (by decide)
              refine Ex_mv rfl rfl ?_; refine Ex_mv rfl rfl ?_; refine Ex_mv rfl rfl ?_; refine Ex_ift (fun z => t1 ((nI_eq (by omega) (by decide)).mp z)) ?_; refine Ex_mv rfl rfl ?_; refine Ex_inv rfl (by rfl) (by rfl) (by rfl) (c_CP_isNumber (by omega)) ?_
              rw [if_pos t2]
              refine Ex_mv rfl rfl ?_; refine Ex_iff (by decide) ?_; refine Ex_mv rfl rfl ?_; refine Ex_mv rfl rfl ?_; refine Ex_inv rfl (by rfl) (by rfl) (by rfl) (c_CP_isWide (by omega)) ?_
              rw [if_neg t3]
              refine Ex_mv rfl rfl ?_; refine Ex_ift (by decide) ?_; refine Ex_mv rfl rfl ?_; refine Ex_invV rfl (by rfl) (by rfl) (by assumption) (by rfl) (e3) ?_; refine Ex_mv rfl rfl ?_
              refine Ex_rt rfl rfl ?_
              exact ⟨rfl, R3, F1.tr F3⟩
          · rw [if_neg t2]
            by_cases t4 : b1 B a0 = 7 ∨ b1 B a0 = 8
            · rw [if_pos t4]
              obtain ⟨_, h3, e3, rfl, R3, F3⟩ := c_RD_tell (nb := nb) (sa := sa) hd R1 (k := 1) (by decide)
              refine Ex_mv rfl rfl ?_; refine Ex_mv rfl rfl ?_; refine Ex_mv rfl rfl ?_; refine Ex_ift (fun z => t1 ((nI_eq (by omega) (by decide)).mp z)) ?_; refine Ex_mv rfl rfl ?_; refine Ex_inv rfl (by rfl) (by rfl) (by rfl) (c_CP_isNumber (by omega)) ?_
              rw [if_neg t2]
              refine Ex_mv rfl rfl ?_; refine Ex_ift (by decide) ?_; refine Ex_mv rfl rfl ?_; refine Ex_mv rfl rfl ?_; refine Ex_mv rfl rfl ?_; (first | refine Ex_eqN (by omega) (by omega) (fun b92 => ?_) (fun b92 => ?_) | refine Ex_if (fun b92 => ?_) (fun b92 => ?_))
              · refine Ex_mv rfl rfl ?_; refine Ex_mv rfl rfl ?_; refine Ex_invV rfl (by rfl) (by rfl) (by assumption) (by rfl) (e3) ?_; refine Ex_mv rfl rfl ?_
                refine Ex_rt rfl rfl ?_
                exact ⟨rfl, R3, F1.tr F3⟩
              · refine Ex_mv rfl rfl ?_; refine Ex_mv rfl rfl ?_; refine Ex_mv rfl rfl ?_; (first | refine Ex_neN (by omega) (by omega) (fun b98 => ?_) (fun b98 => ?_) | refine Ex_if (fun b98 => ?_) (fun b98 => ?_))
                · exfalso; omega
                · refine Ex_mv rfl rfl ?_; refine Ex_mv rfl rfl ?_; refine Ex_invV rfl (by rfl) (by rfl) (by assumption) (by rfl) (e3) ?_; refine Ex_mv rfl rfl ?_
                  refine Ex_rt rfl rfl ?_
                  exact ⟨rfl, R3, F1.tr F3⟩
            · rw [if_neg t4]
              by_cases t5 : b1 B a0 = 12
              · rw [if_pos t5, if_pos t5]
                obtain ⟨_, h3, e3, rfl, R3, F3⟩ := c_RD_tell (nb := nb) (sa := sa) hd R1 (k := 1) (by decide)
                obtain ⟨_, h4, e4, rfl, R4, F4⟩ := c_RD_tell (nb := nb) (sa := sa) hd R3 (k := 1) (by decide)
                obtain ⟨f2, w2, a2, x2, hR2, -, -, -, -⟩ := id R3
                refine Ex_mv rfl rfl ?_; refine Ex_mv rfl rfl ?_; refine Ex_mv rfl rfl ?_; refine Ex_ift (fun z => t1 ((nI_eq (by omega) (by decide)).mp z)) ?_; refine Ex_mv rfl rfl ?_; refine Ex_inv rfl (by rfl) (by rfl) (by rfl) (c_CP_isNumber (by omega)) ?_
                rw [if_neg t2]
                refine Ex_mv rfl rfl ?_; refine Ex_ift (by decide) ?_; refine Ex_mv rfl rfl ?_; refine Ex_mv rfl rfl ?_; refine Ex_mv rfl rfl ?_; refine Ex_iff (fun z => absurd ((nI_eq (by omega) (by decide)).mp z) (by omega)) ?_; refine Ex_mv rfl rfl ?_; refine Ex_mv rfl rfl ?_; refine Ex_mv rfl rfl ?_; refine Ex_ift (fun z => absurd ((nI_eq (by omega) (by decide)).mp z) (by omega)) ?_; refine Ex_mv rfl rfl ?_; refine Ex_mv rfl rfl ?_; refine Ex_mv rfl rfl ?_; refine Ex_mv rfl rfl ?_; refine Ex_iff (by rw [t5]; exact not_not_intro rfl) ?_; refine Ex_mv rfl rfl ?_; refine Ex_mv rfl rfl ?_; refine Ex_invV rfl (by rfl) (by rfl) (by assumption) (by rfl) (e3) ?_; refine Ex_mv rfl rfl ?_; refine Ex_mv rfl rfl ?_; refine Ex_mv rfl rfl ?_; refine Ex_mv rfl rfl ?_; refine Ex_iff (by rw [t5]; exact not_not_intro rfl) ?_; refine Ex_mv rfl rfl ?_; refine Ex_mv rfl rfl ?_; refine Ex_invV rfl (by rfl) (by rfl) (by assumption) (by rfl) (e4) ?_
                refine Ex_rt rfl rfl ?_
                exact ⟨rfl, R4, (F1.tr F3).tr F4⟩
              · rw [if_neg t5, if_neg t5]
                obtain ⟨_, h3, e3, rfl, R3, F3⟩ := c_RD_tell (nb := nb) (sa := sa) hd R1 (k := 7) (by decide)
                obtain ⟨_, h4, e4, rfl, R4, F4⟩ := c_RD_tell (nb := nb) (sa := sa) hd R3 (k := 12) (by decide)
                obtain ⟨f2, w2, a2, x2, hR2, -, -, -, -⟩ := id R3
                refine Ex_mv rfl rfl ?_; refine Ex_mv rfl rfl ?_; refine Ex_mv rfl rfl ?_; refine Ex_ift (fun z => t1 ((nI_eq (by omega) (by decide)).mp z)) ?_; refine Ex_mv rfl rfl ?_; refine Ex_inv rfl (by rfl) (by rfl) (by rfl) (c_CP_isNumber (by omega)) ?_
                rw [if_neg t2]
                refine Ex_mv rfl rfl ?_; refine Ex_ift (by decide) ?_; refine Ex_mv rfl rfl ?_; refine Ex_mv rfl rfl ?_; refine Ex_mv rfl rfl ?_; refine Ex_iff (fun z => absurd ((nI_eq (by omega) (by decide)).mp z) (by omega)) ?_; refine Ex_mv rfl rfl ?_; refine Ex_mv rfl rfl ?_; refine Ex_mv rfl rfl ?_; refine Ex_ift (fun z => absurd ((nI_eq (by omega) (by decide)).mp z) (by omega)) ?_; refine Ex_mv rfl rfl ?_; refine Ex_mv rfl rfl ?_; refine Ex_mv rfl rfl ?_; refine Ex_mv rfl rfl ?_; refine Ex_ift (fun z => t5 ((nI_eq (by omega) (by decide)).mp z)) ?_; refine Ex_mv rfl rfl ?_; refine Ex_invV rfl (by rfl) (by rfl) (by assumption) (by rfl) (e3) ?_; refine Ex_mv rfl rfl ?_; refine Ex_mv rfl rfl ?_; refine Ex_mv rfl rfl ?_; refine Ex_mv rfl rfl ?_; refine Ex_ift (fun z => t5 ((nI_eq (by omega) (by decide)).mp z)) ?_; refine Ex_mv rfl rfl ?_; refine Ex_invV rfl (by rfl) (by rfl) (by assumption) (by rfl) (e4) ?_
                refine Ex_rt rfl rfl ?_
                exact ⟨rfl, R4, (F1.tr F3).tr F4⟩
      refine key _ (fun q => ?_)
      cases l with
      | false =>
        refine Ex_mv rfl rfl ?_; refine Ex_getf rfl (by assumption) rfl ?_; refine Ex_mv rfl rfl ?_; refine Ex_mv rfl rfl ?_; refine Ex_mv rfl rfl ?_; refine Ex_invV rfl (by rfl) (by rfl) (by assumption) (by rfl) (e1) ?_; refine Ex_mv rfl rfl ?_; refine Ex_getf rfl (by assumption) rfl ?_; refine Ex_mv rfl rfl ?_; refine Ex_invV rfl (by rfl) (by rfl) (by assumption) (by rfl) (c_RW_one hrow1 (by omega)) ?_; refine Ex_mv rfl rfl ?_; refine Ex_mv rfl rfl ?_; refine Ex_inv rfl (by rfl) (by rfl) (by rfl) (c_CP_isTag (by omega)) ?_
        rw [if_pos g1]
        refine Ex_mv rfl rfl ?_; refine Ex_iff (by decide) ?_; refine Ex_mv rfl rfl ?_
        rw [if_neg Bool.false_ne_true]
        refine Ex_mv rfl rfl ?_; refine Ex_ift (by decide) ?_
        exact q
      | true =>
        have g2b : ¬ (b1 B a0 = 5 ∨ b1 B a0 = 6) := fun z => g2 ⟨rfl, z⟩
        refine Ex_mv rfl rfl ?_; refine Ex_getf rfl (by assumption) rfl ?_; refine Ex_mv rfl rfl ?_; refine Ex_mv rfl rfl ?_; refine Ex_mv rfl rfl ?_; refine Ex_invV rfl (by rfl) (by rfl) (by assumption) (by rfl) (e1) ?_; refine Ex_mv rfl rfl ?_; refine Ex_getf rfl (by assumption) rfl ?_; refine Ex_mv rfl rfl ?_; refine Ex_invV rfl (by rfl) (by rfl) (by assumption) (by rfl) (c_RW_one hrow1 (by omega)) ?_; refine Ex_mv rfl rfl ?_; refine Ex_mv rfl rfl ?_; refine Ex_inv rfl (by rfl) (by rfl) (by rfl) (c_CP_isTag (by omega)) ?_
        rw [if_pos g1]
        refine Ex_mv rfl rfl ?_; refine Ex_iff (by decide) ?_; refine Ex_mv rfl rfl ?_
        rw [if_pos rfl]
        refine Ex_mv rfl rfl ?_; refine Ex_iff (by decide) ?_; refine Ex_mv rfl rfl ?_; refine Ex_inv rfl (by rfl) (by rfl) (by rfl) (c_CP_isWide (by omega)) ?_
        rw [if_neg g2b]
        refine Ex_mv rfl rfl ?_; refine Ex_ift (by decide) ?_
        exact q
  · rw [if_pos (Or.inl g1)]
    obtain ⟨_, h2, e2, rfl, R2, F2⟩ := c_RD_fail (nb := nb) (sa := sa) hd R1 (k := 4) (w := a0) (by decide) (by decide)
    refine Ex_mv rfl rfl ?_; refine Ex_getf rfl (by assumption) rfl ?_; refine Ex_mv rfl rfl ?_; refine Ex_mv rfl rfl ?_; refine Ex_mv rfl rfl ?_; refine Ex_invV rfl (by rfl) (by rfl) (by assumption) (by rfl) (e1) ?_; refine Ex_mv rfl rfl ?_; refine Ex_getf rfl (by assumption) rfl ?_; refine Ex_mv rfl rfl ?_; refine Ex_invV rfl (by rfl) (by rfl) (by assumption) (by rfl) (c_RW_one hrow1 (by omega)) ?_; refine Ex_mv rfl rfl ?_; refine Ex_mv rfl rfl ?_; refine Ex_inv rfl (by rfl) (by rfl) (by rfl) (c_CP_isTag (by omega)) ?_
    rw [if_neg g1]
    refine Ex_mv rfl rfl ?_; refine Ex_ift (by decide) ?_; refine Ex_mv rfl rfl ?_; refine Ex_mv rfl rfl ?_; refine Ex_mv rfl rfl ?_; refine Ex_invV rfl (by rfl) (by rfl) (by assumption) (by rfl) (e2) ?_; refine Ex_mv rfl rfl ?_
    refine Ex_rt rfl rfl ?_
    exact ⟨rfl, R2, F1.tr F2⟩
end READER2
