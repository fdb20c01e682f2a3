/-! Reader: what it does, step by step; a fault stays -/
abbrev Fs : Type := (Nat → Nat) × Nat × Nat × Nat × List Nat × List Nat × List (Nat × Nat)
def CFs (h : Hp) (c : Nat) (B : List Nat) (x : Fs) : Prop := CF h c B x.1 x.2.1 x.2.2.1 x.2.2.2.1 x.2.2.2.2.1 x.2.2.2.2.2.1 x.2.2.2.2.2.2
/-- a fault with its place, or how far, and the file -/
abbrev Rt : Type := (Nat × Nat) ⊕ (Nat × Fs)
abbrev RdO (h : Hp) (rd c f : Nat) (w : Int32) (a : Nat) : Prop := h.2.2 rd = some (true, .inr (3, [.int (nI f), .int w, .ref c, .ref (c + 2), .int (nI a)]))
def RtM (s : Rt) (f : Nat) (w : Int32) (a : Nat) (x : Fs) : Prop := match s with
  | .inl (f', w') => f = f' ∧ w = nI w' ∧ f' ≠ 0
  | .inr (a', x') => f = 0 ∧ w = -1 ∧ a = a' ∧ x = x' ∧ 2 * x'.2.2.2.2.2.2.length ≤ a'
def RSt (h : Hp) (c rd : Nat) (B : List Nat) (s : Rt) : Prop := ∃ f w a x, RdO h rd c f w a ∧ CFs h c B x ∧ a ≤ B.length ∧ f ≤ 10 ∧ RtM s f w a x
def FR (c rd : Nat) (h h' : Hp) : Prop := h'.1 = h.1 ∧ h'.2.1 = h.2.1 ∧ ∀ q, (q < c ∨ c + 11 ≤ q) → q ≠ rd → h'.2.2 q = h.2.2 q
theorem FR.rf {c rd : Nat} {h : Hp} : FR c rd h h := ⟨rfl, rfl, fun _ _ _ => rfl⟩
theorem FR.tr {c rd : Nat} {h h1 h2 : Hp} (a : FR c rd h h1) (b : FR c rd h1 h2) : FR c rd h h2 := ⟨b.1.trans a.1, b.2.1.trans a.2.1, fun q hq hr => (b.2.2 q hq hr).trans (a.2.2 q hq hr)⟩
theorem FR.of {c rd : Nat} {h h1 : Hp} (a : FrI c (c + 11) h h1) : FR c rd h h1 := ⟨a.1, a.2.1, fun q hq _ => a.2.2 q hq⟩
theorem FR.ofR {c rd : Nat} {h h1 : Hp} (a : FrI rd (rd + 1) h h1) : FR c rd h h1 := ⟨a.1, a.2.1, fun q _ hr => a.2.2 q (by omega)⟩
theorem RtM.ok {s : Rt} {w : Int32} {a : Nat} {x : Fs} (h : RtM s 0 w a x) : s = .inr (a, x) ∧ w = -1 ∧ 2 * x.2.2.2.2.2.2.length ≤ a := by
  cases s with
  | inl e => exact absurd h.1.symm h.2.2
  | inr e => obtain ⟨-, h1, h2, h3, h4⟩ := h; subst h2; subst h3; exact ⟨rfl, h1, h4⟩
theorem RtM.bad {s : Rt} {f : Nat} {w : Int32} {a : Nat} {x : Fs} (h : RtM s f w a x) (hf : f ≠ 0) : ∃ w', s = .inl (f, w') ∧ w = nI w' := by
  cases s with
  | inl e => obtain ⟨h1, h2, h3⟩ := h; exact ⟨e.2, by rw [h1], h2⟩
  | inr e => exact absurd h.1 hf
theorem nI_nz {f : Nat} (h : f ≠ 0) (hf : f < 2 ^ 31) : ¬ nI f = 0 := fun e => h ((nI_eq (b := 0) hf (by decide)).mp e)
def p_fail (k w : Nat) (s : Rt) : Rt := match s with
  | .inl e => .inl e
  | .inr _ => .inl (k, w)
def p_skip (B : List Nat) (k : Nat) (s : Rt) : Rt := match s with
  | .inl e => .inl e
  | .inr (a, x) => if a + k ≤ B.length then .inr (a + k, x) else .inl (1, B.length)
/-- one more tell -/
def addT (x : Fs) (a w : Nat) : Fs := (x.1, x.2.1, x.2.2.1, x.2.2.2.1, x.2.2.2.2.1, x.2.2.2.2.2.1, x.2.2.2.2.2.2 ++ [(a, w)])
def p_tell (B : List Nat) (w : Nat) (s : Rt) : Rt := match s with
  | .inl e => .inl e
  | .inr (a, x) => if a + 2 ≤ B.length then .inr (a + 2, addT x a w) else .inl (1, B.length)
def p_two (B : List Nat) (s : Rt) : Nat := match s with
  | .inl _ => 0
  | .inr (a, _) => if a + 2 ≤ B.length then b2 B a else 0
def p_many (B : List Nat) (m : Nat) (s : Rt) : Nat × Rt := match s with
  | .inl e => (0, .inl e)
  | .inr (a, x) => if a + 2 ≤ B.length then (if b2 B a ≤ m then (b2 B a, .inr (a + 2, x)) else (0, .inl (3, a))) else (0, .inl (1, B.length))
section READER
variable {nb sa : Nat} {h : Hp} {c rd : Nat} {B : List Nat} {s : Rt}
theorem CFs.len {x : Fs} (hC : CFs h c B x) : B.length ≤ 400 := CF.row hC |>.len
theorem CFs.set {x : Fs} {z : Ce} (hd : rd < c ∨ c + 11 ≤ rd) (hC : CFs h c B x) : CFs (hset h rd z) c B x := CF.fr hC (FrI.set (lo := rd) (hi := rd + 1) FrI.rf (by omega) (by omega)) (by omega)
theorem c_RD_fail (hd : rd < c ∨ c + 11 ≤ rd) (hs : RSt h c rd B s) {k w : Nat} (hk : k ≠ 0) (hk2 : k ≤ 10) : EvQ (prog nb sa) m_RD_fail [.ref rd, .int (nI k), .int (nI w)] h (fun v h' => v = none ∧ RSt h' c rd B (p_fail k w s) ∧ FR c rd h h') := by
  obtain ⟨f, w0, a, x, hR, hC, ha, hf, hm⟩ := id hs
  refine EvQ_of k_RD_fail 3 [some (.ref rd), some (.int (nI k)), some (.int (nI w))] rfl (Nat.le_of_ble_eq_true rfl) rfl ?_
  by_cases hf0 : f = 0
  · subst hf0
    obtain ⟨rfl, rfl, hT⟩ := hm.ok
    refine Ex_mv rfl rfl ?_; refine Ex_getf rfl (by assumption) rfl ?_; refine Ex_mv rfl rfl ?_; refine Ex_iff (by decide) ?_; refine Ex_mv rfl rfl ?_; refine Ex_mv rfl rfl ?_; refine Ex_putf rfl (by assumption) rfl rfl ?_; refine Ex_mv rfl rfl ?_; refine Ex_mv rfl rfl ?_; refine Ex_putf rfl hs_at rfl rfl ?_
    refine Ex_rt rfl rfl ?_
    exact ⟨rfl, ⟨k, nI w, a, x, hs_at, (hC.set hd).set hd, ha, hk2, rfl, rfl, hk⟩, FR.ofR ((FrI.rf.set (by omega) (by omega)).set (by omega) (by omega))⟩
  · obtain ⟨w', rfl, rfl⟩ := hm.bad hf0
    refine Ex_mv rfl rfl ?_; refine Ex_getf rfl (by assumption) rfl ?_; refine Ex_mv rfl rfl ?_; refine Ex_ift (nI_nz hf0 (by omega)) ?_
    refine Ex_rt rfl rfl ?_
    exact ⟨rfl, hs, FR.rf⟩
theorem c_RD_skip (hd : rd < c ∨ c + 11 ≤ rd) (hs : RSt h c rd B s) {k : Nat} (hk : k < 2 ^ 31) : EvQ (prog nb sa) m_RD_skip [.ref rd, .int (nI k)] h (fun v h' => v = none ∧ RSt h' c rd B (p_skip B k s) ∧ FR c rd h h') := by
  obtain ⟨_, h1, e1, rfl, R1, F1⟩ := c_RD_fail (nb := nb) (sa := sa) hd hs (k := 1) (w := B.length) (by decide) (by decide)
  obtain ⟨f, w0, a, x, hR, hC, ha, hf, hm⟩ := id hs
  have hl := hC.len
  have hrow : RW h (c + 2) B := CF.row hC
  obtain ⟨fr, hr, hra, hB⟩ := id hrow
  refine EvQ_of k_RD_skip 2 [some (.ref rd), some (.int (nI k))] rfl (Nat.le_of_ble_eq_true rfl) rfl ?_
  by_cases hf0 : f = 0
  · subst hf0
    obtain ⟨rfl, rfl, hT⟩ := hm.ok
    by_cases e : a + k ≤ B.length
    · have es : p_skip B k (.inr (a, x)) = .inr (a + k, x) := if_pos e
      rw [es]
      refine Ex_mv rfl rfl ?_; refine Ex_getf rfl (by assumption) rfl ?_; refine Ex_mv rfl rfl ?_; refine Ex_ift (by decide) ?_; refine Ex_mv rfl rfl ?_; refine Ex_getf rfl (by assumption) rfl ?_; refine Ex_mv rfl rfl ?_; refine Ex_getf rfl (by assumption) rfl ?_; refine Ex_mv rfl rfl ?_; refine Ex_invV rfl (by rfl) (by rfl) (by assumption) (by rfl) (c_RW_has hrow (by omega) hk) ?_
      rw [if_pos e]
      refine Ex_mv rfl rfl ?_; refine Ex_iff (by decide) ?_; refine Ex_mv rfl rfl ?_; refine Ex_mv rfl rfl ?_; refine Ex_getf rfl (by assumption) rfl ?_; refine Ex_mv rfl rfl ?_; (first | refine Ex_addN rfl ?_ | refine Ex_mv rfl rfl ?_); refine Ex_putf rfl (by assumption) rfl rfl ?_; refine Ex_mv rfl rfl ?_
      refine Ex_rt rfl rfl ?_
      exact ⟨rfl, ⟨0, -1, a + k, x, hs_at, hC.set hd, e, by decide, rfl, rfl, rfl, rfl, by omega⟩, FR.ofR (FrI.rf.set (by omega) (by omega))⟩
    · have es : p_skip B k (.inr (a, x)) = .inl (1, B.length) := if_neg e
      rw [es]
      refine Ex_mv rfl rfl ?_; refine Ex_getf rfl (by assumption) rfl ?_; refine Ex_mv rfl rfl ?_; refine Ex_ift (by decide) ?_; refine Ex_mv rfl rfl ?_; refine Ex_getf rfl (by assumption) rfl ?_; refine Ex_mv rfl rfl ?_; refine Ex_getf rfl (by assumption) rfl ?_; refine Ex_mv rfl rfl ?_; refine Ex_invV rfl (by rfl) (by rfl) (by assumption) (by rfl) (c_RW_has hrow (by omega) hk) ?_
      rw [if_neg e]
      refine Ex_mv rfl rfl ?_; refine Ex_ift (by decide) ?_; refine Ex_mv rfl rfl ?_; refine Ex_mv rfl rfl ?_; refine Ex_mv rfl rfl ?_; refine Ex_getf rfl (by assumption) rfl ?_; refine Ex_invV rfl (by rfl) (by rfl) (by assumption) (by rfl) (c_RW_size hrow) ?_; refine Ex_invV rfl (by rfl) (by rfl) (by assumption) (by rfl) (e1) ?_
      refine Ex_rt rfl rfl ?_
      exact ⟨rfl, R1, F1⟩
  · obtain ⟨w', rfl, rfl⟩ := hm.bad hf0
    refine Ex_mv rfl rfl ?_; refine Ex_getf rfl (by assumption) rfl ?_; refine Ex_mv rfl rfl ?_; refine Ex_iff (nI_nz hf0 (by omega)) ?_
    refine Ex_rt rfl rfl ?_
    exact ⟨rfl, hs, FR.rf⟩
theorem c_RD_skipB (hs : RSt h c rd B s) {e : Nat × Nat} (he : s = .inl e) {k : Int32} : Ev (prog nb sa) m_RD_skip [.ref rd, .int k] h none h := by
  obtain ⟨f, w0, a, x, hR, hC, ha, hf, hm⟩ := id hs
  subst he
  obtain ⟨f1, f2, f3⟩ := hm
  refine Ev_ofL k_RD_skip 2 [some (.ref rd), some (.int k)] rfl (Nat.le_of_ble_eq_true rfl) rfl ?_
  refine Ex_mv rfl rfl ?_; refine Ex_getf rfl (by assumption) rfl ?_; refine Ex_mv rfl rfl ?_; refine Ex_iff (nI_nz (by omega) (by omega)) ?_
  exact Ex_rt rfl rfl ⟨rfl, rfl⟩
theorem c_RD_tell (hd : rd < c ∨ c + 11 ≤ rd) (hs : RSt h c rd B s) {k : Nat} (hk : k ≤ 12) : EvQ (prog nb sa) m_RD_tell [.ref rd, .int (nI k)] h (fun v h' => v = none ∧ RSt h' c rd B (p_tell B k s) ∧ FR c rd h h') := by
  obtain ⟨_, h1, e1, rfl, R1, F1⟩ := c_RD_skip (nb := nb) (sa := sa) hd hs (k := 2) (by decide)
  obtain ⟨f, w0, a, x, hR, hC, ha, hf, hm⟩ := id hs
  obtain ⟨f1, w1, a1, x1, hR1, hC1, ha1, hf1, hm1⟩ := id R1
  have hl := hC.len
  have hc1 := hC1.1
  refine EvQ_of k_RD_tell 3 [some (.ref rd), some (.int (nI k)), none] rfl (Nat.le_of_ble_eq_true rfl) rfl ?_
  by_cases hf0 : f = 0
  · subst hf0
    obtain ⟨rfl, rfl, hT⟩ := hm.ok
    by_cases e : a + 2 ≤ B.length
    · have es : p_skip B 2 (.inr (a, x)) = .inr (a + 2, x) := if_pos e
      have es2 : p_tell B k (.inr (a, x)) = .inr (a + 2, addT x a k) := if_pos e
      rw [es] at hm1
      rw [es2]
      obtain ⟨rfl, rfl, rfl, rfl, hT1⟩ := hm1
      obtain ⟨_, h2, e2, rfl, C2, F2⟩ := c_CF_addTell (nb := nb) (sa := sa) hC1 (a := a) (w := k) (by omega) (by omega) hk
      refine Ex_mv rfl rfl ?_; refine Ex_getf rfl (by assumption) rfl ?_; refine Ex_mv rfl rfl ?_; refine Ex_mv rfl rfl ?_; refine Ex_mv rfl rfl ?_; refine Ex_invV rfl (by rfl) (by rfl) (by assumption) (by rfl) (e1) ?_; refine Ex_mv rfl rfl ?_; refine Ex_getf rfl (by assumption) rfl ?_; refine Ex_mv rfl rfl ?_; refine Ex_iff (by decide) ?_; refine Ex_mv rfl rfl ?_; refine Ex_getf rfl (by assumption) rfl ?_; refine Ex_mv rfl rfl ?_; refine Ex_mv rfl rfl ?_; refine Ex_invV rfl (by rfl) (by rfl) (by assumption) (by rfl) (e2) ?_
      refine Ex_rt rfl rfl ?_
      exact ⟨rfl, ⟨0, -1, a + 2, addT x1 a k, F2.at hR1 (by omega), C2, e, by decide, rfl, rfl, rfl, rfl, by simp [addT]; omega⟩, F1.tr (FR.of F2)⟩
    · have es : p_skip B 2 (.inr (a, x)) = .inl (1, B.length) := if_neg e
      have es2 : p_tell B k (.inr (a, x)) = .inl (1, B.length) := if_neg e
      rw [es] at hm1 R1
      rw [es2]
      have hq := hm1.1
      refine Ex_mv rfl rfl ?_; refine Ex_getf rfl (by assumption) rfl ?_; refine Ex_mv rfl rfl ?_; refine Ex_mv rfl rfl ?_; refine Ex_mv rfl rfl ?_; refine Ex_invV rfl (by rfl) (by rfl) (by assumption) (by rfl) (e1) ?_; refine Ex_mv rfl rfl ?_; refine Ex_getf rfl (by assumption) rfl ?_; refine Ex_mv rfl rfl ?_; refine Ex_ift (nI_nz (by omega) (by omega)) ?_
      refine Ex_rt rfl rfl ?_
      exact ⟨rfl, R1, F1⟩
  · obtain ⟨w', rfl, rfl⟩ := hm.bad hf0
    have hq : f1 = f := hm1.1
    refine Ex_mv rfl rfl ?_; refine Ex_getf rfl (by assumption) rfl ?_; refine Ex_mv rfl rfl ?_; refine Ex_mv rfl rfl ?_; refine Ex_mv rfl rfl ?_; refine Ex_invV rfl (by rfl) (by rfl) (by assumption) (by rfl) (e1) ?_; refine Ex_mv rfl rfl ?_; refine Ex_getf rfl (by assumption) rfl ?_; refine Ex_mv rfl rfl ?_; refine Ex_ift (nI_nz (by omega) (by omega)) ?_
    refine Ex_rt rfl rfl ?_
    exact ⟨rfl, R1, F1⟩
theorem c_RD_two (hd : rd < c ∨ c + 11 ≤ rd) (hs : RSt h c rd B s) : EvQ (prog nb sa) m_RD_two [.ref rd] h (fun v h' => v = some (.int (nI (p_two B s))) ∧ RSt h' c rd B (p_skip B 2 s) ∧ FR c rd h h') := by
  obtain ⟨_, h1, e1, rfl, R1, F1⟩ := c_RD_skip (nb := nb) (sa := sa) hd hs (k := 2) (by decide)
  obtain ⟨f, w0, a, x, hR, hC, ha, hf, hm⟩ := id hs
  obtain ⟨f1, w1, a1, x1, hR1, hC1, ha1, hf1, hm1⟩ := id R1
  have hl := hC.len
  have hrow1 : RW h1 (c + 2) B := CF.row hC1
  obtain ⟨fr, hr, hra, hB⟩ := id hrow1
  refine EvQ_of k_RD_two 2 [some (.ref rd), none] rfl (Nat.le_of_ble_eq_true rfl) rfl ?_
  by_cases hf0 : f = 0
  · subst hf0
    obtain ⟨rfl, rfl, hT⟩ := hm.ok
    by_cases e : a + 2 ≤ B.length
    · have es : p_skip B 2 (.inr (a, x)) = .inr (a + 2, x) := if_pos e
      have es2 : p_two B (.inr (a, x)) = b2 B a := if_pos e
      rw [es] at hm1
      rw [es2]
      obtain ⟨rfl, rfl, rfl, rfl, hT1⟩ := hm1
      refine Ex_mv rfl rfl ?_; refine Ex_getf rfl (by assumption) rfl ?_; refine Ex_mv rfl rfl ?_; refine Ex_mv rfl rfl ?_; refine Ex_mv rfl rfl ?_; refine Ex_invV rfl (by rfl) (by rfl) (by assumption) (by rfl) (e1) ?_; refine Ex_mv rfl rfl ?_; refine Ex_getf rfl (by assumption) rfl ?_; refine Ex_mv rfl rfl ?_; refine Ex_iff (by decide) ?_; refine Ex_mv rfl rfl ?_; refine Ex_getf rfl (by assumption) rfl ?_; refine Ex_mv rfl rfl ?_; refine Ex_invV rfl (by rfl) (by rfl) (by assumption) (by rfl) (c_RW_two hrow1 (by omega)) ?_; refine Ex_mv rfl rfl ?_
      refine Ex_rt rfl rfl ?_
      exact ⟨rfl, R1, F1⟩
    · have es : p_skip B 2 (.inr (a, x)) = .inl (1, B.length) := if_neg e
      have es2 : p_two B (.inr (a, x)) = 0 := if_neg e
      rw [es] at hm1
      rw [es2]
      have hq := hm1.1
      refine Ex_mv rfl rfl ?_; refine Ex_getf rfl (by assumption) rfl ?_; refine Ex_mv rfl rfl ?_; refine Ex_mv rfl rfl ?_; refine Ex_mv rfl rfl ?_; refine Ex_invV rfl (by rfl) (by rfl) (by assumption) (by rfl) (e1) ?_; refine Ex_mv rfl rfl ?_; refine Ex_getf rfl (by assumption) rfl ?_; refine Ex_mv rfl rfl ?_; refine Ex_ift (nI_nz (by omega) (by omega)) ?_; refine Ex_mv rfl rfl ?_
      refine Ex_rt rfl rfl ?_
      exact ⟨rfl, R1, F1⟩
  · obtain ⟨w', rfl, rfl⟩ := hm.bad hf0
    have hq : f1 = f := hm1.1
    refine Ex_mv rfl rfl ?_; refine Ex_getf rfl (by assumption) rfl ?_; refine Ex_mv rfl rfl ?_; refine Ex_mv rfl rfl ?_; refine Ex_mv rfl rfl ?_; refine Ex_invV rfl (by rfl) (by rfl) (by assumption) (by rfl) (e1) ?_; refine Ex_mv rfl rfl ?_; refine Ex_getf rfl (by assumption) rfl ?_; refine Ex_mv rfl rfl ?_; refine Ex_ift (nI_nz (by omega) (by omega)) ?_; refine Ex_mv rfl rfl ?_
    refine Ex_rt rfl rfl ?_
    exact ⟨rfl, R1, F1⟩
theorem c_RD_many (hd : rd < c ∨ c + 11 ≤ rd) (hs : RSt h c rd B s) {m : Nat} (hm0 : m < 65536) : EvQ (prog nb sa) m_RD_many [.ref rd, .int (nI m)] h (fun v h' => v = some (.int (nI (p_many B m s).1)) ∧ RSt h' c rd B (p_many B m s).2 ∧ FR c rd h h') := by
  obtain ⟨_, h1, e1, rfl, R1, F1⟩ := c_RD_skip (nb := nb) (sa := sa) hd hs (k := 2) (by decide)
  obtain ⟨f, w0, a, x, hR, hC, ha, hf, hm⟩ := id hs
  obtain ⟨f1, w1, a1, x1, hR1, hC1, ha1, hf1, hm1⟩ := id R1
  obtain ⟨_, h2, e2, rfl, R2, F2⟩ := c_RD_fail (nb := nb) (sa := sa) hd R1 (k := 3) (w := a) (by decide) (by decide)
  obtain ⟨f2, w2, a2, x2, hR2, hC2, ha2, hf2, hm2⟩ := id R2
  have hl := hC.len
  have hrow1 : RW h1 (c + 2) B := CF.row hC1
  obtain ⟨fr, hr, hra, hB⟩ := id hrow1
  have hb := b2_lt hrow1.lt a
  refine EvQ_of k_RD_many 4 [some (.ref rd), some (.int (nI m)), none, none] rfl (Nat.le_of_ble_eq_true rfl) rfl ?_
  by_cases hf0 : f = 0
  · subst hf0
    obtain ⟨rfl, rfl, hT⟩ := hm.ok
    by_cases e : a + 2 ≤ B.length
    · have es : p_skip B 2 (.inr (a, x)) = .inr (a + 2, x) := if_pos e
      rw [es] at hm1 R1 R2 hm2
      by_cases hb2 : b2 B a ≤ m
      · have es2 : p_many B m (.inr (a, x)) = (b2 B a, .inr (a + 2, x)) := (if_pos e).trans (if_pos hb2)
        rw [es2]
        obtain ⟨rfl, rfl, rfl, rfl, hT1⟩ := hm1
        refine Ex_mv rfl rfl ?_; refine Ex_getf rfl (by assumption) rfl ?_; refine Ex_mv rfl rfl ?_; refine Ex_mv rfl rfl ?_; refine Ex_mv rfl rfl ?_; refine Ex_invV rfl (by rfl) (by rfl) (by assumption) (by rfl) (e1) ?_; refine Ex_mv rfl rfl ?_; refine Ex_getf rfl (by assumption) rfl ?_; refine Ex_mv rfl rfl ?_; refine Ex_invV rfl (by rfl) (by rfl) (by assumption) (by rfl) (c_RW_two hrow1 (by omega)) ?_; refine Ex_mv rfl rfl ?_; refine Ex_mv rfl rfl ?_; refine Ex_mv rfl rfl ?_; refine Ex_mv rfl rfl ?_; refine Ex_ift (nI_le (by omega) (by omega)) ?_; refine Ex_mv rfl rfl ?_; refine Ex_getf rfl (by assumption) rfl ?_; refine Ex_mv rfl rfl ?_; refine Ex_iff (by decide) ?_; refine Ex_mv rfl rfl ?_; refine Ex_mv rfl rfl ?_
        refine Ex_rt rfl rfl ?_
        exact ⟨rfl, R1, F1⟩
      · have es2 : p_many B m (.inr (a, x)) = (0, .inl (3, a)) := (if_pos e).trans (if_neg hb2)
        rw [es2]
        have hq : f2 = 3 := hm2.1
        refine Ex_mv rfl rfl ?_; refine Ex_getf rfl (by assumption) rfl ?_; refine Ex_mv rfl rfl ?_; refine Ex_mv rfl rfl ?_; refine Ex_mv rfl rfl ?_; refine Ex_invV rfl (by rfl) (by rfl) (by assumption) (by rfl) (e1) ?_; refine Ex_mv rfl rfl ?_; refine Ex_getf rfl (by assumption) rfl ?_; refine Ex_mv rfl rfl ?_; refine Ex_invV rfl (by rfl) (by rfl) (by assumption) (by rfl) (c_RW_two hrow1 (by omega)) ?_; refine Ex_mv rfl rfl ?_; refine Ex_mv rfl rfl ?_; refine Ex_mv rfl rfl ?_; refine Ex_mv rfl rfl ?_; refine Ex_iff (nI_ge (by omega) (by omega)) ?_; refine Ex_mv rfl rfl ?_; refine Ex_mv rfl rfl ?_; refine Ex_mv rfl rfl ?_; refine Ex_invV rfl (by rfl) (by rfl) (by assumption) (by rfl) (e2) ?_; refine Ex_mv rfl rfl ?_; refine Ex_getf rfl (by assumption) rfl ?_; refine Ex_mv rfl rfl ?_; refine Ex_ift (nI_nz (by omega) (by omega)) ?_; refine Ex_mv rfl rfl ?_
        refine Ex_rt rfl rfl ?_
        exact ⟨rfl, R2, F1.tr F2⟩
    · have es : p_skip B 2 (.inr (a, x)) = .inl (1, B.length) := if_neg e
      have es2 : p_many B m (.inr (a, x)) = (0, .inl (1, B.length)) := if_neg e
      rw [es] at hm1 R1 R2 hm2
      rw [es2]
      have hq : f1 = 1 := hm1.1
      have hq2 : f2 = 1 := hm2.1
      by_cases hb2 : b2 B a ≤ m
      · refine Ex_mv rfl rfl ?_; refine Ex_getf rfl (by assumption) rfl ?_; refine Ex_mv rfl rfl ?_; refine Ex_mv rfl rfl ?_; refine Ex_mv rfl rfl ?_; refine Ex_invV rfl (by rfl) (by rfl) (by assumption) (by rfl) (e1) ?_; refine Ex_mv rfl rfl ?_; refine Ex_getf rfl (by assumption) rfl ?_; refine Ex_mv rfl rfl ?_; refine Ex_invV rfl (by rfl) (by rfl) (by assumption) (by rfl) (c_RW_two hrow1 (by omega)) ?_; refine Ex_mv rfl rfl ?_; refine Ex_mv rfl rfl ?_; refine Ex_mv rfl rfl ?_; refine Ex_mv rfl rfl ?_; refine Ex_ift (nI_le (by omega) (by omega)) ?_; refine Ex_mv rfl rfl ?_; refine Ex_getf rfl (by assumption) rfl ?_; refine Ex_mv rfl rfl ?_; refine Ex_ift (nI_nz (by omega) (by omega)) ?_; refine Ex_mv rfl rfl ?_
        refine Ex_rt rfl rfl ?_
        exact ⟨rfl, R1, F1⟩
      · refine Ex_mv rfl rfl ?_; refine Ex_getf rfl (by assumption) rfl ?_; refine Ex_mv rfl rfl ?_; refine Ex_mv rfl rfl ?_; refine Ex_mv rfl rfl ?_; refine Ex_invV rfl (by rfl) (by rfl) (by assumption) (by rfl) (e1) ?_; refine Ex_mv rfl rfl ?_; refine Ex_getf rfl (by assumption) rfl ?_; refine Ex_mv rfl rfl ?_; refine Ex_invV rfl (by rfl) (by rfl) (by assumption) (by rfl) (c_RW_two hrow1 (by omega)) ?_; refine Ex_mv rfl rfl ?_; refine Ex_mv rfl rfl ?_; refine Ex_mv rfl rfl ?_; refine Ex_mv rfl rfl ?_; refine Ex_iff (nI_ge (by omega) (by omega)) ?_; refine Ex_mv rfl rfl ?_; refine Ex_mv rfl rfl ?_; refine Ex_mv rfl rfl ?_; refine Ex_invV rfl (by rfl) (by rfl) (by assumption) (by rfl) (e2) ?_; refine Ex_mv rfl rfl ?_; refine Ex_getf rfl (by assumption) rfl ?_; refine Ex_mv rfl rfl ?_; refine Ex_ift (nI_nz (by omega) (by omega)) ?_; refine Ex_mv rfl rfl ?_
        refine Ex_rt rfl rfl ?_
        exact ⟨rfl, R2, F1.tr F2⟩
  · obtain ⟨w', rfl, rfl⟩ := hm.bad hf0
    have hq : f1 = f := hm1.1
    have hq2 : f2 = f := hm2.1
    by_cases hb2 : b2 B a ≤ m
    · refine Ex_mv rfl rfl ?_; refine Ex_getf rfl (by assumption) rfl ?_; refine Ex_mv rfl rfl ?_; refine Ex_mv rfl rfl ?_; refine Ex_mv rfl rfl ?_; refine Ex_invV rfl (by rfl) (by rfl) (by assumption) (by rfl) (e1) ?_; refine Ex_mv rfl rfl ?_; refine Ex_getf rfl (by assumption) rfl ?_; refine Ex_mv rfl rfl ?_; refine Ex_invV rfl (by rfl) (by rfl) (by assumption) (by rfl) (c_RW_two hrow1 (by omega)) ?_; refine Ex_mv rfl rfl ?_; refine Ex_mv rfl rfl ?_; refine Ex_mv rfl rfl ?_; refine Ex_mv rfl rfl ?_; refine Ex_ift (nI_le (by omega) (by omega)) ?_; refine Ex_mv rfl rfl ?_; refine Ex_getf rfl (by assumption) rfl ?_; refine Ex_mv rfl rfl ?_; refine Ex_ift (nI_nz (by omega) (by omega)) ?_; refine Ex_mv rfl rfl ?_
      refine Ex_rt rfl rfl ?_
      exact ⟨rfl, R1, F1⟩
    · refine Ex_mv rfl rfl ?_; refine Ex_getf rfl (by assumption) rfl ?_; refine Ex_mv rfl rfl ?_; refine Ex_mv rfl rfl ?_; refine Ex_mv rfl rfl ?_; refine Ex_invV rfl (by rfl) (by rfl) (by assumption) (by rfl) (e1) ?_; refine Ex_mv rfl rfl ?_; refine Ex_getf rfl (by assumption) rfl ?_; refine Ex_mv rfl rfl ?_; refine Ex_invV rfl (by rfl) (by rfl) (by assumption) (by rfl) (c_RW_two hrow1 (by omega)) ?_; refine Ex_mv rfl rfl ?_; refine Ex_mv rfl rfl ?_; refine Ex_mv rfl rfl ?_; refine Ex_mv rfl rfl ?_; refine Ex_iff (nI_ge (by omega) (by omega)) ?_; refine Ex_mv rfl rfl ?_; refine Ex_mv rfl rfl ?_; refine Ex_mv rfl rfl ?_; refine Ex_invV rfl (by rfl) (by rfl) (by assumption) (by rfl) (e2) ?_; refine Ex_mv rfl rfl ?_; refine Ex_getf rfl (by assumption) rfl ?_; refine Ex_mv rfl rfl ?_; refine Ex_ift (nI_nz (by omega) (by omega)) ?_; refine Ex_mv rfl rfl ?_
      refine Ex_rt rfl rfl ?_
      exact ⟨rfl, R2, F1.tr F2⟩
end READER
