/-! Reader: the whole file -/
/-- members' lists stay -/
def SmP (s s' : Rt) : Prop := ∀ a' x', s' = .inr (a', x') → ∃ a x, s = .inr (a, x) ∧ x'.2.2.2.2.1 = x.2.2.2.2.1 ∧ x'.2.2.2.2.2.1 = x.2.2.2.2.2.1
theorem SmP.tr {s s1 s2 : Rt} (h1 : SmP s s1) (h2 : SmP s1 s2) : SmP s s2 := by
  intro a' x' e
  obtain ⟨a, x, e1, g5, g6⟩ := h2 a' x' e
  obtain ⟨b, y, e2, k5, k6⟩ := h1 a x e1
  exact ⟨b, y, e2, g5.trans k5, g6.trans k6⟩
theorem SmM.p {s s' : Rt} (h : SmM s s') : SmP s s' := fun a x e => by
  obtain ⟨b, y, e1, -, -, -, -, -, g5, g6⟩ := h a x e
  exact ⟨b, y, e1, g5, g6⟩
theorem SmP.rf (s : Rt) : SmP s s := (SmM.rf s).p
theorem SmP.bad (s : Rt) (e : Nat × Nat) : SmP s (.inl e) := (SmM.bad s e).p
theorem Sp_fail (k w : Nat) (s : Rt) : SmP s (p_fail k w s) := by
  unfold p_fail
  split
  · exact SmP.rf _
  · exact SmP.bad _ _
theorem Sp_mags (B : List Nat) : ∀ (d i : Nat) (s : Rt), SmP s (p_mags B d i s)
  | 0, i, s => SmP.rf s
  | d + 1, i, s => by
    have h1 : SmP s (p_mag B i s) := by
      unfold p_mag
      split
      · exact (Sm_skip B 1 s).p
      · exact (Sm_skip B 1 s).p.tr (Sp_fail _ _ _)
    exact h1.tr (Sp_mags B d (i + 1) _)
theorem Sp_entry (B : List Nat) (l : Bool) (a : Nat) (x : Fs) : SmP (.inr (a, x)) (p_entry B l a x) := by
  have h1 := (Sm_skip B 1 (.inr (a, x))).p
  unfold p_entry
  split
  · exact h1.tr (Sp_fail _ _ _)
  · split
    · exact (h1.tr (Sm_skip B 2 _).p).tr (Sm_skip B _ _).p
    · split
      · exact h1.tr (Sm_skip B _ _).p
      · split
        · exact h1.tr (Sm_tell B _ _).p
        · exact (h1.tr (Sm_tell B _ _).p).tr (Sm_tell B _ _).p
theorem Sp_ents (B : List Nat) (m : Nat) : ∀ (f i : Nat) (s : Rt), SmP s (p_ents B m f i s)
  | 0, i, s => SmP.rf s
  | f + 1, i, s => by
    unfold p_ents
    split
    · split
      · exact SmP.rf _
      · next a x =>
        have h0 : SmP (.inr (a, x)) (.inr (a, setS x i a)) := fun a' x' e => by
          simp only [Sum.inr.injEq, Prod.mk.injEq] at e
          exact ⟨a, x, rfl, by rw [← e.2]; rfl, by rw [← e.2]; rfl⟩
        exact (h0.tr (Sp_entry B _ a (setS x i a))).tr (Sp_ents B m f _ _)
    · exact SmP.rf _
theorem Sp_begin (m : Nat) (s : Rt) : SmP s (p_begin m s) := by
  intro a' x' e
  cases s with
  | inl q => cases e
  | inr q => unfold p_begin at e; simp only [Sum.inr.injEq, Prod.mk.injEq] at e; exact ⟨q.1, q.2, rfl, by rw [← e.2], by rw [← e.2]⟩
theorem Sp_entries (B : List Nat) (s : Rt) : SmP s (p_entries B s) := by
  unfold p_entries
  split
  · exact SmP.rf _
  · next a x =>
    refine SmP.tr ?_ (Sp_ents B _ _ _ _)
    refine SmP.tr ?_ (Sp_begin _ _)
    split
    · exact (Sm_many B 61 _).p.tr (Sp_fail _ _ _)
    · exact (Sm_many B 61 _).p
theorem Sp_bh (s : Rt) : SmP s (p_bh s) := by
  intro a' x' e
  cases s with
  | inl q => cases e
  | inr q => unfold p_bh at e; simp only [Sum.inr.injEq, Prod.mk.injEq] at e; exact ⟨q.1, q.2, rfl, by rw [← e.2], by rw [← e.2]⟩
theorem Sm_above (B : List Nat) (s : Rt) : SmM s (p_above B s) := by
  unfold p_above
  split
  · exact SmM.rf _
  · split
    · exact Sm_skip B _ _
    · exact Sm_tell B _ _
theorem Sp_heads (B : List Nat) (s : Rt) : SmP s (p_heads B s) := (((Sp_bh s).tr (Sm_skip B 2 _).p).tr (Sm_tell B 7 _).p).tr (Sm_above B _).p
theorem Sm_tells (B : List Nat) : ∀ (d : Nat) (s : Rt), SmM s (p_tells B d s)
  | 0, s => SmM.rf s
  | d + 1, s => by
    unfold p_tells
    split
    · exact SmM.rf _
    · exact (Sm_tell B 7 _).tr (Sm_tells B d _)
theorem Sm1_mems (B : List Nat) : ∀ (d : Nat) (s : Rt) (a' : Nat) (x' : Fs), p_mems B 0 d s = .inr (a', x') → ∃ a x, s = .inr (a, x) ∧ x'.2.2.2.2.2.1 = x.2.2.2.2.2.1
  | 0, s, a', x', e => ⟨a', x', e, rfl⟩
  | d + 1, s, a', x', e => by
    unfold p_mems at e
    split at e
    · cases e
    · next a x =>
      obtain ⟨b, y, e1, g⟩ := Sm1_mems B d _ a' x' e
      have h1 := ((Sm_skip B 2 (.inr (a, addM x 0 a))).tr (Sm_tell B 1 _)).tr (Sm_tell B 1 _)
      have h2 := h1.tr (Sm_attrs B _)
      obtain ⟨b2, y2, e2, -, -, -, -, -, g5, g6⟩ := h2 b y e1
      simp only [Sum.inr.injEq, Prod.mk.injEq] at e2
      refine ⟨a, x, rfl, ?_⟩
      rw [g, g6, ← e2.2]
      rfl
section READER5
variable {nb sa : Nat} {c rd : Nat} {B : List Nat}
theorem RSt.bh {h : Hp} {s : Rt} {f a : Nat} {w : Int32} {x : Fs} (hd : rd < c ∨ c + 11 ≤ rd) (hR : RdO h rd c f w a) (hC : CFs h c B x) (ha : a ≤ B.length) (hf : f ≤ 10) (hm : RtM s f w a x) : RSt (hset h c (.inr (0, [.ref (c + 1), .ref (c + 2), .int (nI a), .int (nI x.2.2.2.1), .ref (c + 5), .ref (c + 8), .ref (c + 9), .ref (c + 10), .int (nI x.2.2.2.2.2.2.length)]))) c rd B (p_bh s) := by
  have hl := hC.len
  obtain ⟨a1, a2, a3, a4, a5, a6, a7, a8, b1, b2, b3, b4, b5⟩ := hC
  have F : ∀ z, FrI c (c + 1) h (hset h c z) := fun z => FrI.rf.set (by omega) (by omega)
  refine ⟨f, w, a, (x.1, x.2.1, a, x.2.2.2), hs_ne (by omega) hR, ⟨hs_at, a2.fr (F _) (by omega), hs_ne (by omega) a3, a4.fr (F _) (by omega), a5.fr (F _) (by omega), a6.fr (F _) (by omega), a7.fr (F _) (by omega), a8.fr (F _) (by omega), b1, b2, b3, (Nat.le_trans ha hl : a ≤ 400), b5⟩, ha, hf, ?_⟩
  cases s with
  | inl e => exact hm
  | inr e => obtain ⟨h1, h2, h3, h4, h5⟩ := hm; subst h4; subst h3; exact ⟨h1, h2, rfl, rfl, h5⟩
theorem RSt.aa {h : Hp} {s : Rt} {f a : Nat} {w : Int32} {x : Fs} (hd : rd < c ∨ c + 11 ≤ rd) (hR : RdO h rd c f w a) (hC : CFs h c B x) (ha : a ≤ B.length) (hf : f ≤ 10) (hm : RtM s f w a x) : RSt (hset h c (.inr (0, [.ref (c + 1), .ref (c + 2), .int (nI x.2.2.1), .int (nI a), .ref (c + 5), .ref (c + 8), .ref (c + 9), .ref (c + 10), .int (nI x.2.2.2.2.2.2.length)]))) c rd B (p_aa s) := by
  have hl := hC.len
  obtain ⟨a1, a2, a3, a4, a5, a6, a7, a8, b1, b2, b3, b4, b5, b6⟩ := hC
  have F : ∀ z, FrI c (c + 1) h (hset h c z) := fun z => FrI.rf.set (by omega) (by omega)
  refine ⟨f, w, a, (x.1, x.2.1, x.2.2.1, a, x.2.2.2.2), hs_ne (by omega) hR, ⟨hs_at, a2.fr (F _) (by omega), hs_ne (by omega) a3, a4.fr (F _) (by omega), a5.fr (F _) (by omega), a6.fr (F _) (by omega), a7.fr (F _) (by omega), a8.fr (F _) (by omega), b1, b2, b3, b4, (Nat.le_trans ha hl : a ≤ 400), b6⟩, ha, hf, ?_⟩
  cases s with
  | inl e => exact hm
  | inr e => obtain ⟨h1, h2, h3, h4, h5⟩ := hm; subst h4; subst h3; exact ⟨h1, h2, rfl, rfl, h5⟩
theorem FR.setc {h : Hp} {z : Ce} : FR c rd h (hset h c z) := FR.of (FrI.rf.set (by omega) (by omega))
/-- the part of scan from the members on -/
theorem RD_scan_rest (hd : rd < c ∨ c + 11 ≤ rd) {x1 x2 : Option Value} {h : Hp} {s : Rt} (hs : RSt h c rd B s) (hn : ∀ a x, s = .inr (a, x) → x.2.2.2.2.1 = [] ∧ x.2.2.2.2.2.1 = []) : Ex (prog nb sa) k_RD_scan 72 [some (.ref rd), x1, x2] [] h (fun v h' => v = none ∧ RSt h' c rd B (p_rest B s) ∧ FR c rd h h') := by
  obtain ⟨_, h1, e1, rfl, R1, F1⟩ := c_RD_members (nb := nb) (sa := sa) (k := 0) hd (by decide) (fun a x e => (hn a x e).1) hs
  have hn1 : ∀ a x, p_members B 0 s = .inr (a, x) → mK x.2.2.2.2.1 x.2.2.2.2.2.1 1 = [] := by
    intro a x e
    obtain ⟨b, y, e1, g⟩ := Sm1_mems B _ _ a x e
    obtain ⟨b2, y2, e2, -, g6⟩ := (Sm_many B 12 s).p b y e1
    show x.2.2.2.2.2.1 = []
    rw [g, g6]
    exact (hn b2 y2 e2).2
  obtain ⟨_, h2, e2, rfl, R2, F2⟩ := c_RD_members (nb := nb) (sa := sa) (k := 1) hd (by decide) hn1 R1
  obtain ⟨f, w, a, x, hR, hC, ha, hf, hm⟩ := id hs
  obtain ⟨f1, w1, a1, x1, hR1, -⟩ := id R1
  obtain ⟨f2, w2, a2, x2, hR2, hC2, ha2, hf2, hm2⟩ := id R2
  have hc2 := hC2.1
  have R3 := RSt.aa hd hR2 hC2 ha2 hf2 hm2
  obtain ⟨f3, w3, a3, x3, hR3, -⟩ := id R3
  obtain ⟨_, h4, e4, rfl, R4, F4⟩ := c_RD_attributes (nb := nb) (sa := sa) hd R3
  obtain ⟨f4, w4, a4, x4, hR4, hC4, ha4, hf4, hm4⟩ := id R4
  have hrow4 : RW h4 (c + 2) B := CF.row hC4
  obtain ⟨fr, hr, hra, hB⟩ := id hrow4
  have hl := hC.len
  obtain ⟨_, h5, e5, rfl, R5, F5⟩ := c_RD_fail (nb := nb) (sa := sa) hd R4 (k := 6) (w := a4) (by decide) (by decide)
  by_cases hlt : a4 < B.length
  · have es : p_rest B s = p_fail 6 a4 (p_attrs B (p_aa (p_members B 1 (p_members B 0 s)))) := by
      unfold p_rest
      cases hq : p_attrs B (p_aa (p_members B 1 (p_members B 0 s))) with
      | inl e => rfl
      | inr e => rw [hq] at hm4; obtain ⟨-, -, q, -, -⟩ := hm4; subst q; exact if_pos hlt
    rw [es]
    refine Ex_mv rfl rfl ?_; refine Ex_mv rfl rfl ?_; refine Ex_invV rfl (by rfl) (by rfl) (by assumption) (by rfl) (e1) ?_; refine Ex_mv rfl rfl ?_; refine Ex_mv rfl rfl ?_; refine Ex_invV rfl (by rfl) (by rfl) (by assumption) (by rfl) (e2) ?_; refine Ex_mv rfl rfl ?_; refine Ex_getf rfl (by assumption) rfl ?_; refine Ex_mv rfl rfl ?_; refine Ex_getf rfl (by assumption) rfl ?_; refine Ex_putf rfl (by assumption) rfl rfl ?_; refine Ex_mv rfl rfl ?_; refine Ex_invV rfl (by rfl) (by rfl) (by assumption) (by rfl) (e4) ?_; refine Ex_mv rfl rfl ?_; refine Ex_getf rfl (by assumption) rfl ?_; refine Ex_mv rfl rfl ?_; refine Ex_getf rfl (by assumption) rfl ?_; refine Ex_invV rfl (by rfl) (by rfl) (by assumption) (by rfl) (c_RW_size hrow4) ?_; refine Ex_mv rfl rfl ?_; refine Ex_iff (nI_ge (by omega) (by omega)) ?_; refine Ex_mv rfl rfl ?_; refine Ex_mv rfl rfl ?_; refine Ex_mv rfl rfl ?_; refine Ex_getf rfl (by assumption) rfl ?_; refine Ex_invV rfl (by rfl) (by rfl) (by assumption) (by rfl) (e5) ?_
    refine Ex_rt rfl rfl ?_
    exact ⟨rfl, R5, (((F1.tr F2).tr FR.setc).tr F4).tr F5⟩
  · have es : p_rest B s = p_attrs B (p_aa (p_members B 1 (p_members B 0 s))) := by
      unfold p_rest
      cases hq : p_attrs B (p_aa (p_members B 1 (p_members B 0 s))) with
      | inl e => rfl
      | inr e => rw [hq] at hm4; obtain ⟨-, -, q, -, -⟩ := hm4; subst q; exact if_neg hlt
    rw [es]
    refine Ex_mv rfl rfl ?_; refine Ex_mv rfl rfl ?_; refine Ex_invV rfl (by rfl) (by rfl) (by assumption) (by rfl) (e1) ?_; refine Ex_mv rfl rfl ?_; refine Ex_mv rfl rfl ?_; refine Ex_invV rfl (by rfl) (by rfl) (by assumption) (by rfl) (e2) ?_; refine Ex_mv rfl rfl ?_; refine Ex_getf rfl (by assumption) rfl ?_; refine Ex_mv rfl rfl ?_; refine Ex_getf rfl (by assumption) rfl ?_; refine Ex_putf rfl (by assumption) rfl rfl ?_; refine Ex_mv rfl rfl ?_; refine Ex_invV rfl (by rfl) (by rfl) (by assumption) (by rfl) (e4) ?_; refine Ex_mv rfl rfl ?_; refine Ex_getf rfl (by assumption) rfl ?_; refine Ex_mv rfl rfl ?_; refine Ex_getf rfl (by assumption) rfl ?_; refine Ex_invV rfl (by rfl) (by rfl) (by assumption) (by rfl) (c_RW_size hrow4) ?_; refine Ex_mv rfl rfl ?_; refine Ex_ift (nI_le (by omega) (by omega)) ?_
    refine Ex_rt rfl rfl ?_
    exact ⟨rfl, R4, ((F1.tr F2).tr FR.setc).tr F4⟩
theorem RD_scan_loop (hd : rd < c ∨ c + 11 ≤ rd) {m : Nat} (hm8 : m ≤ 8) : ∀ (d i : Nat) (h : Hp) (s : Rt), i + d = m → (∀ a x, s = .inr (a, x) → x.2.2.2.2.1 = [] ∧ x.2.2.2.2.2.1 = []) → RSt h c rd B s → Ex (prog nb sa) k_RD_scan 48 [some (.ref rd), some (.int (nI m)), some (.int (nI i))] [] h (fun v h' => v = none ∧ RSt h' c rd B (p_rest B (p_tells B d s)) ∧ FR c rd h h')
  | 0, i, h, s, hi, hn, hs => by
    refine Ex_mv rfl rfl ?_; refine Ex_mv rfl rfl ?_; refine Ex_mv rfl rfl ?_; refine Ex_ift (nI_le (by omega) (by omega)) ?_
    exact RD_scan_rest hd hs hn
  | d + 1, i, h, s, hi, hn, hs => by
    obtain ⟨f, w0, a, x, hR, hC, ha, hf2, hm⟩ := id hs
    by_cases hf0 : f = 0
    · subst hf0
      obtain ⟨rfl, rfl, hT⟩ := hm.ok
      rw [show p_tells B (d + 1) (.inr (a, x)) = p_tells B d (p_tell B 7 (.inr (a, x))) from rfl]
      obtain ⟨_, h1, e1, rfl, R1, F1⟩ := c_RD_tell (nb := nb) (sa := sa) hd hs (k := 7) (by decide)
      have ih := RD_scan_loop hd hm8 d (i + 1) h1 _ (by omega) (fun a' x' e => by
        obtain ⟨b, y, e1, g5, g6⟩ := (Sm_tell B 7 _).p a' x' e
        rw [g5, g6]
        exact hn b y e1) R1
      refine Ex_mv rfl rfl ?_; refine Ex_mv rfl rfl ?_; refine Ex_mv rfl rfl ?_; refine Ex_iff (nI_ge (by omega) (by omega)) ?_; refine Ex_mv rfl rfl ?_; refine Ex_getf rfl (by assumption) rfl ?_; refine Ex_mv rfl rfl ?_; refine Ex_iff (by decide) ?_; refine Ex_mv rfl rfl ?_; refine Ex_mv rfl rfl ?_; refine Ex_invV rfl (by rfl) (by rfl) (by assumption) (by rfl) (e1) ?_; (first | refine Ex_incN rfl rfl ?_ | refine Ex_mv rfl rfl ?_); refine Ex_mv rfl rfl ?_
      refine Ex_mono ih ?_
      rintro v h' ⟨rfl, q1, q2⟩
      exact ⟨rfl, q1, F1.tr q2⟩
    · obtain ⟨w', rfl, rfl⟩ := hm.bad hf0
      refine Ex_mv rfl rfl ?_; refine Ex_mv rfl rfl ?_; refine Ex_mv rfl rfl ?_; refine Ex_iff (nI_ge (by omega) (by omega)) ?_; refine Ex_mv rfl rfl ?_; refine Ex_getf rfl (by assumption) rfl ?_; refine Ex_mv rfl rfl ?_; refine Ex_ift (nI_nz hf0 (by omega)) ?_
      exact RD_scan_rest hd hs hn
theorem c_RD_scan {h : Hp} {s : Rt} (hd : rd < c ∨ c + 11 ≤ rd) (hs : RSt h c rd B s) (hn : ∀ a x, s = .inr (a, x) → x.2.2.2.2.1 = [] ∧ x.2.2.2.2.2.1 = []) : EvQ (prog nb sa) m_RD_scan [.ref rd] h (fun v h' => v = none ∧ RSt h' c rd B (p_scan B s) ∧ FR c rd h h') := by
  obtain ⟨_, h1, e1, rfl, R1, F1⟩ := c_RD_magic (nb := nb) (sa := sa) hd hs
  obtain ⟨_, h2, e2, rfl, R2, F2⟩ := c_RD_skip (nb := nb) (sa := sa) hd R1 (k := 4) (by decide)
  obtain ⟨_, h3, e3, rfl, R3, F3⟩ := c_RD_entries (nb := nb) (sa := sa) hd R2
  obtain ⟨f, w, a, x, hR, hC, ha, hf, hm⟩ := id hs
  obtain ⟨f1, w1, a1, x1, hR1, -⟩ := id R1
  obtain ⟨f2, w2, a2, x2, hR2, -⟩ := id R2
  obtain ⟨f3, w3, a3, x3, hR3, hC3, ha3, hf3, hm3⟩ := id R3
  have hc3 := hC3.1
  have R4 := RSt.bh hd hR3 hC3 ha3 hf3 hm3
  obtain ⟨f4, w4, a4, x4, hR4, -⟩ := id R4
  obtain ⟨_, h5, e5, rfl, R5, F5⟩ := c_RD_skip (nb := nb) (sa := sa) hd R4 (k := 2) (by decide)
  obtain ⟨_, h6, e6, rfl, R6, F6⟩ := c_RD_tell (nb := nb) (sa := sa) hd R5 (k := 7) (by decide)
  obtain ⟨_, h7, e7, rfl, R7, F7⟩ := c_RD_classAbove (nb := nb) (sa := sa) hd R6
  obtain ⟨_, h8, e8, rfl, R8, F8⟩ := c_RD_many (nb := nb) (sa := sa) hd R7 (m := 8) (by decide)
  obtain ⟨f5, w5, a5, x5, hR5, -⟩ := id R5
  obtain ⟨f6, w6, a6, x6, hR6, -⟩ := id R6
  obtain ⟨f7, w7, a7, x7, hR7, -⟩ := id R7
  have hsp : SmP s (p_many B 8 (p_above B (p_tell B 7 (p_skip B 2 (p_bh (p_entries B (p_skip B 4 (p_mags B 4 0 s)))))))).2 := ((((Sp_mags B 4 0 s).tr (Sm_skip B 4 _).p).tr (Sp_entries B _)).tr (Sp_heads B _)).tr (Sm_many B 8 _).p
  have ih := RD_scan_loop (nb := nb) (sa := sa) (B := B) hd (p_many_le (B := B) 8 (p_above B (p_tell B 7 (p_skip B 2 (p_bh (p_entries B (p_skip B 4 (p_mags B 4 0 s)))))))) _ 0 h8 _ (Nat.zero_add _) (fun a' x' e => by
    obtain ⟨b, y, e1, g5, g6⟩ := hsp a' x' e
    rw [g5, g6]
    exact hn b y e1) R8
  refine EvQ_of k_RD_scan 3 [some (.ref rd), none, none] rfl (Nat.le_of_ble_eq_true rfl) rfl ?_
  refine Ex_mv rfl rfl ?_; refine Ex_invV rfl (by rfl) (by rfl) (by assumption) (by rfl) (e1) ?_; refine Ex_mv rfl rfl ?_; refine Ex_mv rfl rfl ?_; refine Ex_invV rfl (by rfl) (by rfl) (by assumption) (by rfl) (e2) ?_; refine Ex_mv rfl rfl ?_; refine Ex_invV rfl (by rfl) (by rfl) (by assumption) (by rfl) (e3) ?_; refine Ex_mv rfl rfl ?_; refine Ex_getf rfl (by assumption) rfl ?_; refine Ex_mv rfl rfl ?_; refine Ex_getf rfl (by assumption) rfl ?_; refine Ex_putf rfl (by assumption) rfl rfl ?_; refine Ex_mv rfl rfl ?_; refine Ex_mv rfl rfl ?_; refine Ex_invV rfl (by rfl) (by rfl) (by assumption) (by rfl) (e5) ?_; refine Ex_mv rfl rfl ?_; refine Ex_mv rfl rfl ?_; refine Ex_invV rfl (by rfl) (by rfl) (by assumption) (by rfl) (e6) ?_; refine Ex_mv rfl rfl ?_; refine Ex_invV rfl (by rfl) (by rfl) (by assumption) (by rfl) (e7) ?_; refine Ex_mv rfl rfl ?_; refine Ex_mv rfl rfl ?_; refine Ex_invV rfl (by rfl) (by rfl) (by assumption) (by rfl) (e8) ?_; refine Ex_mv rfl rfl ?_; refine Ex_mv rfl rfl ?_; refine Ex_mv rfl rfl ?_
  refine Ex_mono ih ?_
  rintro v h' ⟨rfl, q1, q2⟩
  exact ⟨rfl, q1, (((((((F1.tr F2).tr F3).tr FR.setc).tr F5).tr F6).tr F7).tr F8).tr q2⟩
end READER5
