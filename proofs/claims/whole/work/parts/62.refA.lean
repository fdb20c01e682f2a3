/-! the other side: parsing, its first parts -/
theorem p_mags_bad (B : List Nat) (e : Nat × Nat) : ∀ d i, p_mags B d i (.inl e) = .inl e
  | 0, _ => rfl
  | d + 1, i => by
    rw [p_mags, show p_mag B i (.inl e) = .inl e from by unfold p_mag; split <;> rfl]
    exact p_mags_bad B e d (i + 1)
theorem RQ.eq {h h' : Hp} {m0 f : Nat} {a : Nat → Value} {B : List Nat} {s : Rt} (hs : RQ h m0 f a B s) (e : h'.2.2 m0 = h.2.2 m0) : RQ h' m0 f a B s := by
  obtain ⟨p, k, fp, h1, h2⟩ := hs
  exact ⟨p, k, fp, e.trans h1, h2⟩
theorem BA.eq {h h' : Hp} {t : Nat} {T : List Nat} (hs : BA h t T) (e : h'.2.2 t = h.2.2 t) : BA h' t T := by
  obtain ⟨w, g, h1, h2⟩ := hs
  exact ⟨w, g, e.trans h1, h2⟩
/-- what stays while a file is parsed -/
def Fz (m0 f : Nat) (h h' : Hp) (c s : Nat) : Prop := h.1 ≤ h'.1 ∧ h'.1 ≤ h.1 + c ∧ h.2.1 ≤ h'.2.1 ∧ h'.2.1 ≤ h.2.1 + s ∧ ∀ q, q < h.1 → q ≠ m0 → (q < f ∨ f + 8 ≤ q) → h'.2.2 q = h.2.2 q
theorem Fz.tr {m0 y : Nat} {h h1 h2 : Hp} {c s c' s' : Nat} (u : Fz m0 y h h1 c s) (v : Fz m0 y h1 h2 c' s') : Fz m0 y h h2 (c + c') (s + s') := by
  obtain ⟨u1, u2, u3, u4, u5⟩ := u
  obtain ⟨v1, v2, v3, v4, v5⟩ := v
  exact ⟨by omega, by omega, by omega, by omega, fun q g1 g2 g3 => (v5 q (by omega) g2 g3).trans (u5 q g1 g2 g3)⟩
theorem Fz.pf {m0 f : Nat} {h h' : Hp} {c s : Nat} (u : Fz m0 f h h' c s) (hd : m0 < f) : PF (muP f) h h' := ⟨u.1, u.2.2.1, fun q hq => by
  have h1 := hq.1
  have h2 : ¬ q < f + 8 := hq.2
  exact u.2.2.2.2 q h1 (by omega) (by omega)⟩
theorem Fz.of {m0 f : Nat} {h h' : Hp} (h1 : h'.1 = h.1) (h2 : h'.2.1 = h.2.1) (h3 : ∀ q, q ≠ m0 → q ≠ f → h'.2.2 q = h.2.2 q) : Fz m0 f h h' 0 0 := ⟨by omega, by omega, by omega, by omega, fun q _ g2 g3 => h3 q g2 (by omega)⟩
section REFA
variable {nb sa : Nat} {m0 f b : Nat} {a : Nat → Value} {B : List Nat}
theorem MO_parse_mag {t : Nat} {gM : Nat → Int32} (hd : m0 < f) (hb : m0 < b) (ht : m0 < t) (hgM : ∀ i, i < 4 → gM i = nI (mgc i)) : ∀ (d k : Nat) (h : Hp) (s : Rt), k + d = 4 → RQ h m0 f a B s → HB h f b B → h.2.2 t = some (true, .inl (1, 4, .inl gM)) → (∀ p x, s = .inr (p, x) → p = k) → ∀ R : Option Value → Hp → Prop, (∀ (h' : Hp) (k' : Nat), RQ h' m0 f a B (p_mags B d k s) → FrI m0 (m0 + 1) h h' → Ex (prog nb sa) k_MO_parse 81 [some (.ref m0), some (.ref t), some (.int (nI k')), none, none, none, none] [] h' R) → Ex (prog nb sa) k_MO_parse 30 [some (.ref m0), some (.ref t), some (.int (nI k)), none, none, none, none] [] h R
  | 0, k, h, s, hk, hs, hB, hg, hps, R, K => by
    refine Ex_mv rfl rfl ?_; refine Ex_mv rfl rfl ?_; refine Ex_mv rfl rfl ?_; refine Ex_ift (nI_le (by omega) (by omega)) ?_
    exact K h k hs FrI.rf
  | d + 1, k, h, s, hk, hs, hB, hg, hps, R, K => by
    obtain ⟨p, j, fp, hc, hp, hj, hm⟩ := id hs
    cases s with
    | inl e =>
      obtain ⟨q1, q2, q3⟩ := hm
      rw [p_mags_bad] at K
      refine Ex_mv rfl rfl ?_; refine Ex_mv rfl rfl ?_; refine Ex_mv rfl rfl ?_; refine Ex_iff (nI_ge (by omega) (by omega)) ?_; refine Ex_mv rfl rfl ?_; refine Ex_getf rfl (by assumption) rfl ?_; refine Ex_mv rfl rfl ?_; refine Ex_ift (nI_nz (by omega) (by omega)) ?_
      exact K h k hs FrI.rf
    | inr e =>
      obtain ⟨p0, x⟩ := e
      obtain ⟨q1, q2, q3⟩ := hm
      have := hps p0 x rfl
      subst this
      subst q1
      subst q3
      obtain ⟨_, h1, e1, rfl, R1, F1⟩ := c_MO_goes (nb := nb) (sa := sa) hs hB hd hb (k := 1) (by decide)
      have hB1 := hB.fr F1 (by omega) (by omega)
      have hg1 : h1.2.2 t = _ := F1.at hg (by omega)
      obtain ⟨⟨r1, hf1⟩, w, gb, e2, e3, e4, e5⟩ := id hB1
      obtain ⟨p1, j1, fp1, hc1, -⟩ := id R1
      have ml := mgc_lt p (by omega)
      have bl := b1_lt e4 p
      have hgm : gM (nI p).toNatClampNeg = nI (mgc p) := by rw [nI_clamp (by omega)]; exact hgM p (by omega)
      have fin : ∀ (h2 : Hp), RQ h2 m0 f a B (p_mag B p (.inr (p, x))) → FrI m0 (m0 + 1) h1 h2 → Ex (prog nb sa) k_MO_parse 75 [some (.ref m0), some (.ref t), some (.int (nI p)), none, none, none, none] [] h2 R := by
        intro h2 R2 F2
        refine Ex_incN rfl rfl ?_; refine Ex_mv rfl rfl ?_
        refine MO_parse_mag hd hb ht hgM d (p + 1) h2 _ (by omega) R2 (hB1.fr F2 (by omega) (by omega)) (F2.at hg1 (by omega)) (fun p' x' e => ?_) R (fun h' k' z1 z2 => K h' k' z1 ((F1.tr F2).tr z2))
        unfold p_mag at e
        split at e
        · obtain ⟨y, z1, z2, -⟩ := k_skip e
          simp only [Sum.inr.injEq, Prod.mk.injEq] at z1
          omega
        · exact (k_fail e).elim
      by_cases h1l : p + 1 ≤ B.length
      · have es : p_skip B 1 (.inr (p, x)) = .inr (p + 1, x) := if_pos h1l
        rw [es] at e1 R1
        have htag : gb (nI p).toNatClampNeg &&& nI 255 = nI (b1 B p) := BA.at (h := h) (t := b) e3 e4 e5 (by omega)
        by_cases hmg : b1 B p = mgc p
        · have ep : p_mag B p (.inr (p, x)) = .inr (p + 1, x) := (if_pos hmg).trans es
          rw [ep] at fin
          refine Ex_mv rfl rfl ?_; refine Ex_mv rfl rfl ?_; refine Ex_mv rfl rfl ?_; refine Ex_iff (nI_ge (by omega) (by omega)) ?_; refine Ex_mv rfl rfl ?_; refine Ex_getf rfl (by assumption) rfl ?_; refine Ex_mv rfl rfl ?_; refine Ex_iff (by decide) ?_; refine Ex_mv rfl rfl ?_; refine Ex_mv rfl rfl ?_; refine Ex_invV rfl (by rfl) (by rfl) (by assumption) (by rfl) (e1) ?_; refine Ex_mv rfl rfl ?_; refine Ex_iff (show ¬ nI 1 = 0 by decide) ?_; refine Ex_mv rfl rfl ?_; refine Ex_getf rfl (by assumption) rfl ?_; refine Ex_getf rfl (by assumption) rfl ?_; refine Ex_mv rfl rfl ?_; refine Ex_iald rfl (by assumption) (vp_in_nI (by omega) (by omega)) ?_; refine Ex_mv rfl rfl ?_; refine Ex_iand rfl ?_
          rw [htag]
          refine Ex_mv rfl rfl ?_; refine Ex_mv rfl rfl ?_; refine Ex_iald rfl (by assumption) (vp_in_nI (by omega) (by omega)) ?_
          rw [hgm]
          refine Ex_mv rfl rfl ?_; refine Ex_ift (by rw [hmg]) ?_
          exact fin h1 R1 FrI.rf
        · have ep : p_mag B p (.inr (p, x)) = p_fail 2 p (.inr (p + 1, x)) := (if_neg hmg).trans (by rw [es])
          rw [ep] at fin
          obtain ⟨_, h2, f2, rfl, R2, F2⟩ := c_MO_fails (nb := nb) (sa := sa) R1 (k := 2) (w := p) (by decide) (by decide)
          refine Ex_mv rfl rfl ?_; refine Ex_mv rfl rfl ?_; refine Ex_mv rfl rfl ?_; refine Ex_iff (nI_ge (by omega) (by omega)) ?_; refine Ex_mv rfl rfl ?_; refine Ex_getf rfl (by assumption) rfl ?_; refine Ex_mv rfl rfl ?_; refine Ex_iff (by decide) ?_; refine Ex_mv rfl rfl ?_; refine Ex_mv rfl rfl ?_; refine Ex_invV rfl (by rfl) (by rfl) (by assumption) (by rfl) (e1) ?_; refine Ex_mv rfl rfl ?_; refine Ex_iff (show ¬ nI 1 = 0 by decide) ?_; refine Ex_mv rfl rfl ?_; refine Ex_getf rfl (by assumption) rfl ?_; refine Ex_getf rfl (by assumption) rfl ?_; refine Ex_mv rfl rfl ?_; refine Ex_iald rfl (by assumption) (vp_in_nI (by omega) (by omega)) ?_; refine Ex_mv rfl rfl ?_; refine Ex_iand rfl ?_
          rw [htag]
          refine Ex_mv rfl rfl ?_; refine Ex_mv rfl rfl ?_; refine Ex_iald rfl (by assumption) (vp_in_nI (by omega) (by omega)) ?_
          rw [hgm]
          refine Ex_mv rfl rfl ?_; refine Ex_iff (fun z => hmg ((nI_eq (by omega) (by omega)).mp z)) ?_; refine Ex_mv rfl rfl ?_; refine Ex_mv rfl rfl ?_; refine Ex_mv rfl rfl ?_; refine Ex_invV rfl (by rfl) (by rfl) (by assumption) (by rfl) (f2) ?_
          exact fin h2 R2 F2
      · have es : p_skip B 1 (.inr (p, x)) = .inl (1, B.length) := if_neg h1l
        have ep : p_mag B p (.inr (p, x)) = .inl (1, B.length) := by unfold p_mag; rw [es]; split <;> rfl
        rw [es] at e1 R1
        rw [ep] at fin
        refine Ex_mv rfl rfl ?_; refine Ex_mv rfl rfl ?_; refine Ex_mv rfl rfl ?_; refine Ex_iff (nI_ge (by omega) (by omega)) ?_; refine Ex_mv rfl rfl ?_; refine Ex_getf rfl (by assumption) rfl ?_; refine Ex_mv rfl rfl ?_; refine Ex_iff (by decide) ?_; refine Ex_mv rfl rfl ?_; refine Ex_mv rfl rfl ?_; refine Ex_invV rfl (by rfl) (by rfl) (by assumption) (by rfl) (e1) ?_; refine Ex_mv rfl rfl ?_; refine Ex_ift (show nI 0 = 0 from rfl) ?_
        exact fin h1 R1 FrI.rf
/-- versions and the count of places -/
theorem MO_parse_cnt {h : Hp} {s : Rt} {t k' : Nat} {pl be fa : Int32} {ow : Value} {gt ga gc : Nat → Int32} {gx g5 g6 : Nat → Option Nat} (hd : m0 < f) (hb : m0 < b) (hbf : b = f + 8) (hs : RQ h m0 f a B s) (hC : HC h f b pl be fa ow gt ga gx g5 g6 gc) (hA : BA h b B) (R : Option Value → Hp → Prop) (K : ∀ (h' : Hp) (x2 : Int32), RQ h' m0 f a B (p_cnt B (p_skip B 4 s)) → HC h' f b (nI (p_two B (p_skip B 4 s))) be fa ow gt ga gx g5 g6 gc → h'.1 = h.1 → h'.2.1 = h.2.1 → (∀ q, q ≠ m0 → q ≠ f → h'.2.2 q = h.2.2 q) → Ex (prog nb sa) k_MO_parse 134 [some (.ref m0), some (.ref t), some (.int x2), some (.int (nI 1)), none, none, none] [] h' R) : Ex (prog nb sa) k_MO_parse 81 [some (.ref m0), some (.ref t), some (.int (nI k')), none, none, none, none] [] h R := by
  obtain ⟨p, j, fp, hc, hp, hj, hm⟩ := id hs
  have hlt : ∀ x ∈ B, x < 256 := hA.choose_spec.choose_spec.2.2.1
  have hB : HB h f b B := ⟨⟨_, hC.1⟩, hA⟩
  obtain ⟨_, h1, e1, rfl, R1, F1⟩ := c_MO_goes (nb := nb) (sa := sa) hs hB hd hb (k := 4) (by decide)
  have hB1 := hB.fr F1 (by omega) (by omega)
  obtain ⟨p1, j1, fp1, hc1, -⟩ := id R1
  generalize p_skip B 4 s = s4 at *
  obtain ⟨_, h2, e2, rfl, R2, F2⟩ := c_MO_nextTwo (nb := nb) (sa := sa) R1 hB1 hd hb
  have F12 := F1.tr F2
  have hv := p_two_lt hlt s4
  have hC2 : HC h2 f b pl be fa ow gt ga gx g5 g6 gc := hC.eq (fun q q1 q2 => F12.2.2 q (by omega))
  obtain ⟨c1, c2, c3, c4, c5, c6, c7, c8⟩ := id hC2
  refine Ex_mv rfl rfl ?_; refine Ex_mv rfl rfl ?_; refine Ex_invV rfl (by rfl) (by rfl) hc (by rfl) e1 ?_
  refine Ex_mv rfl rfl ?_; refine Ex_mv rfl rfl ?_; refine Ex_getf rfl hc1 rfl ?_; refine Ex_mv rfl rfl ?_
  refine Ex_invV rfl (by rfl) (by rfl) hc1 (by rfl) e2 ?_
  refine Ex_putf rfl c1 rfl rfl ?_
  generalize hg : hset h2 f _ = h3
  have s1 : h3.1 = h2.1 := by rw [← hg]; rfl
  have s2 : h3.2.1 = h2.2.1 := by rw [← hg]; rfl
  have s3 : ∀ q, q ≠ f → h3.2.2 q = h2.2.2 q := fun q hq => by rw [← hg]; exact if_neg hq
  have hC3 : HC h3 f b (nI (p_two B s4)) be fa ow gt ga gx g5 g6 gc := by
    obtain ⟨gm, m1, m2⟩ := c5
    exact ⟨by rw [← hg]; exact hs_at, (s3 _ (by omega)).trans c2, (s3 _ (by omega)).trans c3, (s3 _ (by omega)).trans c4, ⟨gm, (s3 _ (by omega)).trans m1, m2⟩, (s3 _ (by omega)).trans c6, (s3 _ (by omega)).trans c7, (s3 _ (by omega)).trans c8⟩
  clear hg
  have hf3 := hC3.1
  have R3 : RQ h3 m0 f a B (p_skip B 2 s4) := R2.eq (s3 m0 (by omega))
  obtain ⟨p3, j3, fp3, hc3, hp3, hj3, hm3⟩ := id R3
  have ee : h3.1 = h.1 ∧ h3.2.1 = h.2.1 ∧ ∀ q, q ≠ m0 → q ≠ f → h3.2.2 q = h.2.2 q := ⟨by rw [s1, F12.1], by rw [s2, F12.2.1], fun q g1 g2 => by rw [s3 q g2, F12.2.2 q (by omega)]⟩
  have fin : ∀ (x2 : Int32), RQ h3 m0 f a B (p_cnt B s4) → Ex (prog nb sa) k_MO_parse 134 [some (.ref m0), some (.ref t), some (.int x2), some (.int (nI 1)), none, none, none] [] h3 R := fun x2 z => K h3 x2 z hC3 ee.1 ee.2.1 ee.2.2
  have bad : ∀ (x2 : Int32) (e : Nat × Nat), p_skip B 2 s4 = .inl e → p_cnt B s4 = .inl e → Ex (prog nb sa) k_MO_parse 98 [some (.ref m0), some (.ref t), some (.int x2), none, none, none, none] [] h3 R := by
    intro x2 e z1 z2
    have f := fin x2 (by rw [z2, ← z1]; exact R3)
    rw [z1] at hm3
    obtain ⟨q1, q2, q3⟩ := hm3
    refine Ex_mv rfl rfl ?_; refine Ex_getf rfl (by assumption) rfl ?_; refine Ex_mv rfl rfl ?_; refine Ex_ift (nI_nz (by omega) (by omega)) ?_; refine Ex_mv rfl rfl ?_; refine Ex_mv rfl rfl ?_
    exact f
  cases s4 with
  | inl e => exact bad _ e rfl rfl
  | inr e =>
    obtain ⟨a1, x⟩ := e
    by_cases h2l : a1 + 2 ≤ B.length
    · have es : p_skip B 2 (.inr (a1, x)) = .inr (a1 + 2, x) := if_pos h2l
      have es2 : p_two B (.inr (a1, x)) = b2 B a1 := if_pos h2l
      rw [es] at hm3 R3
      rw [es2] at hf3 hC3 hv
      obtain ⟨q1, q2, q3⟩ := hm3
      subst q1
      subst q3
      have hin := c_MO_isIn (nb := nb) (sa := sa) (h := h3) (v := b2 B a1) (lo := 1) (hi := 61) (by omega) (by decide) (by decide)
      by_cases hi : 1 ≤ b2 B a1 ∧ b2 B a1 ≤ 61
      · rw [if_pos hi] at hin
        have ec : p_cnt B (.inr (a1, x)) = .inr (a1 + 2, x) := (if_pos h2l).trans (if_pos hi)
        rw [ec] at fin
        refine Ex_mv rfl rfl ?_; refine Ex_getf rfl (by assumption) rfl ?_; refine Ex_mv rfl rfl ?_; refine Ex_iff (by decide) ?_; refine Ex_mv rfl rfl ?_; refine Ex_getf rfl (by assumption) rfl ?_; refine Ex_getf rfl (by assumption) rfl ?_; refine Ex_mv rfl rfl ?_; refine Ex_mv rfl rfl ?_; refine Ex_inv rfl (by rfl) (by rfl) (by rfl) (hin) ?_; refine Ex_mv rfl rfl ?_; refine Ex_ift (show ¬ nI 1 = 0 by decide) ?_; refine Ex_mv rfl rfl ?_; refine Ex_mv rfl rfl ?_
        exact fin _ R3
      · rw [if_neg hi] at hin
        have ec : p_cnt B (.inr (a1, x)) = .inl (3, a1) := (if_pos h2l).trans (if_neg hi)
        obtain ⟨_, h4, f4, rfl, R4, F4⟩ := c_MO_fails (nb := nb) (sa := sa) R3 (k := 3) (w := a1 + 2 - 2) (by decide) (by decide)
        rw [Nat.add_sub_cancel] at R4
        have K4 : ∀ x2, Ex (prog nb sa) k_MO_parse 134 [some (.ref m0), some (.ref t), some (.int x2), some (.int (nI 1)), none, none, none] [] h4 R := fun x2 => K h4 x2 (by rw [ec]; exact R4) (by rw [es2]; exact hC3.eq (fun q q1 q2 => F4.2.2 q (by omega))) (by rw [F4.1]; exact ee.1) (by rw [F4.2.1]; exact ee.2.1) (fun q g1 g2 => by rw [F4.2.2 q (by omega)]; exact ee.2.2 q g1 g2)
        refine Ex_mv rfl rfl ?_; refine Ex_getf rfl (by assumption) rfl ?_; refine Ex_mv rfl rfl ?_; refine Ex_iff (by decide) ?_; refine Ex_mv rfl rfl ?_; refine Ex_getf rfl (by assumption) rfl ?_; refine Ex_getf rfl (by assumption) rfl ?_; refine Ex_mv rfl rfl ?_; refine Ex_mv rfl rfl ?_; refine Ex_inv rfl (by rfl) (by rfl) (by rfl) (hin) ?_; refine Ex_mv rfl rfl ?_; refine Ex_iff (not_not_intro (show nI 0 = 0 from rfl)) ?_; refine Ex_mv rfl rfl ?_; refine Ex_mv rfl rfl ?_; refine Ex_mv rfl rfl ?_; refine Ex_getf rfl (by assumption) rfl ?_; refine Ex_mv rfl rfl ?_; (first | refine Ex_subN rfl (by omega) ?_ | refine Ex_mv rfl rfl ?_); refine Ex_invV rfl (by rfl) (by rfl) (by assumption) (by rfl) (f4) ?_; refine Ex_mv rfl rfl ?_; refine Ex_mv rfl rfl ?_
        exact K4 _
    · exact bad _ (1, B.length) (if_neg h2l) (if_neg h2l)
/-- the entries -/
theorem MO_parse_ents {n : Nat} {t : Nat} {x2 be fa : Int32} {ow : Value} {gc : Nat → Int32} {g5 g6 : Nat → Option Nat} (hd : m0 < f) (hbf : b = f + 8) (hn : n ≤ 61) : ∀ (d i p : Nat) (x : Fs) (h : Hp) (gt ga : Nat → Int32) (gx : Nat → Option Nat), RQ h m0 f a B (.inr (p, x)) → HC h f b (nI n) be fa ow gt ga gx g5 g6 gc → BA h b B → EnR h f B x.1 gt ga gx → f + 9 ≤ h.1 → 10 ≤ p → n ≤ i + d → i ≤ 62 → ∀ R : Option Value → Hp → Prop, (∀ (h' : Hp) (i' : Nat) (gt' ga' : Nat → Int32) (gx' : Nat → Option Nat), RQ h' m0 f a B (p_ents B n d i (.inr (p, x))) → HC h' f b (nI n) be fa ow gt' ga' gx' g5 g6 gc → (∀ p' x', p_ents B n d i (.inr (p, x)) = .inr (p', x') → EnR h' f B x'.1 gt' ga' gx') → Fz m0 f h h' (n - i) (B.length - p) → Ex (prog nb sa) k_MO_parse 163 [some (.ref m0), some (.ref t), some (.int x2), some (.int (nI i')), none, none, none] [] h' R) → Ex (prog nb sa) k_MO_parse 134 [some (.ref m0), some (.ref t), some (.int x2), some (.int (nI i)), none, none, none] [] h R := by
  intro d
  induction d with
  | zero =>
    intro i p x h gt ga gx hs hC hA hE hsz hp10 hid hi R K
    obtain ⟨p, j, fp, hc, hp, hj, hm⟩ := id hs
    have hf := hC.1
    have f0 := K h i gt ga gx hs hC (fun p' x' e => by simp only [p_ents, Sum.inr.injEq, Prod.mk.injEq] at e; rw [← e.2]; exact hE) ⟨Nat.le_refl _, by omega, Nat.le_refl _, by omega, fun _ _ _ _ => rfl⟩
    refine Ex_mv rfl rfl ?_; refine Ex_mv rfl rfl ?_; refine Ex_getf rfl (by assumption) rfl ?_; refine Ex_getf rfl (by assumption) rfl ?_; refine Ex_mv rfl rfl ?_; refine Ex_ift (nI_le (by omega) (by omega)) ?_
    exact f0
  | succ d ih =>
    intro i p x h gt ga gx hs hC hA hE hsz hp10 hid hi R K
    obtain ⟨p0, j, fp, hc, hp, hj, hm⟩ := id hs
    obtain ⟨q1, q2, q3⟩ := hm
    subst q1
    subst q3
    have hf := hC.1
    by_cases hin : i < n
    · obtain ⟨_, h1, e1, w, gt', ga', gx', rfl, R1, F1, C1, P1⟩ := c_MO_entry (nb := nb) (sa := sa) hs hC hA hE hd hbf hsz hin hn hp10
      have ep : p_ents B n (d + 1) i (.inr (p0, x)) = p_ents B n d (i + wst (b1 B p0)) (p_entry B (decide (i + 1 = n)) p0 (setS x i p0)) := if_pos hin
      have hwb := wst_b (b1 B p0)
      obtain ⟨v1, v2, v3, v4⟩ := F1
      rw [ep] at K
      generalize hr : p_entry B (decide (i + 1 = n)) p0 (setS x i p0) = r at *
      cases r with
      | inl e =>
        obtain ⟨z1, z2, z3⟩ := P1
        rw [p_ents_bad] at K
        obtain ⟨p1, j1, fp1, hc1, hp1, hj1, hm1⟩ := id R1
        obtain ⟨y1, y2, y3⟩ := hm1
        have hf1 := C1.1
        have f0 := K h1 (i + w) gt' ga' gx' R1 C1 (fun p' x' e => by cases e) ⟨v1, by omega, by omega, by omega, fun q g1 g2 g3 => v4 q g1 g2 (by omega)⟩
        have last : Ex (prog nb sa) k_MO_parse 134 [some (.ref m0), some (.ref t), some (.int x2), some (.int (nI (i + w))), none, none, none] [] h1 R := by
          by_cases hx : n ≤ i + w
          · refine Ex_mv rfl rfl ?_; refine Ex_mv rfl rfl ?_; refine Ex_getf rfl (by assumption) rfl ?_; refine Ex_getf rfl (by assumption) rfl ?_; refine Ex_mv rfl rfl ?_; refine Ex_ift (nI_le (by omega) (by omega)) ?_
            exact f0
          · refine Ex_mv rfl rfl ?_; refine Ex_mv rfl rfl ?_; refine Ex_getf rfl (by assumption) rfl ?_; refine Ex_getf rfl (by assumption) rfl ?_; refine Ex_mv rfl rfl ?_; refine Ex_iff (nI_ge (by omega) (by omega)) ?_; refine Ex_mv rfl rfl ?_; refine Ex_getf rfl (by assumption) rfl ?_; refine Ex_mv rfl rfl ?_; refine Ex_ift (nI_nz (by omega) (by omega)) ?_
            exact f0
        refine Ex_mv rfl rfl ?_; refine Ex_mv rfl rfl ?_; refine Ex_getf rfl (by assumption) rfl ?_; refine Ex_getf rfl (by assumption) rfl ?_; refine Ex_mv rfl rfl ?_; refine Ex_iff (nI_ge (by omega) (by omega)) ?_; refine Ex_mv rfl rfl ?_; refine Ex_getf rfl (by assumption) rfl ?_; refine Ex_mv rfl rfl ?_; refine Ex_iff (by decide) ?_; refine Ex_mv rfl rfl ?_; refine Ex_mv rfl rfl ?_; refine Ex_mv rfl rfl ?_; refine Ex_invV rfl (by rfl) (by rfl) (by assumption) (by rfl) (e1) ?_; (first | refine Ex_addN rfl ?_ | refine Ex_mv rfl rfl ?_); refine Ex_mv rfl rfl ?_; refine Ex_mv rfl rfl ?_
        exact last
      | inr e =>
        obtain ⟨p', x'⟩ := e
        obtain ⟨E1, z1, z2, z3⟩ := P1
        subst z1
        obtain ⟨p1, j1, fp1, hc1, hp1, hj1, hm1⟩ := id R1
        have y3 : p1 = p' := hm1.2.2
        have hle : p' ≤ B.length := by omega
        have last := ih (i + wst (b1 B p0)) p' x' h1 gt' ga' gx' R1 C1 (hA.eq (v4 b (by omega) (by omega) (by omega))) E1 (by omega) (by omega) (by omega) (by omega) R (fun h' i' gt2 ga2 gx2 u1 u2 u3 u4 => K h' i' gt2 ga2 gx2 u1 u2 u3 (by
          obtain ⟨k1, k2, k3, k4, k5⟩ := u4
          exact ⟨by omega, by omega, by omega, by omega, fun q g1 g2 g3 => (k5 q (by omega) g2 g3).trans (v4 q g1 g2 (by omega))⟩))
        refine Ex_mv rfl rfl ?_; refine Ex_mv rfl rfl ?_; refine Ex_getf rfl (by assumption) rfl ?_; refine Ex_getf rfl (by assumption) rfl ?_; refine Ex_mv rfl rfl ?_; refine Ex_iff (nI_ge (by omega) (by omega)) ?_; refine Ex_mv rfl rfl ?_; refine Ex_getf rfl (by assumption) rfl ?_; refine Ex_mv rfl rfl ?_; refine Ex_iff (by decide) ?_; refine Ex_mv rfl rfl ?_; refine Ex_mv rfl rfl ?_; refine Ex_mv rfl rfl ?_; refine Ex_invV rfl (by rfl) (by rfl) (by assumption) (by rfl) (e1) ?_; (first | refine Ex_addN rfl ?_ | refine Ex_mv rfl rfl ?_); refine Ex_mv rfl rfl ?_; refine Ex_mv rfl rfl ?_
        exact last
    · have ep : p_ents B n (d + 1) i (.inr (p0, x)) = .inr (p0, x) := if_neg hin
      rw [ep] at K
      have f0 := K h i gt ga gx hs hC (fun p' x' e => by simp only [Sum.inr.injEq, Prod.mk.injEq] at e; rw [← e.2]; exact hE) ⟨Nat.le_refl _, by omega, Nat.le_refl _, by omega, fun _ _ _ _ => rfl⟩
      refine Ex_mv rfl rfl ?_; refine Ex_mv rfl rfl ?_; refine Ex_getf rfl (by assumption) rfl ?_; refine Ex_getf rfl (by assumption) rfl ?_; refine Ex_mv rfl rfl ?_; refine Ex_ift (nI_le (by omega) (by omega)) ?_
      exact f0
end REFA
