/-! the other side: all places -/
section REFE
variable {nb sa : Nat} {m0 f : Nat} {a : Nat → Value} {B : List Nat} {x : Fs} {mu : Nat → Prop}
theorem HF.kd {h : Hp} {kk : Nat} (hF : HF mu h f (B, x)) (hk : kk < 2) : ∃ b t1 t2 t3 t7 t8 ow ak gm gc, h.2.2 f = some (true, .inr (8, [.ref b, .int (nI x.2.1), .ref t1, .ref t2, .ref t3, .int (nI x.2.2.1), .int (nI (b2 B (x.2.2.1 + 6))), .ref t7, .ref t8, .ref ow])) ∧ h.2.2 t7 = some (true, .inl (9, 2, .inr (.inr (.inr (.inr gm))))) ∧ gm kk = some ak ∧ MLk mu h ak B (mK x.2.2.2.2.1 x.2.2.2.2.2.1 kk) ∧ h.2.2 t8 = some (true, .inl (1, 2, .inl gc)) ∧ gc kk = nI (mK x.2.2.2.2.1 x.2.2.2.2.2.1 kk).length := by
  simp only [HF] at hF
  obtain ⟨b, t1, t2, t3, t7, a5, a6, t8, ow, gt, ga, gc, gx, gm, c1, c2, c3, d, e, g, ⟨i1, i2, i3, i4, i5, i6⟩, ⟨j1, j2, j3, j4⟩, k1⟩ := hF
  have : kk = 0 ∨ kk = 1 := by omega
  rcases this with rfl | rfl
  · exact ⟨b, t1, t2, t3, t7, t8, ow, a5, gm, gc, c1, i1, i3, i5, j1, j3⟩
  · exact ⟨b, t1, t2, t3, t7, t8, ow, a6, gm, gc, c1, i1, i4, i6, j1, j4⟩
theorem HF.ow {h : Hp} (hF : HF mu h f (B, x)) : ∃ b t1 t2 t3 t7 t8 ow, h.2.2 f = some (true, .inr (8, [.ref b, .int (nI x.2.1), .ref t1, .ref t2, .ref t3, .int (nI x.2.2.1), .int (nI (b2 B (x.2.2.1 + 6))), .ref t7, .ref t8, .ref ow])) ∧ ATk mu h ow B x.2.2.2.1 := by
  simp only [HF] at hF
  obtain ⟨b, t1, t2, t3, t7, a5, a6, t8, ow, gt, ga, gc, gx, gm, c1, c2, c3, d, e, g, i, j, k1⟩ := hF
  exact ⟨b, t1, t2, t3, t7, t8, ow, c1, k1⟩
theorem MO_places_ents {s0 : Rt} (hm : mu m0) (hG : GF B x) : ∀ (d i : Nat) (x2 x3 : Option Value) (h : Hp), i + d = x.2.1 → 1 ≤ i → RQ h m0 f a B (pks B x.1 x.2.1 (zT B x.1 (i - 1)) s0) → HF mu h f (B, x) → ∀ R : Option Value → Hp → Prop, (∀ (h' : Hp) (i' : Nat) (x2 x3 : Option Value), RQ h' m0 f a B (pks B x.1 x.2.1 (zT B x.1 (x.2.1 - 1)) s0) → FrI m0 (m0 + 1) h h' → Ex (prog nb sa) k_MO_places 109 [some (.ref m0), some (.int (nI i')), x2, x3, none] [] h' R) → Ex (prog nb sa) k_MO_places 2 [some (.ref m0), some (.int (nI i)), x2, x3, none] [] h R
  | 0, i, x2, x3, h, hd, hi, hs, hF, R, K => by
    obtain ⟨p0, j0, fp0, hc, -⟩ := id hs
    obtain ⟨b, t1, t2, t3, t7, t8, ow, c1, -⟩ := hF.ow
    have hn := hG.2.2.1
    have hi' : i = x.2.1 := by omega
    subst hi'
    have f0 := K h x.2.1 x2 x3 hs FrI.rf
    refine Ex_mv rfl rfl ?_; refine Ex_mv rfl rfl ?_; refine Ex_getf rfl (by assumption) rfl ?_; refine Ex_getf rfl (by assumption) rfl ?_; refine Ex_mv rfl rfl ?_; refine Ex_ift (nI_le (by omega) (by omega)) ?_
    exact f0
  | d + 1, i, x2, x3, h, hd, hi, hs, hF, R, K => by
    have hn := hG.2.2.1
    have hle := hF.lt.2
    have hlt := hF.lt.1
    have htl := tg_lt (S := x.1) (n := x.2.1) hlt i
    obtain ⟨p0, j0, fp0, hc, -⟩ := id hs
    have hF' := hF
    simp only [HF] at hF'
    obtain ⟨b, t1, t2, t3, t7, a5, a6, t8, ow, gt, ga, gc, gx, gm, c1, c2, c3, ⟨d1, d2, d3⟩, ⟨e1, e2, e3⟩, -⟩ := hF'
    have est : st x.1 x.2.1 i = x.1 i := if_pos (by omega)
    have eg : gt (nI i).toNatClampNeg = nI (tg B x.1 x.2.1 i) := by rw [nI_clamp (by omega)]; exact d3 i (by omega)
    have ea : ga (nI i).toNatClampNeg = nI (x.1 i) := by rw [nI_clamp (by omega), e3 i (by omega), est]
    have etg : tg B x.1 x.2.1 i = if x.1 i = 0 then 0 else b1 B (x.1 i) := by unfold tg; rw [est]
    have ez : zT B x.1 i = zT B x.1 (i - 1) ++ (if x.1 i = 0 then [] else eTl B (x.1 i)) := by
      obtain ⟨k, rfl⟩ : ∃ k, i = k + 1 := ⟨i - 1, by omega⟩
      rfl
    have fin : ∀ (h' : Hp) (x2 x3 : Option Value), RQ h' m0 f a B (pks B x.1 x.2.1 (if x.1 i = 0 then [] else eTl B (x.1 i)) (pks B x.1 x.2.1 (zT B x.1 (i - 1)) s0)) → FrI m0 (m0 + 1) h h' → Ex (prog nb sa) k_MO_places 103 [some (.ref m0), some (.int (nI i)), x2, x3, none] [] h' R := by
      intro h' x2 x3 R' F'
      rw [← pks_app, ← ez] at R'
      refine Ex_incN rfl rfl ?_; refine Ex_mv rfl rfl ?_
      exact MO_places_ents hm hG d (i + 1) x2 x3 h' (by omega) (by omega) R' (hF.pf (F'.pfm hm)) R (fun h2 i' x2 x3 z1 z2 => K h2 i' x2 x3 z1 (F'.tr z2))
    generalize pks B x.1 x.2.1 (zT B x.1 (i - 1)) s0 = s at *
    by_cases hs0 : x.1 i = 0
    · rw [if_pos hs0] at fin etg
      have f0 := fun x2 x3 => fin h x2 x3 hs FrI.rf
      have hin := c_MO_isIn (nb := nb) (sa := sa) (h := h) (v := 0) (lo := 9) (hi := 12) (by decide) (by decide) (by decide)
      rw [etg] at eg
      refine Ex_mv rfl rfl ?_; refine Ex_mv rfl rfl ?_; refine Ex_getf rfl (by assumption) rfl ?_; refine Ex_getf rfl (by assumption) rfl ?_; refine Ex_mv rfl rfl ?_; refine Ex_iff (nI_ge (by omega) (by omega)) ?_; refine Ex_mv rfl rfl ?_; refine Ex_getf rfl (by assumption) rfl ?_; refine Ex_getf rfl (by assumption) rfl ?_; refine Ex_mv rfl rfl ?_; refine Ex_iald rfl (by assumption) (vp_in_nI (by omega) (by decide)) ?_
      rw [ea]
      refine Ex_mv rfl rfl ?_; (first | refine Ex_addN rfl ?_ | refine Ex_mv rfl rfl ?_); refine Ex_mv rfl rfl ?_; refine Ex_mv rfl rfl ?_; refine Ex_getf rfl (by assumption) rfl ?_; refine Ex_getf rfl (by assumption) rfl ?_; refine Ex_mv rfl rfl ?_; refine Ex_iald rfl (by assumption) (vp_in_nI (by omega) (by decide)) ?_
      rw [eg]
      refine Ex_mv rfl rfl ?_; refine Ex_mv rfl rfl ?_; refine Ex_mv rfl rfl ?_; refine Ex_mv rfl rfl ?_; refine Ex_iff (show ¬ nI 0 = nI 7 by decide) ?_; refine Ex_mv rfl rfl ?_; refine Ex_mv rfl rfl ?_; refine Ex_mv rfl rfl ?_; refine Ex_ift (show ¬ nI 0 = nI 8 by decide) ?_; refine Ex_mv rfl rfl ?_; refine Ex_mv rfl rfl ?_; refine Ex_mv rfl rfl ?_; refine Ex_inv rfl (by rfl) (by rfl) (by rfl) (hin) ?_; refine Ex_mv rfl rfl ?_; refine Ex_ift (show nI 0 = 0 from rfl) ?_
      exact f0 _ _
    · rw [if_neg hs0] at fin etg
      obtain ⟨⟨-, -, -, -, hEn, -⟩, -, -, hbh, -⟩ := id hG
      obtain ⟨y1, y2, y3⟩ := hEn i hs0
      rw [← etg] at y2
      by_cases k7 : b1 B (x.1 i) = 7 ∨ b1 B (x.1 i) = 8
      · have es : eSz B (x.1 i) = 3 := by unfold eSz; rw [if_neg (by omega), if_neg (by omega), if_pos k7]
        have el : eTl B (x.1 i) = [(x.1 i + 1, 1)] := if_pos k7
        rw [el] at fin
        obtain ⟨_, h1, f1, rfl, R1, F1⟩ := c_MO_place (nb := nb) (sa := sa) hs hF hn (p := x.1 i + 1) (t := 1) (by omega) (by decide)
        rw [etg] at eg
        rcases k7 with k7 | k7
        · refine Ex_mv rfl rfl ?_; refine Ex_mv rfl rfl ?_; refine Ex_getf rfl (by assumption) rfl ?_; refine Ex_getf rfl (by assumption) rfl ?_; refine Ex_mv rfl rfl ?_; refine Ex_iff (nI_ge (by omega) (by omega)) ?_; refine Ex_mv rfl rfl ?_; refine Ex_getf rfl (by assumption) rfl ?_; refine Ex_getf rfl (by assumption) rfl ?_; refine Ex_mv rfl rfl ?_; refine Ex_iald rfl (by assumption) (vp_in_nI (by omega) (by decide)) ?_
          rw [ea]
          refine Ex_mv rfl rfl ?_; (first | refine Ex_addN rfl ?_ | refine Ex_mv rfl rfl ?_); refine Ex_mv rfl rfl ?_; refine Ex_mv rfl rfl ?_; refine Ex_getf rfl (by assumption) rfl ?_; refine Ex_getf rfl (by assumption) rfl ?_; refine Ex_mv rfl rfl ?_; refine Ex_iald rfl (by assumption) (vp_in_nI (by omega) (by decide)) ?_
          rw [eg]
          refine Ex_mv rfl rfl ?_; refine Ex_mv rfl rfl ?_; refine Ex_mv rfl rfl ?_; refine Ex_mv rfl rfl ?_; refine Ex_ift (by rw [k7]) ?_; refine Ex_mv rfl rfl ?_; refine Ex_mv rfl rfl ?_; refine Ex_mv rfl rfl ?_; refine Ex_invV rfl (by rfl) (by rfl) (by assumption) (by rfl) (f1) ?_; refine Ex_mv rfl rfl ?_
          exact fin h1 _ _ R1 F1
        · refine Ex_mv rfl rfl ?_; refine Ex_mv rfl rfl ?_; refine Ex_getf rfl (by assumption) rfl ?_; refine Ex_getf rfl (by assumption) rfl ?_; refine Ex_mv rfl rfl ?_; refine Ex_iff (nI_ge (by omega) (by omega)) ?_; refine Ex_mv rfl rfl ?_; refine Ex_getf rfl (by assumption) rfl ?_; refine Ex_getf rfl (by assumption) rfl ?_; refine Ex_mv rfl rfl ?_; refine Ex_iald rfl (by assumption) (vp_in_nI (by omega) (by decide)) ?_
          rw [ea]
          refine Ex_mv rfl rfl ?_; (first | refine Ex_addN rfl ?_ | refine Ex_mv rfl rfl ?_); refine Ex_mv rfl rfl ?_; refine Ex_mv rfl rfl ?_; refine Ex_getf rfl (by assumption) rfl ?_; refine Ex_getf rfl (by assumption) rfl ?_; refine Ex_mv rfl rfl ?_; refine Ex_iald rfl (by assumption) (vp_in_nI (by omega) (by decide)) ?_
          rw [eg, k7]
          refine Ex_mv rfl rfl ?_; refine Ex_mv rfl rfl ?_; refine Ex_mv rfl rfl ?_; refine Ex_mv rfl rfl ?_; refine Ex_iff (show ¬ nI 8 = nI 7 by decide) ?_; refine Ex_mv rfl rfl ?_; refine Ex_mv rfl rfl ?_; refine Ex_mv rfl rfl ?_; refine Ex_iff (not_not_intro rfl) ?_; refine Ex_mv rfl rfl ?_; refine Ex_mv rfl rfl ?_; refine Ex_mv rfl rfl ?_; refine Ex_invV rfl (by rfl) (by rfl) (by assumption) (by rfl) (f1) ?_; refine Ex_mv rfl rfl ?_
          exact fin h1 _ _ R1 F1
      · have n7 : ¬ nI (b1 B (x.1 i)) = nI 7 := fun z => k7 (Or.inl ((nI_eq (by omega) (by decide)).mp z))
        have n8 : ¬ nI (b1 B (x.1 i)) = nI 8 := fun z => k7 (Or.inr ((nI_eq (by omega) (by decide)).mp z))
        have hin := c_MO_isIn (nb := nb) (sa := sa) (h := h) (v := b1 B (x.1 i)) (lo := 9) (hi := 12) (by omega) (by decide) (by decide)
        rw [etg] at eg
        by_cases k9 : 9 ≤ b1 B (x.1 i) ∧ b1 B (x.1 i) ≤ 12
        · rw [if_pos k9] at hin
          have es : eSz B (x.1 i) = 5 := by unfold eSz; rw [if_neg (by omega), if_neg (by omega), if_neg k7]
          by_cases k12 : b1 B (x.1 i) = 12
          · have el : eTl B (x.1 i) = [(x.1 i + 1, 1), (x.1 i + 3, 1)] := (if_neg k7).trans (if_pos k12)
            rw [el] at fin
            obtain ⟨_, h1, f1, rfl, R1, F1⟩ := c_MO_place (nb := nb) (sa := sa) hs hF hn (p := x.1 i + 1) (t := 1) (by omega) (by decide)
            obtain ⟨_, h2, f2, rfl, R2, F2⟩ := c_MO_place (nb := nb) (sa := sa) R1 (hF.pf (F1.pfm hm)) hn (p := x.1 i + 3) (t := 1) (by omega) (by decide)
            obtain ⟨p1, j1, fp1, hc1, -⟩ := id R1
            refine Ex_mv rfl rfl ?_; refine Ex_mv rfl rfl ?_; refine Ex_getf rfl (by assumption) rfl ?_; refine Ex_getf rfl (by assumption) rfl ?_; refine Ex_mv rfl rfl ?_; refine Ex_iff (nI_ge (by omega) (by omega)) ?_; refine Ex_mv rfl rfl ?_; refine Ex_getf rfl (by assumption) rfl ?_; refine Ex_getf rfl (by assumption) rfl ?_; refine Ex_mv rfl rfl ?_; refine Ex_iald rfl (by assumption) (vp_in_nI (by omega) (by decide)) ?_
            rw [ea]
            refine Ex_mv rfl rfl ?_; (first | refine Ex_addN rfl ?_ | refine Ex_mv rfl rfl ?_); refine Ex_mv rfl rfl ?_; refine Ex_mv rfl rfl ?_; refine Ex_getf rfl (by assumption) rfl ?_; refine Ex_getf rfl (by assumption) rfl ?_; refine Ex_mv rfl rfl ?_; refine Ex_iald rfl (by assumption) (vp_in_nI (by omega) (by decide)) ?_
            rw [eg]
            refine Ex_mv rfl rfl ?_; refine Ex_mv rfl rfl ?_; refine Ex_mv rfl rfl ?_; refine Ex_mv rfl rfl ?_; refine Ex_iff n7 ?_; refine Ex_mv rfl rfl ?_; refine Ex_mv rfl rfl ?_; refine Ex_mv rfl rfl ?_; refine Ex_ift n8 ?_; refine Ex_mv rfl rfl ?_; refine Ex_mv rfl rfl ?_; refine Ex_mv rfl rfl ?_; refine Ex_inv rfl (by rfl) (by rfl) (by rfl) (hin) ?_; refine Ex_mv rfl rfl ?_; refine Ex_iff (show ¬ nI 1 = 0 by decide) ?_; refine Ex_mv rfl rfl ?_; refine Ex_mv rfl rfl ?_; refine Ex_mv rfl rfl ?_; refine Ex_mv rfl rfl ?_; refine Ex_mv rfl rfl ?_; refine Ex_iff (by rw [k12]; exact not_not_intro rfl) ?_; refine Ex_mv rfl rfl ?_; refine Ex_mv rfl rfl ?_; refine Ex_invV rfl (by rfl) (by rfl) (by assumption) (by rfl) (f1) ?_; refine Ex_mv rfl rfl ?_; refine Ex_mv rfl rfl ?_; refine Ex_mv rfl rfl ?_; (first | refine Ex_addN rfl ?_ | refine Ex_mv rfl rfl ?_)
            rw [show x.1 i + 1 + 2 = x.1 i + 3 from rfl]
            refine Ex_mv rfl rfl ?_; refine Ex_mv rfl rfl ?_; refine Ex_mv rfl rfl ?_; refine Ex_iff (by rw [k12]; exact not_not_intro rfl) ?_; refine Ex_mv rfl rfl ?_; refine Ex_mv rfl rfl ?_; refine Ex_invV rfl (by rfl) (by rfl) (by assumption) (by rfl) (f2) ?_
            exact fin h2 _ _ R2 (F1.tr F2)
          · have el : eTl B (x.1 i) = [(x.1 i + 1, 7), (x.1 i + 3, 12)] := (if_neg k7).trans ((if_neg k12).trans (if_pos (by omega)))
            rw [el] at fin
            have n12 : ¬ nI (b1 B (x.1 i)) = nI 12 := fun z => k12 ((nI_eq (by omega) (by decide)).mp z)
            obtain ⟨_, h1, f1, rfl, R1, F1⟩ := c_MO_place (nb := nb) (sa := sa) hs hF hn (p := x.1 i + 1) (t := 7) (by omega) (by decide)
            obtain ⟨_, h2, f2, rfl, R2, F2⟩ := c_MO_place (nb := nb) (sa := sa) R1 (hF.pf (F1.pfm hm)) hn (p := x.1 i + 3) (t := 12) (by omega) (by decide)
            obtain ⟨p1, j1, fp1, hc1, -⟩ := id R1
            refine Ex_mv rfl rfl ?_; refine Ex_mv rfl rfl ?_; refine Ex_getf rfl (by assumption) rfl ?_; refine Ex_getf rfl (by assumption) rfl ?_; refine Ex_mv rfl rfl ?_; refine Ex_iff (nI_ge (by omega) (by omega)) ?_; refine Ex_mv rfl rfl ?_; refine Ex_getf rfl (by assumption) rfl ?_; refine Ex_getf rfl (by assumption) rfl ?_; refine Ex_mv rfl rfl ?_; refine Ex_iald rfl (by assumption) (vp_in_nI (by omega) (by decide)) ?_
            rw [ea]
            refine Ex_mv rfl rfl ?_; (first | refine Ex_addN rfl ?_ | refine Ex_mv rfl rfl ?_); refine Ex_mv rfl rfl ?_; refine Ex_mv rfl rfl ?_; refine Ex_getf rfl (by assumption) rfl ?_; refine Ex_getf rfl (by assumption) rfl ?_; refine Ex_mv rfl rfl ?_; refine Ex_iald rfl (by assumption) (vp_in_nI (by omega) (by decide)) ?_
            rw [eg]
            refine Ex_mv rfl rfl ?_; refine Ex_mv rfl rfl ?_; refine Ex_mv rfl rfl ?_; refine Ex_mv rfl rfl ?_; refine Ex_iff n7 ?_; refine Ex_mv rfl rfl ?_; refine Ex_mv rfl rfl ?_; refine Ex_mv rfl rfl ?_; refine Ex_ift n8 ?_; refine Ex_mv rfl rfl ?_; refine Ex_mv rfl rfl ?_; refine Ex_mv rfl rfl ?_; refine Ex_inv rfl (by rfl) (by rfl) (by rfl) (hin) ?_; refine Ex_mv rfl rfl ?_; refine Ex_iff (show ¬ nI 1 = 0 by decide) ?_; refine Ex_mv rfl rfl ?_; refine Ex_mv rfl rfl ?_; refine Ex_mv rfl rfl ?_; refine Ex_mv rfl rfl ?_; refine Ex_mv rfl rfl ?_; refine Ex_ift n12 ?_; refine Ex_mv rfl rfl ?_; refine Ex_invV rfl (by rfl) (by rfl) (by assumption) (by rfl) (f1) ?_; refine Ex_mv rfl rfl ?_; refine Ex_mv rfl rfl ?_; refine Ex_mv rfl rfl ?_; (first | refine Ex_addN rfl ?_ | refine Ex_mv rfl rfl ?_)
            rw [show x.1 i + 1 + 2 = x.1 i + 3 from rfl]
            refine Ex_mv rfl rfl ?_; refine Ex_mv rfl rfl ?_; refine Ex_mv rfl rfl ?_; refine Ex_ift n12 ?_; refine Ex_mv rfl rfl ?_; refine Ex_invV rfl (by rfl) (by rfl) (by assumption) (by rfl) (f2) ?_
            exact fin h2 _ _ R2 (F1.tr F2)
        · rw [if_neg k9] at hin
          have el : eTl B (x.1 i) = [] := (if_neg k7).trans ((if_neg (by omega)).trans (if_neg (by omega)))
          rw [el] at fin
          have f0 := fun x2 x3 => fin h x2 x3 hs FrI.rf
          refine Ex_mv rfl rfl ?_; refine Ex_mv rfl rfl ?_; refine Ex_getf rfl (by assumption) rfl ?_; refine Ex_getf rfl (by assumption) rfl ?_; refine Ex_mv rfl rfl ?_; refine Ex_iff (nI_ge (by omega) (by omega)) ?_; refine Ex_mv rfl rfl ?_; refine Ex_getf rfl (by assumption) rfl ?_; refine Ex_getf rfl (by assumption) rfl ?_; refine Ex_mv rfl rfl ?_; refine Ex_iald rfl (by assumption) (vp_in_nI (by omega) (by decide)) ?_
          rw [ea]
          refine Ex_mv rfl rfl ?_; (first | refine Ex_addN rfl ?_ | refine Ex_mv rfl rfl ?_); refine Ex_mv rfl rfl ?_; refine Ex_mv rfl rfl ?_; refine Ex_getf rfl (by assumption) rfl ?_; refine Ex_getf rfl (by assumption) rfl ?_; refine Ex_mv rfl rfl ?_; refine Ex_iald rfl (by assumption) (vp_in_nI (by omega) (by decide)) ?_
          rw [eg]
          refine Ex_mv rfl rfl ?_; refine Ex_mv rfl rfl ?_; refine Ex_mv rfl rfl ?_; refine Ex_mv rfl rfl ?_; refine Ex_iff n7 ?_; refine Ex_mv rfl rfl ?_; refine Ex_mv rfl rfl ?_; refine Ex_mv rfl rfl ?_; refine Ex_ift n8 ?_; refine Ex_mv rfl rfl ?_; refine Ex_mv rfl rfl ?_; refine Ex_mv rfl rfl ?_; refine Ex_inv rfl (by rfl) (by rfl) (by rfl) (hin) ?_; refine Ex_mv rfl rfl ?_; refine Ex_ift (show nI 0 = 0 from rfl) ?_
          exact f0 _ _
theorem MO_places_fac (hm : mu m0) (hG : GF B x) : ∀ (d k : Nat) (x3 : Option Value) (h : Hp) (s : Rt), k + d = b2 B (x.2.2.1 + 6) → RQ h m0 f a B s → HF mu h f (B, x) → ∀ R : Option Value → Hp → Prop, (∀ (h' : Hp) (k' : Nat), RQ h' m0 f a B (pks B x.1 x.2.1 (facT d (x.2.2.1 + 8 + 2 * k)) s) → FrI m0 (m0 + 1) h h' → Ex (prog nb sa) k_MO_places 181 [some (.ref m0), some (.int (nI x.2.2.1)), some (.int (nI k')), x3, none] [] h' R) → Ex (prog nb sa) k_MO_places 150 [some (.ref m0), some (.int (nI x.2.2.1)), some (.int (nI k)), x3, none] [] h R
  | 0, k, x3, h, s, hd, hs, hF, R, K => by
    obtain ⟨p0, j0, fp0, hc, -⟩ := id hs
    obtain ⟨b, t1, t2, t3, t7, t8, ow, c1, -⟩ := hF.ow
    have h8 := hG.2.2.2.2.1
    have f0 := K h k hs FrI.rf
    refine Ex_mv rfl rfl ?_; refine Ex_mv rfl rfl ?_; refine Ex_getf rfl (by assumption) rfl ?_; refine Ex_getf rfl (by assumption) rfl ?_; refine Ex_mv rfl rfl ?_; refine Ex_ift (nI_le (by omega) (by omega)) ?_
    exact f0
  | d + 1, k, x3, h, s, hd, hs, hF, R, K => by
    obtain ⟨p0, j0, fp0, hc, -⟩ := id hs
    obtain ⟨b, t1, t2, t3, t7, t8, ow, c1, -⟩ := hF.ow
    have h8 := hG.2.2.2.2.1
    have hn := hG.2.2.1
    have hf2 : fP B x.2.2.1 + 2 ≤ B.length := hG.2.2.2.2.2.1
    unfold fP at hf2
    obtain ⟨_, h1, f1, rfl, R1, F1⟩ := c_MO_place (nb := nb) (sa := sa) hs hF hn (p := x.2.2.1 + 8 + 2 * k) (t := 7) (by omega) (by decide)
    have ih := MO_places_fac hm hG d (k + 1) x3 h1 _ (by omega) R1 (hF.pf (F1.pfm hm)) R (fun h' k' z1 z2 => K h' k' (by
      rw [show x.2.2.1 + 8 + 2 * (k + 1) = x.2.2.1 + 8 + 2 * k + 2 by omega] at z1
      exact z1) (F1.tr z2))
    refine Ex_mv rfl rfl ?_; refine Ex_mv rfl rfl ?_; refine Ex_getf rfl (by assumption) rfl ?_; refine Ex_getf rfl (by assumption) rfl ?_; refine Ex_mv rfl rfl ?_; refine Ex_iff (nI_ge (by omega) (by omega)) ?_; refine Ex_mv rfl rfl ?_; refine Ex_mv rfl rfl ?_; refine Ex_mv rfl rfl ?_; (first | refine Ex_addN rfl ?_ | refine Ex_mv rfl rfl ?_); refine Ex_mv rfl rfl ?_; refine Ex_mv rfl rfl ?_; (first | refine Ex_mulN rfl ?_ | refine Ex_mv rfl rfl ?_); (first | refine Ex_addN rfl ?_ | refine Ex_mv rfl rfl ?_); refine Ex_mv rfl rfl ?_; refine Ex_invV rfl (by rfl) (by rfl) (by assumption) (by rfl) (f1) ?_; (first | refine Ex_incN rfl rfl ?_ | refine Ex_mv rfl rfl ?_); refine Ex_mv rfl rfl ?_
    exact ih
theorem MO_places_mem {kk : Nat} {x1 : Int32} (hk : kk < 2) (hm : mu m0) (hG : GF B x) (hc12 : (mK x.2.2.2.2.1 x.2.2.2.2.2.1 kk).length ≤ 12) : ∀ (d k p : Nat) (x4 : Option Value) (h : Hp) (s : Rt), k + d = (mK x.2.2.2.2.1 x.2.2.2.2.2.1 kk).length → (mK x.2.2.2.2.1 x.2.2.2.2.2.1 kk).drop k = memL B d p → MemG B d p → RQ h m0 f a B s → HF mu h f (B, x) → ∀ R : Option Value → Hp → Prop, (∀ (h' : Hp) (k' : Nat) (x4 : Option Value), RQ h' m0 f a B (pks B x.1 x.2.1 (memT B d p) s) → FrI m0 (m0 + 1) h h' → Ex (prog nb sa) k_MO_places 255 [some (.ref m0), some (.int x1), some (.int (nI kk)), some (.int (nI k')), x4] [] h' R) → Ex (prog nb sa) k_MO_places 190 [some (.ref m0), some (.int x1), some (.int (nI kk)), some (.int (nI k)), x4] [] h R
  | 0, k, p, x4, h, s, hd, hp, hM, hs, hF, R, K => by
    obtain ⟨p0, j0, fp0, hc, -⟩ := id hs
    obtain ⟨b, t1, t2, t3, t7, t8, ow, ak, gm, gc, c1, c2, c3, c4, c5, c6⟩ := hF.kd hk
    have e1 : gc (nI kk).toNatClampNeg = nI k := by rw [nI_clamp (by omega), c6, ← hd]; rfl
    have f0 := K h k x4 hs FrI.rf
    refine Ex_mv rfl rfl ?_; refine Ex_mv rfl rfl ?_; refine Ex_getf rfl (by assumption) rfl ?_; refine Ex_getf rfl (by assumption) rfl ?_; refine Ex_mv rfl rfl ?_; refine Ex_iald rfl (by assumption) (vp_in_nI (by omega) (by decide)) ?_
    rw [e1]
    refine Ex_mv rfl rfl ?_; refine Ex_ift (nI_le (by omega) (by omega)) ?_
    exact f0
  | d + 1, k, p, x4, h, s, hd, hp, hM, hs, hF, R, K => by
    obtain ⟨p0, j0, fp0, hc, -⟩ := id hs
    have hn := hG.2.2.1
    have hl4 := hF.lt.2
    obtain ⟨b, t1, t2, t3, t7, t8, ow, ak, gm, gc, c1, c2, c3, ⟨g, c4, c4', c4'', c4'''⟩, c5, c6⟩ := hF.kd hk
    have e1 : gc (nI kk).toNatClampNeg = nI (k + (d + 1)) := by rw [nI_clamp (by omega), c6, ← hd]
    have e2 : gm (nI kk).toNatClampNeg = some ak := by rw [nI_clamp (by omega), c3]
    obtain ⟨u, u1, w, u2, u3, u4⟩ := c4' k (by omega)
    have e3 : g (nI k).toNatClampNeg = some u := by rw [nI_clamp (by omega), u1]
    have ep : (mK x.2.2.2.2.1 x.2.2.2.2.2.1 kk).getD k 0 = p := by
      have := congrArg (fun l => l.getD 0 0) hp
      simpa [memL, List.getD_eq_getElem?_getD, List.getElem?_drop] using this
    rw [ep] at u2 u3
    obtain ⟨M1, M2, M3, M4⟩ := hM
    obtain ⟨_, h1, f1, rfl, R1, F1⟩ := c_MO_place (nb := nb) (sa := sa) hs hF hn (p := p + 2) (t := 1) (by omega) (by decide)
    have P1 := F1.pfm (mu := mu) hm
    obtain ⟨_, h2, f2, rfl, R2, F2⟩ := c_MO_place (nb := nb) (sa := sa) R1 (hF.pf P1) hn (p := p + 4) (t := 1) (by omega) (by decide)
    have P2 := P1.tr (F2.pfm (mu := mu) hm)
    obtain ⟨_, h3, f3, rfl, R3, F3⟩ := c_MO_names (nb := nb) (sa := sa) hm hn R2 (hF.pf P2) (u3.pf P2) (by rw [show p + 6 + 2 = p + 8 from rfl]; exact M3) M2
    have F13 := (F1.tr F2).tr F3
    have u21 : h1.2.2 u = _ := P1.at u2 u4
    have u22 : h2.2.2 u = _ := P2.at u2 u4
    obtain ⟨p1, j1, fp1, hc1, -⟩ := id R1
    obtain ⟨p2, j2, fp2, hc2, -⟩ := id R2
    have ih := fun x4 => MO_places_mem hk hm hG hc12 d (k + 1) (attE B (p + 6)) x4 h3 _ (by omega) (by
      have e5 : (mK x.2.2.2.2.1 x.2.2.2.2.2.1 kk).drop (k + 1) = ((mK x.2.2.2.2.1 x.2.2.2.2.2.1 kk).drop k).drop 1 := by rw [List.drop_drop]
      rw [e5, hp]; rfl) M4 R3 (hF.pf (F13.pfm hm)) R (fun h' k' x4 z1 z2 => K h' k' x4 (by
        rw [show memT B (d + 1) p = [(p + 2, 1), (p + 4, 1)] ++ (attT B (b2 B (p + 6)) (p + 8) ++ memT B d (attE B (p + 6))) from rfl, pks_app, pks_app]
        exact z1) (F13.tr z2))
    refine Ex_mv rfl rfl ?_; refine Ex_mv rfl rfl ?_; refine Ex_getf rfl (by assumption) rfl ?_; refine Ex_getf rfl (by assumption) rfl ?_; refine Ex_mv rfl rfl ?_; refine Ex_iald rfl (by assumption) (vp_in_nI (by omega) (by decide)) ?_
    rw [e1]
    refine Ex_mv rfl rfl ?_; refine Ex_iff (nI_ge (by omega) (by omega)) ?_; refine Ex_mv rfl rfl ?_; refine Ex_getf rfl (by assumption) rfl ?_; refine Ex_getf rfl (by assumption) rfl ?_; refine Ex_mv rfl rfl ?_; refine Ex_aald rfl c2 rfl (vp_in_nI (by omega) (by decide)) e2 ?_; refine Ex_mv rfl rfl ?_; refine Ex_aald rfl c4 rfl (vp_in_nI (by omega) (by decide)) e3 ?_; refine Ex_mv rfl rfl ?_; refine Ex_mv rfl rfl ?_; refine Ex_mv rfl rfl ?_; refine Ex_getf rfl (by assumption) rfl ?_; refine Ex_mv rfl rfl ?_; (first | refine Ex_addN rfl ?_ | refine Ex_mv rfl rfl ?_); refine Ex_mv rfl rfl ?_; refine Ex_invV rfl (by rfl) (by rfl) (by assumption) (by rfl) (f1) ?_; refine Ex_mv rfl rfl ?_; refine Ex_mv rfl rfl ?_; refine Ex_getf rfl (by assumption) rfl ?_; refine Ex_mv rfl rfl ?_; (first | refine Ex_addN rfl ?_ | refine Ex_mv rfl rfl ?_); refine Ex_mv rfl rfl ?_; refine Ex_invV rfl (by rfl) (by rfl) (by assumption) (by rfl) (f2) ?_; refine Ex_mv rfl rfl ?_; refine Ex_mv rfl rfl ?_; refine Ex_getf rfl (by assumption) rfl ?_; refine Ex_invV rfl (by rfl) (by rfl) (by assumption) (by rfl) (f3) ?_; (first | refine Ex_incN rfl rfl ?_ | refine Ex_mv rfl rfl ?_); refine Ex_mv rfl rfl ?_
    exact ih _
theorem c_MO_places {h : Hp} {s : Rt} (hm : mu m0) (hG : GF B x) (hs : RQ h m0 f a B s) (hF : HF mu h f (B, x)) : EvQ (prog nb sa) m_MO_places [.ref m0] h (fun v h' => v = none ∧ RQ h' m0 f a B (pks B x.1 x.2.1 x.2.2.2.2.2.2 s) ∧ FrI m0 (m0 + 1) h h') := by
  obtain ⟨g1, g2, g3, g4, gg5, gg6, gg7, gg8, gg9, gg10, gg11, gg12, gg13, gg14, gg15, gg16, gg17, gg18, gg19⟩ := id hG
  have hl4 := hF.lt.2
  refine EvQ_of k_MO_places 5 [some (.ref m0), none, none, none, none] rfl (Nat.le_of_ble_eq_true rfl) rfl ?_
  refine Ex_mv rfl rfl ?_; refine Ex_mv rfl rfl ?_
  refine MO_places_ents (nb := nb) (sa := sa) (s0 := s) hm hG (x.2.1 - 1) 1 none none h (by have := g1.2.2.2.2.2.2.2; omega) (by decide) hs hF _ ?_
  intro h1 i' x2 x3 R1 F1
  rw [gg19, pks_app]
  generalize pks B x.1 x.2.1 (zT B x.1 (x.2.1 - 1)) s = s1 at *
  have hF1 := hF.pf (F1.pfm hm)
  obtain ⟨p0, j0, fp0, hc1, -⟩ := id R1
  obtain ⟨b, t1, t2, t3, t7, t8, ow, c1, -⟩ := hF1.ow
  obtain ⟨_, h2, f2, rfl, R2, F2⟩ := c_MO_place (nb := nb) (sa := sa) R1 hF1 g3 (p := x.2.2.1 + 2) (t := 7) (by omega) (by decide)
  have hF2 := hF1.pf (F2.pfm hm)
  obtain ⟨bb, hb2, -⟩ := hF2.hb
  obtain ⟨⟨rb, hfb⟩, -⟩ := id hb2
  obtain ⟨p2, j2, fp2, hc2, -⟩ := id R2
  have hb4 := b2_lt hF.lt.1 (x.2.2.1 + 4)
  unfold bT
  rw [show ∀ L s, pks B x.1 x.2.1 ((x.2.2.1 + 2, 7) :: L) s = pks B x.1 x.2.1 L (pk1 B x.1 x.2.1 (x.2.2.1 + 2, 7) s) from fun _ _ => rfl, pks_app, pks_app, pks_app, pks_app]
  generalize pk1 B x.1 x.2.1 (x.2.2.1 + 2, 7) s1 = s2 at *
  have fin : ∀ (h3 : Hp) (x2 : Option Value), RQ h3 m0 f a B (pks B x.1 x.2.1 (if b2 B (x.2.2.1 + 4) = 0 then [] else [(x.2.2.1 + 4, 7)]) s2) → FrI m0 (m0 + 1) h h3 → Ex (prog nb sa) k_MO_places 148 [some (.ref m0), some (.int (nI x.2.2.1)), x2, x3, none] [] h3 (fun v h' => v = none ∧ RQ h' m0 f a B (pks B x.1 x.2.1 (attT B (b2 B (aP B x.2.2.1)) (aP B x.2.2.1 + 2)) (pks B x.1 x.2.1 (memT B (b2 B (mP B x.2.2.1)) (mP B x.2.2.1 + 2)) (pks B x.1 x.2.1 (memT B (b2 B (fP B x.2.2.1)) (fP B x.2.2.1 + 2)) (pks B x.1 x.2.1 (facT (b2 B (x.2.2.1 + 6)) (x.2.2.1 + 8)) (pks B x.1 x.2.1 (if b2 B (x.2.2.1 + 4) = 0 then [] else [(x.2.2.1 + 4, 7)]) s2))))) ∧ FrI m0 (m0 + 1) h h') := by
    intro h3 x2 R3 F3
    refine Ex_mv rfl rfl ?_; refine Ex_mv rfl rfl ?_
    refine MO_places_fac (nb := nb) (sa := sa) hm hG (b2 B (x.2.2.1 + 6)) 0 x3 h3 _ (Nat.zero_add _) R3 (hF.pf (F3.pfm hm)) _ ?_
    intro h4 k' R4 F4
    rw [show x.2.2.1 + 8 + 2 * 0 = x.2.2.1 + 8 from rfl] at R4
    have F4' := F3.tr F4
    refine Ex_mv rfl rfl ?_; refine Ex_mv rfl rfl ?_; refine Ex_mv rfl rfl ?_; refine Ex_mv rfl rfl ?_; refine Ex_mv rfl rfl ?_; refine Ex_iff (by decide) ?_
    refine Ex_mv rfl rfl ?_; refine Ex_mv rfl rfl ?_
    refine MO_places_mem (nb := nb) (sa := sa) (kk := 0) (by decide) hm hG (by show x.2.2.2.2.1.length ≤ 12; rw [gg17, memL_len]; exact gg7) (b2 B (fP B x.2.2.1)) 0 (fP B x.2.2.1 + 2) _ h4 _ (by show _ = x.2.2.2.2.1.length; rw [gg17, memL_len]; omega) (by show x.2.2.2.2.1.drop 0 = _; rw [gg17]; rfl) gg8 R4 (hF.pf (F4'.pfm hm)) _ ?_
    intro h5 k5 x4 R5 F5
    have F5' := F4'.tr F5
    refine Ex_incN rfl rfl ?_; refine Ex_mv rfl rfl ?_
    refine Ex_mv rfl rfl ?_; refine Ex_mv rfl rfl ?_; refine Ex_mv rfl rfl ?_; refine Ex_iff (by decide) ?_
    refine Ex_mv rfl rfl ?_; refine Ex_mv rfl rfl ?_
    refine MO_places_mem (nb := nb) (sa := sa) (kk := 1) (by decide) hm hG (by show x.2.2.2.2.2.1.length ≤ 12; rw [gg18, memL_len]; exact gg10) (b2 B (mP B x.2.2.1)) 0 (mP B x.2.2.1 + 2) _ h5 _ (by show _ = x.2.2.2.2.2.1.length; rw [gg18, memL_len]; omega) (by show x.2.2.2.2.2.1.drop 0 = _; rw [gg18]; rfl) gg11 R5 (hF.pf (F5'.pfm hm)) _ ?_
    intro h6 k6 x4 R6 F6
    have F6' := F5'.tr F6
    refine Ex_incN rfl rfl ?_; refine Ex_mv rfl rfl ?_
    refine Ex_mv rfl rfl ?_; refine Ex_mv rfl rfl ?_; refine Ex_mv rfl rfl ?_; refine Ex_ift (by decide) ?_
    have hF6 := hF.pf (F6'.pfm hm)
    obtain ⟨b, t1, t2, t3, t7, t8, ow, d1, d2⟩ := hF6.ow
    rw [gg16] at d2
    obtain ⟨_, h7, f7, rfl, R7, F7⟩ := c_MO_names (nb := nb) (sa := sa) hm g3 R6 hF6 d2 gg14 gg13
    obtain ⟨p6, j6, fp6, hc6, -⟩ := id R6
    refine Ex_mv rfl rfl ?_; refine Ex_mv rfl rfl ?_; refine Ex_getf rfl hc6 rfl ?_; refine Ex_getf rfl d1 rfl ?_
    refine Ex_invV rfl (by rfl) (by rfl) hc6 (by rfl) f7 ?_
    exact Ex_rt rfl rfl ⟨rfl, R7, F6'.tr F7⟩
  by_cases h4 : b2 B (x.2.2.1 + 4) = 0
  · rw [if_pos h4] at fin ⊢
    have tw := c_MH_two (nb := nb) (sa := sa) hb2 (p := x.2.2.1 + 4) (by omega)
    rw [h4] at tw
    refine Ex_mv rfl rfl ?_; refine Ex_getf rfl (by assumption) rfl ?_; refine Ex_getf rfl (by assumption) rfl ?_; refine Ex_mv rfl rfl ?_; refine Ex_mv rfl rfl ?_; refine Ex_mv rfl rfl ?_; refine Ex_mv rfl rfl ?_; (first | refine Ex_addN rfl ?_ | refine Ex_mv rfl rfl ?_); refine Ex_mv rfl rfl ?_; refine Ex_invV rfl (by rfl) (by rfl) (by assumption) (by rfl) (f2) ?_; refine Ex_mv rfl rfl ?_; refine Ex_getf rfl (by assumption) rfl ?_; refine Ex_mv rfl rfl ?_; refine Ex_mv rfl rfl ?_; (first | refine Ex_addN rfl ?_ | refine Ex_mv rfl rfl ?_); refine Ex_invV rfl (by rfl) (by rfl) (by assumption) (by rfl) (tw) ?_; refine Ex_mv rfl rfl ?_; refine Ex_ift (show nI 0 = 0 from rfl) ?_
    exact fin h2 _ R2 (F1.tr F2)
  · rw [if_neg h4] at fin ⊢
    obtain ⟨_, h3, f3, rfl, R3, F3⟩ := c_MO_place (nb := nb) (sa := sa) R2 hF2 g3 (p := x.2.2.1 + 4) (t := 7) (by omega) (by decide)
    refine Ex_mv rfl rfl ?_; refine Ex_getf rfl (by assumption) rfl ?_; refine Ex_getf rfl (by assumption) rfl ?_; refine Ex_mv rfl rfl ?_; refine Ex_mv rfl rfl ?_; refine Ex_mv rfl rfl ?_; refine Ex_mv rfl rfl ?_; (first | refine Ex_addN rfl ?_ | refine Ex_mv rfl rfl ?_); refine Ex_mv rfl rfl ?_; refine Ex_invV rfl (by rfl) (by rfl) (by assumption) (by rfl) (f2) ?_; refine Ex_mv rfl rfl ?_; refine Ex_getf rfl (by assumption) rfl ?_; refine Ex_mv rfl rfl ?_; refine Ex_mv rfl rfl ?_; (first | refine Ex_addN rfl ?_ | refine Ex_mv rfl rfl ?_); refine Ex_invV rfl (by rfl) (by rfl) (by assumption) (by rfl) (c_MH_two hb2 (by omega)) ?_; refine Ex_mv rfl rfl ?_; refine Ex_iff (nI_nz h4 (by omega)) ?_; refine Ex_mv rfl rfl ?_; refine Ex_mv rfl rfl ?_; refine Ex_mv rfl rfl ?_; (first | refine Ex_addN rfl ?_ | refine Ex_mv rfl rfl ?_); refine Ex_mv rfl rfl ?_; refine Ex_invV rfl (by rfl) (by rfl) (by assumption) (by rfl) (f3) ?_
    exact fin h3 _ R3 ((F1.tr F2).tr F3)
end REFE
