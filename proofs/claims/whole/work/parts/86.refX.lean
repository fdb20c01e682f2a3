/-! the other side: alike, the whole -/
section REFX
variable {nb sa : Nat} {m0 f g : Nat} {B B' : List Nat} {x y : Fs} {cl : List Value}
theorem b4_two {B B' : List Nat} (hB : ∀ x ∈ B, x < 256) (hB' : ∀ x ∈ B', x < 256) {p : Nat} : b4 B p = b4 B' p ↔ b2 B p = b2 B' p ∧ b2 B (p + 2) = b2 B' (p + 2) := by
  have l1 := b2_lt hB p
  have l2 := b2_lt hB (p + 2)
  have l3 := b2_lt hB' p
  have l4 := b2_lt hB' (p + 2)
  unfold b4
  omega
theorem c_MO_isAlike {h : Hp} (hT : TwF h m0 nb f g B B' x y cl) (hG : GG B x) (hG' : GG B' y) : EvQ (prog nb sa) m_MO_isAlike [.ref m0, .ref f, .ref g] h (fun v h' => v = some (.int (nI (bI (b4 B 4 = b4 B' 4 ∧ tokM (mng B x.1 x.2.1) (sTok B x.2.2.1) = tokM (mng B' y.1 y.2.1) (sTok B' y.2.2.1))))) ∧ Gw h h' 450 2250) := by
  obtain ⟨hF, hF', hnb, hcm, h7⟩ := id hT
  have hlt := hF.lt.1
  have hlt' := hF'.lt.1
  have hl4 := hF.lt.2
  have hl4' := hF'.lt.2
  rw [show bI (b4 B 4 = b4 B' 4 ∧ tokM (mng B x.1 x.2.1) (sTok B x.2.2.1) = tokM (mng B' y.1 y.2.1) (sTok B' y.2.2.1)) = bI ((b2 B 4 = b2 B' 4 ∧ b2 B (4 + 2) = b2 B' (4 + 2)) ∧ b2 B x.2.2.1 = b2 B' y.2.2.1 ∧ mng B x.1 x.2.1 (b2 B (x.2.2.1 + 2)) = mng B' y.1 y.2.1 (b2 B' (y.2.2.1 + 2)) ∧ SPq (mng B x.1 x.2.1) (mng B' y.1 y.2.1) (b2 B (x.2.2.1 + 4)) (b2 B' (y.2.2.1 + 4)) ∧ b2 B (x.2.2.1 + 6) = b2 B' (y.2.2.1 + 6) ∧ eqF B B' (mng B x.1 x.2.1) (mng B' y.1 y.2.1) (b2 B (x.2.2.1 + 6)) (x.2.2.1 + 8) (y.2.2.1 + 8) ∧ eqK B B' (mng B x.1 x.2.1) (mng B' y.1 y.2.1) (fP B x.2.2.1) (fP B' y.2.2.1) ∧ eqK B B' (mng B x.1 x.2.1) (mng B' y.1 y.2.1) (mP B x.2.2.1) (mP B' y.2.2.1) ∧ eqQ B B' (mng B x.1 x.2.1) (mng B' y.1 y.2.1) (aP B x.2.2.1) (aP B' y.2.2.1)) from bI_eq (by rw [b4_two hlt hlt', alk_iff hlt hlt' hG.1 hG'.1])]
  obtain ⟨gb1, gb2⟩ := hG.bh_le
  obtain ⟨gb1', gb2'⟩ := hG'.bh_le
  obtain ⟨g1, g2, g3, g4, gg5, gg6, gg7, gg8, gg9, gg10, gg11, gg12, gg13, gg14, gg15, gg16, gg17, gg18, gg19⟩ := id hG.1
  obtain ⟨k1, k2, k3, k4, kk5, kk6, kk7, kk8, kk9, kk10, kk11, kk12, kk13, kk14, kk15, kk16, kk17, kk18, kk19⟩ := id hG'.1
  obtain ⟨b, t1, t2, t3, t7, t8, ow, o1, -⟩ := hF.ow
  obtain ⟨b', t1', t2', t3', t7', t8', ow', o1', -⟩ := hF'.ow
  obtain ⟨bb, hb, -⟩ := hF.hb
  obtain ⟨bc, hb', -⟩ := hF'.hb
  have tw4 := c_MH_two (nb := nb) (sa := sa) hb (p := 4) (by omega)
  have tw4' := c_MH_two (nb := nb) (sa := sa) hb' (p := 4) (by omega)
  have tw6 := c_MH_two (nb := nb) (sa := sa) hb (p := 6) (by omega)
  have tw6' := c_MH_two (nb := nb) (sa := sa) hb' (p := 6) (by omega)
  have twb := c_MH_two (nb := nb) (sa := sa) hb (p := x.2.2.1) (by omega)
  have twb' := c_MH_two (nb := nb) (sa := sa) hb' (p := y.2.2.1) (by omega)
  have l4 := b2_lt hlt 4
  have l4' := b2_lt hlt' 4
  have l6 := b2_lt hlt 6
  have l6' := b2_lt hlt' 6
  have lb := b2_lt hlt x.2.2.1
  have lb' := b2_lt hlt' y.2.2.1
  have cls2 : tg B x.1 x.2.1 (b2 B (x.2.2.1 + 2)) ≠ 0 := by
    rcases hG.1.cls (k := 0) (by omega) with ⟨q1, -⟩ | q
    · omega
    · have e : tg B x.1 x.2.1 (b2 B (x.2.2.1 + 2)) = 7 := (wrg0 (hG.2.1 _ q)).2.1
      omega
  have cls2' : tg B' y.1 y.2.1 (b2 B' (y.2.2.1 + 2)) ≠ 0 := by
    rcases hG'.1.cls (k := 0) (by omega) with ⟨q1, -⟩ | q
    · omega
    · have e : tg B' y.1 y.2.1 (b2 B' (y.2.2.1 + 2)) = 7 := (wrg0 (hG'.2.1 _ q)).2.1
      omega
  have cls4 : b2 B (x.2.2.1 + 4) = 0 ∨ tg B x.1 x.2.1 (b2 B (x.2.2.1 + 4)) ≠ 0 := by
    rcases hG.1.cls (k := 1) (by omega) with ⟨-, q1⟩ | q
    · exact Or.inl q1
    · have e : tg B x.1 x.2.1 (b2 B (x.2.2.1 + 4)) = 7 := (wrg0 (hG.2.1 _ q)).2.1
      exact Or.inr (by omega)
  have cls4' : b2 B' (y.2.2.1 + 4) = 0 ∨ tg B' y.1 y.2.1 (b2 B' (y.2.2.1 + 4)) ≠ 0 := by
    rcases hG'.1.cls (k := 1) (by omega) with ⟨-, q1⟩ | q
    · exact Or.inl q1
    · have e : tg B' y.1 y.2.1 (b2 B' (y.2.2.1 + 4)) = 7 := (wrg0 (hG'.2.1 _ q)).2.1
      exact Or.inr (by omega)
  refine EvQ_of k_MO_isAlike 8 [some (.ref m0), some (.ref f), some (.ref g), none, none, none, none, none] rfl (Nat.le_of_ble_eq_true rfl) rfl ?_
  generalize hAL : ((b2 B 4 = b2 B' 4 ∧ b2 B (4 + 2) = b2 B' (4 + 2)) ∧ b2 B x.2.2.1 = b2 B' y.2.2.1 ∧ mng B x.1 x.2.1 (b2 B (x.2.2.1 + 2)) = mng B' y.1 y.2.1 (b2 B' (y.2.2.1 + 2)) ∧ SPq (mng B x.1 x.2.1) (mng B' y.1 y.2.1) (b2 B (x.2.2.1 + 4)) (b2 B' (y.2.2.1 + 4)) ∧ b2 B (x.2.2.1 + 6) = b2 B' (y.2.2.1 + 6) ∧ eqF B B' (mng B x.1 x.2.1) (mng B' y.1 y.2.1) (b2 B (x.2.2.1 + 6)) (x.2.2.1 + 8) (y.2.2.1 + 8) ∧ eqK B B' (mng B x.1 x.2.1) (mng B' y.1 y.2.1) (fP B x.2.2.1) (fP B' y.2.2.1) ∧ eqK B B' (mng B x.1 x.2.1) (mng B' y.1 y.2.1) (mP B x.2.2.1) (mP B' y.2.2.1) ∧ eqQ B B' (mng B x.1 x.2.1) (mng B' y.1 y.2.1) (aP B x.2.2.1) (aP B' y.2.2.1)) = AL
  have no : ∀ h', Gw h h' 450 2250 → ¬ AL → (fun (v : Option Value) h' => v = some (.int (nI (bI AL))) ∧ Gw h h' 450 2250) (some (.int (nI 0))) h' := fun h' W n => ⟨by rw [bI_f n], W⟩
  have zero : ∀ h', Gw h h' 4 20 → ¬ AL → Ex (prog nb sa) k_MO_isAlike 104 [some (.ref m0), some (.ref f), some (.ref g), none, none, none, none, none] [] h' (fun v h' => v = some (.int (nI (bI AL))) ∧ Gw h h' 450 2250) := by
    intro h' W n
    obtain ⟨hFz, -, -, -, -⟩ := hT.gw W
    obtain ⟨b9, t19, t29, t39, t79, t89, ow9, o19, -⟩ := hFz.ow
    have z := fun x5 => MO_isAlike_z (nb := nb) (sa := sa) (m0 := m0) (f := f) (g := g) (fun v h' => v = some (.int (nI (bI AL))) ∧ Gw h h' 450 2250) (no h' (W.mono (by omega) (by omega)) n) 2 0 x5 none none rfl
    by_cases hx : b2 B (x.2.2.1 + 6) = 0
    · refine Ex_mv rfl rfl ?_; refine Ex_mv rfl rfl ?_; refine Ex_mv rfl rfl ?_; refine Ex_mv rfl rfl ?_; refine Ex_mv rfl rfl ?_; refine Ex_mv rfl rfl ?_; refine Ex_getf rfl o19 rfl ?_; refine Ex_mv rfl rfl ?_; refine Ex_ift (nI_le (by omega) (by omega)) ?_; refine Ex_mv rfl rfl ?_; refine Ex_mv rfl rfl ?_
      exact z _
    · refine Ex_mv rfl rfl ?_; refine Ex_mv rfl rfl ?_; refine Ex_mv rfl rfl ?_; refine Ex_mv rfl rfl ?_; refine Ex_mv rfl rfl ?_; refine Ex_mv rfl rfl ?_; refine Ex_getf rfl o19 rfl ?_; refine Ex_mv rfl rfl ?_; refine Ex_iff (nI_ge (by omega) (by omega)) ?_; refine Ex_mv rfl rfl ?_; refine Ex_mv rfl rfl ?_; refine Ex_ift (show nI 0 = 0 from rfl) ?_; refine Ex_mv rfl rfl ?_; refine Ex_mv rfl rfl ?_
      exact z _
  have W0 : Gw h h 4 20 := Gw.rf.mono (by omega) (by omega)
  by_cases a1 : b2 B 4 = b2 B' 4
  · by_cases a2 : b2 B 6 = b2 B' 6
    · by_cases a3 : b2 B x.2.2.1 = b2 B' y.2.2.1
      · obtain ⟨_, h1, es, rfl, W1⟩ := c_MO_samePlace (nb := nb) (sa := sa) hT hG hG' (p := x.2.2.1 + 2) (q := y.2.2.1 + 2) (by omega) (by omega) (Or.inr cls2) (Or.inr cls2')
        rw [bI_eq (SPq_ne (tg_nz hG cls2) (tg_nz hG' cls2'))] at es
        have T1 := hT.gw W1
        obtain ⟨hF1, hF1', -, hcm1, -⟩ := id T1
        obtain ⟨b8, t18, t28, t38, t78, t88, ow8, o18, -⟩ := hF1.ow
        obtain ⟨b8', t18', t28', t38', t78', t88', ow8', o18', -⟩ := hF1'.ow
        by_cases a4 : mng B x.1 x.2.1 (b2 B (x.2.2.1 + 2)) = mng B' y.1 y.2.1 (b2 B' (y.2.2.1 + 2))
        · rw [bI_t a4] at es
          obtain ⟨_, h2, es2, rfl, W2⟩ := c_MO_samePlace (nb := nb) (sa := sa) T1 hG hG' (p := x.2.2.1 + 4) (q := y.2.2.1 + 4) (by omega) (by omega) cls4 cls4'
          have W12 := W1.tr W2
          have T2 := hT.gw W12
          obtain ⟨hF2, hF2', -, hcm2, -⟩ := id T2
          obtain ⟨b6, t16, t26, t36, t76, t86, ow6, o16, -⟩ := hF2.ow
          obtain ⟨b6', t16', t26', t36', t76', t86', ow6', o16', -⟩ := hF2'.ow
          by_cases a5 : SPq (mng B x.1 x.2.1) (mng B' y.1 y.2.1) (b2 B (x.2.2.1 + 4)) (b2 B' (y.2.2.1 + 4))
          · rw [bI_t a5] at es2
            by_cases a6 : b2 B (x.2.2.1 + 6) = b2 B' (y.2.2.1 + 6)
            · have lp := MO_isAlike_fac (nb := nb) (sa := sa) hG hG' a6 (R := fun v h' => v = some (.int (nI (bI AL))) ∧ Gw h h' 450 2250) (b2 B (x.2.2.1 + 6)) 0 h2 (Nat.zero_add _) T2 (fun h3 k' e7 W3 => by
                have W123 := W12.tr W3
                refine Ex_mv rfl rfl ?_; refine Ex_mv rfl rfl ?_
                refine MO_isAlike_kind (nb := nb) (sa := sa) (kk := 0) (by decide) hG hG' gg17 kk17 (hT.gw W123) (fun h4 x5 x6 x7 e8 W4 => ?_) (fun h4 e8 W4 => no h4 ((W123.tr W4).mono (by omega) (by omega)) (fun z => by rw [← hAL] at z; exact e8 z.2.2.2.2.2.2.1))
                have W4' := W123.tr W4
                refine MO_isAlike_kind (nb := nb) (sa := sa) (kk := 1) (by decide) hG hG' gg18 kk18 (hT.gw W4') (fun h5 x5 x6 x7 e9 W5 => ?_) (fun h5 e9 W5 => no h5 ((W4'.tr W5).mono (by omega) (by omega)) (fun z => by rw [← hAL] at z; exact e9 z.2.2.2.2.2.2.2.1))
                have W5' := W4'.tr W5
                have T5 := hT.gw W5'
                obtain ⟨hF5, hF5', -, hcm5, -⟩ := id T5
                obtain ⟨b3, t13, t23, t33, t73, t83, ow3, o13, o23⟩ := hF5.ow
                obtain ⟨b3', t13', t23', t33', t73', t83', ow3', o13', o23'⟩ := hF5'.ow
                rw [gg16] at o23
                rw [kk16] at o23'
                have ao : aO x.2.2.2.1 x.2.2.2.2.1 x.2.2.2.2.2.1 2 0 = some (aP B x.2.2.1) := by rw [← gg16]; rfl
                have ao' : aO y.2.2.2.1 y.2.2.2.2.1 y.2.2.2.2.2.1 2 0 = some (aP B' y.2.2.1) := by rw [← kk16]; rfl
                obtain ⟨_, h6, es6, rfl, W6⟩ := c_MO_same (nb := nb) (sa := sa) T5 hG hG' o23 o23' gg14 kk14 gg13 kk13 (fun k hk => by have := (hG.attN ao hk).1; omega) (fun k hk => by have := (hG'.attN ao' hk).1; omega)
                have WW : Gw h h6 450 2250 := (W5'.tr W6).mono (by omega) (by omega)
                refine Ex_mv rfl rfl ?_; refine Ex_mv rfl rfl ?_; refine Ex_mv rfl rfl ?_; refine Ex_ift (by decide) ?_
                refine Ex_mv rfl rfl ?_; refine Ex_mv rfl rfl ?_; refine Ex_iff (show ¬ nI 1 = 0 by decide) ?_
                refine Ex_mv rfl rfl ?_; refine Ex_mv rfl rfl ?_; refine Ex_mv rfl rfl ?_; refine Ex_getf rfl o13 rfl ?_; refine Ex_mv rfl rfl ?_; refine Ex_mv rfl rfl ?_; refine Ex_getf rfl o13' rfl ?_
                refine Ex_invV rfl (by rfl) (by rfl) hcm5 (by rfl) es6 ?_
                by_cases a10 : eqQ B B' (mng B x.1 x.2.1) (mng B' y.1 y.2.1) (aP B x.2.2.1) (aP B' y.2.2.1)
                · have al : AL := by rw [← hAL]; exact ⟨⟨a1, a2⟩, a3, a4, a5, a6, e7, e8, e9, a10⟩
                  rw [bI_t a10]
                  refine Ex_mv rfl rfl ?_; refine Ex_iff (show ¬ nI 1 = 0 by decide) ?_; refine Ex_mv rfl rfl ?_; refine Ex_mv rfl rfl ?_
                  exact Ex_rt rfl rfl ⟨by rw [bI_t al], WW⟩
                · rw [bI_f a10]
                  refine Ex_mv rfl rfl ?_; refine Ex_ift (show nI 0 = 0 from rfl) ?_; refine Ex_mv rfl rfl ?_
                  exact Ex_rt rfl rfl ⟨by rw [bI_f (fun z => by rw [← hAL] at z; exact a10 z.2.2.2.2.2.2.2.2)], WW⟩) (fun h3 k' e7 W3 => by
                refine Ex_mv rfl rfl ?_; refine Ex_mv rfl rfl ?_
                exact MO_isAlike_z (fun v h' => v = some (.int (nI (bI AL))) ∧ Gw h h' 450 2250) (no h3 ((W12.tr W3).mono (by omega) (by omega)) (fun z => by rw [← hAL] at z; exact e7 z.2.2.2.2.2.1)) 2 0 _ _ _ rfl)
              refine Ex_mv rfl rfl ?_; refine Ex_mv rfl rfl ?_; refine Ex_invV rfl (by rfl) (by rfl) o1 (by rfl) (tw4) ?_; refine Ex_mv rfl rfl ?_; refine Ex_mv rfl rfl ?_; refine Ex_invV rfl (by rfl) (by rfl) o1' (by rfl) (tw4') ?_; refine Ex_mv rfl rfl ?_; refine Ex_iff (by rw [a1]; exact not_not_intro rfl) ?_; refine Ex_mv rfl rfl ?_; refine Ex_mv rfl rfl ?_; refine Ex_invV rfl (by rfl) (by rfl) o1 (by rfl) (tw6) ?_; refine Ex_mv rfl rfl ?_; refine Ex_mv rfl rfl ?_; refine Ex_invV rfl (by rfl) (by rfl) o1' (by rfl) (tw6') ?_; refine Ex_mv rfl rfl ?_; refine Ex_iff (by rw [a2]; exact not_not_intro rfl) ?_; refine Ex_mv rfl rfl ?_; refine Ex_mv rfl rfl ?_; refine Ex_getf rfl o1 rfl ?_; refine Ex_invV rfl (by rfl) (by rfl) o1 (by rfl) (twb) ?_; refine Ex_mv rfl rfl ?_; refine Ex_mv rfl rfl ?_; refine Ex_getf rfl o1' rfl ?_; refine Ex_invV rfl (by rfl) (by rfl) o1' (by rfl) (twb') ?_; refine Ex_mv rfl rfl ?_; refine Ex_iff (by rw [a3]; exact not_not_intro rfl) ?_; refine Ex_mv rfl rfl ?_; refine Ex_mv rfl rfl ?_; refine Ex_mv rfl rfl ?_; refine Ex_getf rfl o1 rfl ?_; refine Ex_mv rfl rfl ?_; (first | refine Ex_addN rfl ?_ | refine Ex_mv rfl rfl ?_); refine Ex_mv rfl rfl ?_; refine Ex_mv rfl rfl ?_; refine Ex_getf rfl o1' rfl ?_; refine Ex_mv rfl rfl ?_; (first | refine Ex_addN rfl ?_ | refine Ex_mv rfl rfl ?_); refine Ex_invV rfl (by rfl) (by rfl) hcm (by rfl) (es) ?_; refine Ex_mv rfl rfl ?_; refine Ex_iff (show ¬ nI 1 = 0 by decide) ?_; refine Ex_mv rfl rfl ?_; refine Ex_mv rfl rfl ?_; refine Ex_mv rfl rfl ?_; refine Ex_getf rfl o18 rfl ?_; refine Ex_mv rfl rfl ?_; (first | refine Ex_addN rfl ?_ | refine Ex_mv rfl rfl ?_); refine Ex_mv rfl rfl ?_; refine Ex_mv rfl rfl ?_; refine Ex_getf rfl o18' rfl ?_; refine Ex_mv rfl rfl ?_; (first | refine Ex_addN rfl ?_ | refine Ex_mv rfl rfl ?_); refine Ex_invV rfl (by rfl) (by rfl) hcm1 (by rfl) (es2) ?_; refine Ex_mv rfl rfl ?_; refine Ex_iff (show ¬ nI 1 = 0 by decide) ?_; refine Ex_mv rfl rfl ?_; refine Ex_getf rfl o16 rfl ?_; refine Ex_mv rfl rfl ?_; refine Ex_getf rfl o16' rfl ?_; refine Ex_mv rfl rfl ?_; refine Ex_iff (by rw [a6]; exact not_not_intro rfl) ?_; refine Ex_mv rfl rfl ?_; refine Ex_mv rfl rfl ?_; refine Ex_mv rfl rfl ?_; refine Ex_mv rfl rfl ?_; refine Ex_mv rfl rfl ?_
              exact lp
            · have z := zero h2 (W12.mono (by omega) (by omega)) (fun z => by rw [← hAL] at z; exact a6 z.2.2.2.2.1)
              refine Ex_mv rfl rfl ?_; refine Ex_mv rfl rfl ?_; refine Ex_invV rfl (by rfl) (by rfl) o1 (by rfl) (tw4) ?_; refine Ex_mv rfl rfl ?_; refine Ex_mv rfl rfl ?_; refine Ex_invV rfl (by rfl) (by rfl) o1' (by rfl) (tw4') ?_; refine Ex_mv rfl rfl ?_; refine Ex_iff (by rw [a1]; exact not_not_intro rfl) ?_; refine Ex_mv rfl rfl ?_; refine Ex_mv rfl rfl ?_; refine Ex_invV rfl (by rfl) (by rfl) o1 (by rfl) (tw6) ?_; refine Ex_mv rfl rfl ?_; refine Ex_mv rfl rfl ?_; refine Ex_invV rfl (by rfl) (by rfl) o1' (by rfl) (tw6') ?_; refine Ex_mv rfl rfl ?_; refine Ex_iff (by rw [a2]; exact not_not_intro rfl) ?_; refine Ex_mv rfl rfl ?_; refine Ex_mv rfl rfl ?_; refine Ex_getf rfl o1 rfl ?_; refine Ex_invV rfl (by rfl) (by rfl) o1 (by rfl) (twb) ?_; refine Ex_mv rfl rfl ?_; refine Ex_mv rfl rfl ?_; refine Ex_getf rfl o1' rfl ?_; refine Ex_invV rfl (by rfl) (by rfl) o1' (by rfl) (twb') ?_; refine Ex_mv rfl rfl ?_; refine Ex_iff (by rw [a3]; exact not_not_intro rfl) ?_; refine Ex_mv rfl rfl ?_; refine Ex_mv rfl rfl ?_; refine Ex_mv rfl rfl ?_; refine Ex_getf rfl o1 rfl ?_; refine Ex_mv rfl rfl ?_; (first | refine Ex_addN rfl ?_ | refine Ex_mv rfl rfl ?_); refine Ex_mv rfl rfl ?_; refine Ex_mv rfl rfl ?_; refine Ex_getf rfl o1' rfl ?_; refine Ex_mv rfl rfl ?_; (first | refine Ex_addN rfl ?_ | refine Ex_mv rfl rfl ?_); refine Ex_invV rfl (by rfl) (by rfl) hcm (by rfl) (es) ?_; refine Ex_mv rfl rfl ?_; refine Ex_iff (show ¬ nI 1 = 0 by decide) ?_; refine Ex_mv rfl rfl ?_; refine Ex_mv rfl rfl ?_; refine Ex_mv rfl rfl ?_; refine Ex_getf rfl o18 rfl ?_; refine Ex_mv rfl rfl ?_; (first | refine Ex_addN rfl ?_ | refine Ex_mv rfl rfl ?_); refine Ex_mv rfl rfl ?_; refine Ex_mv rfl rfl ?_; refine Ex_getf rfl o18' rfl ?_; refine Ex_mv rfl rfl ?_; (first | refine Ex_addN rfl ?_ | refine Ex_mv rfl rfl ?_); refine Ex_invV rfl (by rfl) (by rfl) hcm1 (by rfl) (es2) ?_; refine Ex_mv rfl rfl ?_; refine Ex_iff (show ¬ nI 1 = 0 by decide) ?_; refine Ex_mv rfl rfl ?_; refine Ex_getf rfl o16 rfl ?_; refine Ex_mv rfl rfl ?_; refine Ex_getf rfl o16' rfl ?_; refine Ex_mv rfl rfl ?_; refine Ex_ift (fun z => a6 ((nI_eq (by omega) (by omega)).mp z)) ?_
              exact z
          · rw [bI_f a5] at es2
            have z := zero h2 (W12.mono (by omega) (by omega)) (fun z => by rw [← hAL] at z; exact a5 z.2.2.2.1)
            refine Ex_mv rfl rfl ?_; refine Ex_mv rfl rfl ?_; refine Ex_invV rfl (by rfl) (by rfl) o1 (by rfl) (tw4) ?_; refine Ex_mv rfl rfl ?_; refine Ex_mv rfl rfl ?_; refine Ex_invV rfl (by rfl) (by rfl) o1' (by rfl) (tw4') ?_; refine Ex_mv rfl rfl ?_; refine Ex_iff (by rw [a1]; exact not_not_intro rfl) ?_; refine Ex_mv rfl rfl ?_; refine Ex_mv rfl rfl ?_; refine Ex_invV rfl (by rfl) (by rfl) o1 (by rfl) (tw6) ?_; refine Ex_mv rfl rfl ?_; refine Ex_mv rfl rfl ?_; refine Ex_invV rfl (by rfl) (by rfl) o1' (by rfl) (tw6') ?_; refine Ex_mv rfl rfl ?_; refine Ex_iff (by rw [a2]; exact not_not_intro rfl) ?_; refine Ex_mv rfl rfl ?_; refine Ex_mv rfl rfl ?_; refine Ex_getf rfl o1 rfl ?_; refine Ex_invV rfl (by rfl) (by rfl) o1 (by rfl) (twb) ?_; refine Ex_mv rfl rfl ?_; refine Ex_mv rfl rfl ?_; refine Ex_getf rfl o1' rfl ?_; refine Ex_invV rfl (by rfl) (by rfl) o1' (by rfl) (twb') ?_; refine Ex_mv rfl rfl ?_; refine Ex_iff (by rw [a3]; exact not_not_intro rfl) ?_; refine Ex_mv rfl rfl ?_; refine Ex_mv rfl rfl ?_; refine Ex_mv rfl rfl ?_; refine Ex_getf rfl o1 rfl ?_; refine Ex_mv rfl rfl ?_; (first | refine Ex_addN rfl ?_ | refine Ex_mv rfl rfl ?_); refine Ex_mv rfl rfl ?_; refine Ex_mv rfl rfl ?_; refine Ex_getf rfl o1' rfl ?_; refine Ex_mv rfl rfl ?_; (first | refine Ex_addN rfl ?_ | refine Ex_mv rfl rfl ?_); refine Ex_invV rfl (by rfl) (by rfl) hcm (by rfl) (es) ?_; refine Ex_mv rfl rfl ?_; refine Ex_iff (show ¬ nI 1 = 0 by decide) ?_; refine Ex_mv rfl rfl ?_; refine Ex_mv rfl rfl ?_; refine Ex_mv rfl rfl ?_; refine Ex_getf rfl o18 rfl ?_; refine Ex_mv rfl rfl ?_; (first | refine Ex_addN rfl ?_ | refine Ex_mv rfl rfl ?_); refine Ex_mv rfl rfl ?_; refine Ex_mv rfl rfl ?_; refine Ex_getf rfl o18' rfl ?_; refine Ex_mv rfl rfl ?_; (first | refine Ex_addN rfl ?_ | refine Ex_mv rfl rfl ?_); refine Ex_invV rfl (by rfl) (by rfl) hcm1 (by rfl) (es2) ?_; refine Ex_mv rfl rfl ?_; refine Ex_ift (show nI 0 = 0 from rfl) ?_
            exact z
        · rw [bI_f a4] at es
          have z := zero h1 (W1.mono (by omega) (by omega)) (fun z => by rw [← hAL] at z; exact a4 z.2.2.1)
          refine Ex_mv rfl rfl ?_; refine Ex_mv rfl rfl ?_; refine Ex_invV rfl (by rfl) (by rfl) o1 (by rfl) (tw4) ?_; refine Ex_mv rfl rfl ?_; refine Ex_mv rfl rfl ?_; refine Ex_invV rfl (by rfl) (by rfl) o1' (by rfl) (tw4') ?_; refine Ex_mv rfl rfl ?_; refine Ex_iff (by rw [a1]; exact not_not_intro rfl) ?_; refine Ex_mv rfl rfl ?_; refine Ex_mv rfl rfl ?_; refine Ex_invV rfl (by rfl) (by rfl) o1 (by rfl) (tw6) ?_; refine Ex_mv rfl rfl ?_; refine Ex_mv rfl rfl ?_; refine Ex_invV rfl (by rfl) (by rfl) o1' (by rfl) (tw6') ?_; refine Ex_mv rfl rfl ?_; refine Ex_iff (by rw [a2]; exact not_not_intro rfl) ?_; refine Ex_mv rfl rfl ?_; refine Ex_mv rfl rfl ?_; refine Ex_getf rfl o1 rfl ?_; refine Ex_invV rfl (by rfl) (by rfl) o1 (by rfl) (twb) ?_; refine Ex_mv rfl rfl ?_; refine Ex_mv rfl rfl ?_; refine Ex_getf rfl o1' rfl ?_; refine Ex_invV rfl (by rfl) (by rfl) o1' (by rfl) (twb') ?_; refine Ex_mv rfl rfl ?_; refine Ex_iff (by rw [a3]; exact not_not_intro rfl) ?_; refine Ex_mv rfl rfl ?_; refine Ex_mv rfl rfl ?_; refine Ex_mv rfl rfl ?_; refine Ex_getf rfl o1 rfl ?_; refine Ex_mv rfl rfl ?_; (first | refine Ex_addN rfl ?_ | refine Ex_mv rfl rfl ?_); refine Ex_mv rfl rfl ?_; refine Ex_mv rfl rfl ?_; refine Ex_getf rfl o1' rfl ?_; refine Ex_mv rfl rfl ?_; (first | refine Ex_addN rfl ?_ | refine Ex_mv rfl rfl ?_); refine Ex_invV rfl (by rfl) (by rfl) hcm (by rfl) (es) ?_; refine Ex_mv rfl rfl ?_; refine Ex_ift (show nI 0 = 0 from rfl) ?_
          exact z
      · have z := zero h W0 (fun z => by rw [← hAL] at z; exact a3 z.2.1)
        refine Ex_mv rfl rfl ?_; refine Ex_mv rfl rfl ?_; refine Ex_invV rfl (by rfl) (by rfl) o1 (by rfl) (tw4) ?_; refine Ex_mv rfl rfl ?_; refine Ex_mv rfl rfl ?_; refine Ex_invV rfl (by rfl) (by rfl) o1' (by rfl) (tw4') ?_; refine Ex_mv rfl rfl ?_; refine Ex_iff (by rw [a1]; exact not_not_intro rfl) ?_; refine Ex_mv rfl rfl ?_; refine Ex_mv rfl rfl ?_; refine Ex_invV rfl (by rfl) (by rfl) o1 (by rfl) (tw6) ?_; refine Ex_mv rfl rfl ?_; refine Ex_mv rfl rfl ?_; refine Ex_invV rfl (by rfl) (by rfl) o1' (by rfl) (tw6') ?_; refine Ex_mv rfl rfl ?_; refine Ex_iff (by rw [a2]; exact not_not_intro rfl) ?_; refine Ex_mv rfl rfl ?_; refine Ex_mv rfl rfl ?_; refine Ex_getf rfl o1 rfl ?_; refine Ex_invV rfl (by rfl) (by rfl) o1 (by rfl) (twb) ?_; refine Ex_mv rfl rfl ?_; refine Ex_mv rfl rfl ?_; refine Ex_getf rfl o1' rfl ?_; refine Ex_invV rfl (by rfl) (by rfl) o1' (by rfl) (twb') ?_; refine Ex_mv rfl rfl ?_; refine Ex_ift (fun z => a3 ((nI_eq (by omega) (by omega)).mp z)) ?_
        exact z
    · have z := zero h W0 (fun z => by rw [← hAL] at z; exact a2 z.1.2)
      refine Ex_mv rfl rfl ?_; refine Ex_mv rfl rfl ?_; refine Ex_invV rfl (by rfl) (by rfl) o1 (by rfl) (tw4) ?_; refine Ex_mv rfl rfl ?_; refine Ex_mv rfl rfl ?_; refine Ex_invV rfl (by rfl) (by rfl) o1' (by rfl) (tw4') ?_; refine Ex_mv rfl rfl ?_; refine Ex_iff (by rw [a1]; exact not_not_intro rfl) ?_; refine Ex_mv rfl rfl ?_; refine Ex_mv rfl rfl ?_; refine Ex_invV rfl (by rfl) (by rfl) o1 (by rfl) (tw6) ?_; refine Ex_mv rfl rfl ?_; refine Ex_mv rfl rfl ?_; refine Ex_invV rfl (by rfl) (by rfl) o1' (by rfl) (tw6') ?_; refine Ex_mv rfl rfl ?_; refine Ex_ift (fun z => a2 ((nI_eq (by omega) (by omega)).mp z)) ?_
      exact z
  · have z := zero h W0 (fun z => by rw [← hAL] at z; exact a1 z.1.1)
    refine Ex_mv rfl rfl ?_; refine Ex_mv rfl rfl ?_; refine Ex_invV rfl (by rfl) (by rfl) o1 (by rfl) (tw4) ?_; refine Ex_mv rfl rfl ?_; refine Ex_mv rfl rfl ?_; refine Ex_invV rfl (by rfl) (by rfl) o1' (by rfl) (tw4') ?_; refine Ex_mv rfl rfl ?_; refine Ex_ift (fun z => a1 ((nI_eq (by omega) (by omega)).mp z)) ?_
    exact z
variable {h : Hp} {s : Sg} {c : Nat}
theorem c_MO_alike (hS : MOs h m0 nb sa s c) (hG : SgG s) (a b : Int32) : EvQ (prog nb sa) m_MO_alike [.ref m0, .int a, .int b] h (fun v h' => v = some (.int (match fA s.2.2.1 a with | none => -1 | some z => match fA s.2.2.1 b with | none => -1 | some y => q_alike z y)) ∧ MOs h' m0 nb sa s 0 ∧ FX m0 h h' 450 2250) := by
  obtain ⟨h1, e1, k2, k3⟩ := c_MO_isFile (nb := nb) hS hG.2.2.2.1 a
  obtain ⟨h2, e2, l2, l3⟩ := c_MO_isFile (nb := nb) k2 hG.2.2.2.1 b
  obtain ⟨O0, J0, nw0, a0, fl0, ms0, od0, oc0, hc0⟩ := hS.cell
  obtain ⟨O1, J1, nw1, a1, fl1, ms1, od1, oc1, hc1⟩ := k2.cell
  have k3' : FX m0 h h1 450 2250 := k3.mono (by omega) (by omega)
  have l3' : FX m0 h h2 450 2250 := (k3.tr l3).mono (by omega) (by omega)
  refine EvQ_of k_MO_alike 5 [some (.ref m0), some (.int a), some (.int b), none, none] rfl (Nat.le_of_ble_eq_true rfl) rfl ?_
  rcases okF_cases s.2.2.1 a with ⟨z1, z2⟩ | ⟨k, z, rfl, hk, hk2, z3, z1, z2⟩
  · rw [z1]
    rw [z2] at e1
    refine Ex_mv rfl rfl ?_; refine Ex_mv rfl rfl ?_; refine Ex_invV rfl (by rfl) (by rfl) hc0 (by rfl) (e1) ?_; refine Ex_mv rfl rfl ?_; refine Ex_ift (show nI 0 = 0 from rfl) ?_; refine Ex_mv rfl rfl ?_
    refine Ex_rt rfl rfl ?_
    exact ⟨rfl, k2, k3'⟩
  · rw [z1]
    rw [z2] at e1
    simp only
    rcases okF_cases s.2.2.1 b with ⟨y1, y2⟩ | ⟨j, y, rfl, hj, hj2, y3, y1, y2⟩
    · rw [y1]
      rw [y2] at e2
      refine Ex_mv rfl rfl ?_; refine Ex_mv rfl rfl ?_; refine Ex_invV rfl (by rfl) (by rfl) hc0 (by rfl) (e1) ?_; refine Ex_mv rfl rfl ?_; refine Ex_iff (show ¬ nI 1 = 0 by decide) ?_; refine Ex_mv rfl rfl ?_; refine Ex_mv rfl rfl ?_; refine Ex_invV rfl (by rfl) (by rfl) hc1 (by rfl) (e2) ?_; refine Ex_mv rfl rfl ?_; refine Ex_iff (not_not_intro (show nI 0 = 0 from rfl)) ?_; refine Ex_mv rfl rfl ?_
      refine Ex_rt rfl rfl ?_
      exact ⟨rfl, l2, l3'⟩
    · rw [y1]
      rw [y2] at e2
      simp only
      have hl6 := hG.2.2.2.1
      obtain ⟨O, J, nw, a', fl, ms, od, oc, hc, hR⟩ := id l2
      obtain ⟨⟨gF, m1, m2⟩, _, _, _, _, _, h7, hnb, _⟩ := id hR
      obtain ⟨f, f1, f2⟩ := m2 k z z3
      obtain ⟨g, g1, g2⟩ := m2 j y y3
      have ef : gF (nI k).toNatClampNeg = some f := by rw [nI_clamp hk2]; exact f1
      have eg : gF (nI j).toNatClampNeg = some g := by rw [nI_clamp hj2]; exact g1
      have hGz := hG.1 z (List.mem_of_getElem? z3)
      have hGy := hG.1 y (List.mem_of_getElem? y3)
      have hT : TwF h2 m0 nb f g z.1 y.1 z.2 y.2 (MOl m0 0 s O J nw a' fl ms od oc) := ⟨f2, g2, hnb, hc, h7⟩
      obtain ⟨bb, hb, -⟩ := HF.hb (B := z.1) (x := z.2) f2
      obtain ⟨bc, hb', -⟩ := HF.hb (B := y.1) (x := y.2) g2
      obtain ⟨⟨r, hf⟩, hA⟩ := id hb
      obtain ⟨⟨r', hf'⟩, hA'⟩ := id hb'
      have cm := c_MO_compare (nb := nb) (sa := sa) hA hA'
      have pre : ∀ R : Option Value → Hp → Prop, Ex (prog nb sa) k_MO_alike 33 [some (.ref m0), some (.int (nI k)), some (.int (nI j)), some (.ref f), some (.ref g)] [] h2 R → Ex (prog nb sa) k_MO_alike 0 [some (.ref m0), some (.int (nI k)), some (.int (nI j)), none, none] [] h R := by
        intro R K
        refine Ex_mv rfl rfl ?_; refine Ex_mv rfl rfl ?_; refine Ex_invV rfl (by rfl) (by rfl) hc0 (by rfl) (e1) ?_; refine Ex_mv rfl rfl ?_; refine Ex_iff (show ¬ nI 1 = 0 by decide) ?_; refine Ex_mv rfl rfl ?_; refine Ex_mv rfl rfl ?_; refine Ex_invV rfl (by rfl) (by rfl) hc1 (by rfl) (e2) ?_; refine Ex_mv rfl rfl ?_; refine Ex_ift (show ¬ nI 1 = 0 by decide) ?_; refine Ex_mv rfl rfl ?_; refine Ex_getf rfl hc rfl ?_; refine Ex_mv rfl rfl ?_; refine Ex_aald rfl m1 rfl (vp_in_nI (by omega) (by decide)) ef ?_; refine Ex_mv rfl rfl ?_; refine Ex_mv rfl rfl ?_; refine Ex_getf rfl hc rfl ?_; refine Ex_mv rfl rfl ?_; refine Ex_aald rfl m1 rfl (vp_in_nI (by omega) (by decide)) eg ?_; refine Ex_mv rfl rfl ?_
        exact K
      refine pre _ ?_
      unfold q_alike
      by_cases e : z.1 = y.1
      · rw [if_pos e]
        rw [(cmpL_good.2.1 _ _).mpr e] at cm
        refine Ex_mv rfl rfl ?_; refine Ex_getf rfl hf rfl ?_; refine Ex_mv rfl rfl ?_; refine Ex_getf rfl hf' rfl ?_; refine Ex_inv rfl (by rfl) (by rfl) (by rfl) (cm) ?_; refine Ex_mv rfl rfl ?_; refine Ex_iff (not_not_intro (show nI 0 = 0 from rfl)) ?_; refine Ex_mv rfl rfl ?_; refine Ex_mv rfl rfl ?_
        refine Ex_rt rfl rfl ?_
        exact ⟨rfl, l2, l3'⟩
      · rw [if_neg e]
        have ne : ¬ cmpL z.1 y.1 = nI 0 := fun q => e ((cmpL_good.2.1 _ _).mp q)
        obtain ⟨_, h3, e3, rfl, W3⟩ := c_MO_isAlike (nb := nb) (sa := sa) hT hGz hGy
        have S3 := l2.grow W3.1 W3.2.2.1 W3.2.2.2.2
        have F3 : FX m0 h h3 450 2250 := ((k3.tr l3).tr (FX.gr W3.1 W3.2.2.1 W3.2.2.2.2 W3.2.1 W3.2.2.2.1 : FX m0 h2 h3 450 2250)).mono (by omega) (by omega)
        have ei : (b4 z.1 4 = b4 y.1 4 ∧ mea z.1 y.1 (mng z.1 z.2.1 z.2.2.1) (mng y.1 y.2.1 y.2.2.1) ((bT z.1 z.2.2.2.1).map (·.1)) ((bT y.1 y.2.2.2.1).map (·.1)) z.2.2.2.1 y.2.2.2.1 = true) ↔ (b4 z.1 4 = b4 y.1 4 ∧ tokM (mng z.1 z.2.1 z.2.2.1) (sTok z.1 z.2.2.2.1) = tokM (mng y.1 y.2.1 y.2.2.1) (sTok y.1 y.2.2.2.1)) := by
          rw [mea_tok, tok_all hGz.1, tok_all hGy.1]
        by_cases al : (b4 z.1 4 = b4 y.1 4 ∧ mea z.1 y.1 (mng z.1 z.2.1 z.2.2.1) (mng y.1 y.2.1 y.2.2.1) ((bT z.1 z.2.2.2.1).map (·.1)) ((bT y.1 y.2.2.2.1).map (·.1)) z.2.2.2.1 y.2.2.2.1 = true)
        · rw [if_pos al]
          rw [bI_t (ei.mp al)] at e3
          refine Ex_mv rfl rfl ?_; refine Ex_getf rfl hf rfl ?_; refine Ex_mv rfl rfl ?_; refine Ex_getf rfl hf' rfl ?_; refine Ex_inv rfl (by rfl) (by rfl) (by rfl) (cm) ?_; refine Ex_mv rfl rfl ?_; refine Ex_ift ne ?_; refine Ex_mv rfl rfl ?_; refine Ex_mv rfl rfl ?_; refine Ex_mv rfl rfl ?_; refine Ex_invV rfl (by rfl) (by rfl) hc (by rfl) (e3) ?_; refine Ex_mv rfl rfl ?_; refine Ex_iff (show ¬ nI 1 = 0 by decide) ?_; refine Ex_mv rfl rfl ?_; refine Ex_mv rfl rfl ?_
          refine Ex_rt rfl rfl ?_
          exact ⟨rfl, S3, F3⟩
        · rw [if_neg al]
          rw [bI_f (fun q => al (ei.mpr q))] at e3
          refine Ex_mv rfl rfl ?_; refine Ex_getf rfl hf rfl ?_; refine Ex_mv rfl rfl ?_; refine Ex_getf rfl hf' rfl ?_; refine Ex_inv rfl (by rfl) (by rfl) (by rfl) (cm) ?_; refine Ex_mv rfl rfl ?_; refine Ex_ift ne ?_; refine Ex_mv rfl rfl ?_; refine Ex_mv rfl rfl ?_; refine Ex_mv rfl rfl ?_; refine Ex_invV rfl (by rfl) (by rfl) hc (by rfl) (e3) ?_; refine Ex_mv rfl rfl ?_; refine Ex_ift (show nI 0 = 0 from rfl) ?_; refine Ex_mv rfl rfl ?_
          refine Ex_rt rfl rfl ?_
          exact ⟨rfl, S3, F3⟩
end REFX
