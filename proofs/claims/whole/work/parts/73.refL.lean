/-! the other side: file, entry, number, text -/
section REFL
variable {nb sa : Nat} {m0 f : Nat} {B : List Nat} {x : Fs} {mu : Nat → Prop} {h : Hp}
theorem GG.st11 (hG : GG B x) {i : Nat} (ht : tg B x.1 x.2.1 i ≠ 0) : 10 ≤ st x.1 x.2.1 i ∧ st x.1 x.2.1 i + 11 ≤ B.length ∧ i < x.2.1 ∧ x.2.1 ≤ 61 ∧ tw B x.1 x.2.1 i 1 = b2 B (st x.1 x.2.1 i + 1) ∧ tw B x.1 x.2.1 i 3 = b2 B (st x.1 x.2.1 i + 3) := by
  obtain ⟨h1, h2, h3⟩ := hG.sz ht
  have h4 := eSz_pos B (x.1 i)
  have h5 := hG.bh_le
  have h6 := (tg_at rfl ht).1
  have h7 : x.2.1 ≤ 61 := hG.1.2.2.1
  refine ⟨h1, by omega, h6, h7, ?_, ?_⟩
  · unfold tw; rw [if_neg (by omega)]
  · unfold tw; rw [if_neg (by omega)]
theorem HF.en (hF : HF mu h f (B, x)) : ∃ b t1 t2 t3 t7 t8 ow gt ga, h.2.2 f = some (true, .inr (8, [.ref b, .int (nI x.2.1), .ref t1, .ref t2, .ref t3, .int (nI x.2.2.1), .int (nI (b2 B (x.2.2.1 + 6))), .ref t7, .ref t8, .ref ow])) ∧ h.2.2 t1 = some (true, .inl (1, 61, .inl gt)) ∧ h.2.2 t2 = some (true, .inl (1, 61, .inl ga)) ∧ (∀ j, j < 61 → gt j = nI (tg B x.1 x.2.1 j)) ∧ (∀ j, j < 61 → ga j = nI (st x.1 x.2.1 j)) ∧ ∃ w g, h.2.2 b = some (w, .inl (0, B.length, .inl g)) := by
  simp only [HF] at hF
  obtain ⟨b, t1, t2, t3, t7, a5, a6, t8, ow, gt, ga, gc, gx, gm, c1, c2, ⟨⟨w, g, c3, -⟩, -⟩, ⟨d1, d2, d3⟩, ⟨e1, e2, e3⟩, -⟩ := hF
  exact ⟨b, t1, t2, t3, t7, t8, ow, gt, ga, c1, d1, e1, d3, e3, w, g, c3⟩
theorem c_MH_first (hF : HF mu h f (B, x)) {i : Nat} (hi : i < 61) (hb : st x.1 x.2.1 i + 2 < B.length) : Ev (prog nb sa) m_MH_first [.ref f, .int (nI i)] h (some (.int (nI (b2 B (st x.1 x.2.1 i + 1))))) h := by
  obtain ⟨b, t1, t2, t3, t7, t8, ow, gt, ga, c1, c2, c3, c4, c5, -⟩ := hF.en
  obtain ⟨bb, hb2, -⟩ := hF.hb
  have ea : ga (nI i).toNatClampNeg = nI (st x.1 x.2.1 i) := by rw [nI_clamp (by omega)]; exact c5 i hi
  refine Ev_ofL k_MH_first 2 [some (.ref f), some (.int (nI i))] rfl (Nat.le_of_ble_eq_true rfl) rfl ?_
  refine Ex_mv rfl rfl ?_; refine Ex_mv rfl rfl ?_; refine Ex_getf rfl (by assumption) rfl ?_; refine Ex_mv rfl rfl ?_; refine Ex_iald rfl (by assumption) (vp_in_nI (by omega) (by decide)) ?_
  rw [ea]
  refine Ex_mv rfl rfl ?_; (first | refine Ex_addN rfl ?_ | refine Ex_mv rfl rfl ?_); refine Ex_invV rfl (by rfl) (by rfl) (by assumption) (by rfl) (c_MH_two hb2 (by omega)) ?_
  exact Ex_rt rfl rfl ⟨rfl, rfl⟩
theorem c_MH_second (hF : HF mu h f (B, x)) {i : Nat} (hi : i < 61) (hb : st x.1 x.2.1 i + 4 < B.length) : Ev (prog nb sa) m_MH_second [.ref f, .int (nI i)] h (some (.int (nI (b2 B (st x.1 x.2.1 i + 3))))) h := by
  obtain ⟨b, t1, t2, t3, t7, t8, ow, gt, ga, c1, c2, c3, c4, c5, -⟩ := hF.en
  obtain ⟨bb, hb2, -⟩ := hF.hb
  have ea : ga (nI i).toNatClampNeg = nI (st x.1 x.2.1 i) := by rw [nI_clamp (by omega)]; exact c5 i hi
  refine Ev_ofL k_MH_second 2 [some (.ref f), some (.int (nI i))] rfl (Nat.le_of_ble_eq_true rfl) rfl ?_
  refine Ex_mv rfl rfl ?_; refine Ex_mv rfl rfl ?_; refine Ex_getf rfl (by assumption) rfl ?_; refine Ex_mv rfl rfl ?_; refine Ex_iald rfl (by assumption) (vp_in_nI (by omega) (by decide)) ?_
  rw [ea]
  refine Ex_mv rfl rfl ?_; (first | refine Ex_addN rfl ?_ | refine Ex_mv rfl rfl ?_); refine Ex_invV rfl (by rfl) (by rfl) (by assumption) (by rfl) (c_MH_two hb2 (by omega)) ?_
  exact Ex_rt rfl rfl ⟨rfl, rfl⟩
theorem c_MH_bits (hF : HF mu h f (B, x)) (hG : GG B x) {i : Nat} (ht : 3 ≤ tg B x.1 x.2.1 i ∧ tg B x.1 x.2.1 i ≤ 6) : Ev (prog nb sa) m_MH_bits [.ref f, .int (nI i)] h (some (.long (bts B x.1 x.2.1 i))) h := by
  obtain ⟨y1, y2, y3, y4, -⟩ := hG.st11 (i := i) (by omega)
  obtain ⟨b, t1, t2, t3, t7, t8, ow, gt, ga, c1, c2, c3, c4, c5, -⟩ := hF.en
  obtain ⟨bb, hb2, -⟩ := hF.hb
  have ea : ga (nI i).toNatClampNeg = nI (st x.1 x.2.1 i) := by rw [nI_clamp (by omega)]; exact c5 i (by omega)
  have eg : gt (nI i).toNatClampNeg = nI (tg B x.1 x.2.1 i) := by rw [nI_clamp (by omega)]; exact c4 i (by omega)
  refine Ev_ofL k_MH_bits 3 [some (.ref f), some (.int (nI i)), none] rfl (Nat.le_of_ble_eq_true rfl) rfl ?_
  unfold bts
  rw [if_pos ht]
  by_cases h3 : tg B x.1 x.2.1 i = 3
  · rw [if_neg (by omega)]
    refine Ex_mv rfl rfl ?_; refine Ex_getf rfl (by assumption) rfl ?_; refine Ex_mv rfl rfl ?_; refine Ex_iald rfl (by assumption) (vp_in_nI (by omega) (by decide)) ?_
    rw [ea]
    refine Ex_mv rfl rfl ?_; (first | refine Ex_addN rfl ?_ | refine Ex_mv rfl rfl ?_); refine Ex_mv rfl rfl ?_; refine Ex_mv rfl rfl ?_; refine Ex_getf rfl (by assumption) rfl ?_; refine Ex_mv rfl rfl ?_; refine Ex_iald rfl (by assumption) (vp_in_nI (by omega) (by decide)) ?_
    rw [eg]
    refine Ex_mv rfl rfl ?_; refine Ex_mv rfl rfl ?_; refine Ex_ift (by rw [h3]) ?_; refine Ex_mv rfl rfl ?_; refine Ex_mv rfl rfl ?_; refine Ex_invV rfl (by rfl) (by rfl) (by assumption) (by rfl) (c_MH_four hb2 (by omega)) ?_; refine Ex_mv rfl rfl ?_; refine Ex_mv rfl rfl ?_
    exact Ex_rt rfl rfl ⟨rfl, rfl⟩
  · have n3 : ¬ nI (tg B x.1 x.2.1 i) = nI 3 := fun z => h3 ((nI_eq (by omega) (by decide)).mp z)
    by_cases h4 : tg B x.1 x.2.1 i = 4
    · rw [if_neg (by omega)]
      refine Ex_mv rfl rfl ?_; refine Ex_getf rfl (by assumption) rfl ?_; refine Ex_mv rfl rfl ?_; refine Ex_iald rfl (by assumption) (vp_in_nI (by omega) (by decide)) ?_
      rw [ea]
      refine Ex_mv rfl rfl ?_; (first | refine Ex_addN rfl ?_ | refine Ex_mv rfl rfl ?_); refine Ex_mv rfl rfl ?_; refine Ex_mv rfl rfl ?_; refine Ex_getf rfl (by assumption) rfl ?_; refine Ex_mv rfl rfl ?_; refine Ex_iald rfl (by assumption) (vp_in_nI (by omega) (by decide)) ?_
      rw [eg]
      refine Ex_mv rfl rfl ?_; refine Ex_mv rfl rfl ?_; refine Ex_iff n3 ?_; refine Ex_mv rfl rfl ?_; refine Ex_getf rfl (by assumption) rfl ?_; refine Ex_mv rfl rfl ?_; refine Ex_iald rfl (by assumption) (vp_in_nI (by omega) (by decide)) ?_
      rw [eg]
      refine Ex_mv rfl rfl ?_; refine Ex_mv rfl rfl ?_; refine Ex_iff (by rw [h4]; exact not_not_intro rfl) ?_; refine Ex_mv rfl rfl ?_; refine Ex_mv rfl rfl ?_; refine Ex_invV rfl (by rfl) (by rfl) (by assumption) (by rfl) (c_MH_four hb2 (by omega)) ?_; refine Ex_mv rfl rfl ?_; refine Ex_mv rfl rfl ?_
      exact Ex_rt rfl rfl ⟨rfl, rfl⟩
    · rw [if_pos (by omega)]
      refine Ex_mv rfl rfl ?_; refine Ex_getf rfl (by assumption) rfl ?_; refine Ex_mv rfl rfl ?_; refine Ex_iald rfl (by assumption) (vp_in_nI (by omega) (by decide)) ?_
      rw [ea]
      refine Ex_mv rfl rfl ?_; (first | refine Ex_addN rfl ?_ | refine Ex_mv rfl rfl ?_); refine Ex_mv rfl rfl ?_; refine Ex_mv rfl rfl ?_; refine Ex_getf rfl (by assumption) rfl ?_; refine Ex_mv rfl rfl ?_; refine Ex_iald rfl (by assumption) (vp_in_nI (by omega) (by decide)) ?_
      rw [eg]
      refine Ex_mv rfl rfl ?_; refine Ex_mv rfl rfl ?_; refine Ex_iff n3 ?_; refine Ex_mv rfl rfl ?_; refine Ex_getf rfl (by assumption) rfl ?_; refine Ex_mv rfl rfl ?_; refine Ex_iald rfl (by assumption) (vp_in_nI (by omega) (by decide)) ?_
      rw [eg]
      refine Ex_mv rfl rfl ?_; refine Ex_mv rfl rfl ?_; refine Ex_ift (fun z => h4 ((nI_eq (by omega) (by decide)).mp z)) ?_; refine Ex_mv rfl rfl ?_; refine Ex_mv rfl rfl ?_; refine Ex_invV rfl (by rfl) (by rfl) (by assumption) (by rfl) (c_MH_four hb2 (by omega)) ?_; refine Ex_mv rfl rfl ?_; refine Ex_mv rfl rfl ?_; refine Ex_lshl rfl ?_; refine Ex_mv rfl rfl ?_; refine Ex_mv rfl rfl ?_; refine Ex_mv rfl rfl ?_; (first | refine Ex_addN rfl ?_ | refine Ex_mv rfl rfl ?_); refine Ex_invV rfl (by rfl) (by rfl) (by assumption) (by rfl) (c_MH_four hb2 (by omega)) ?_; refine Ex_mv rfl rfl ?_; refine Ex_mv rfl rfl ?_; refine Ex_land rfl ?_; refine Ex_lor rfl ?_
      exact Ex_rt rfl rfl ⟨rfl, rfl⟩
variable {s : Sg} {c : Nat}
theorem c_MO_file (hS : MOs h m0 nb sa s c) (hG : SgG s) (f w : Int32) : EvQ (prog nb sa) m_MO_file [.ref m0, .int f, .int w] h (fun v h' => v = some (.int (match fA s.2.2.1 f with | none => -1 | some z => q_file z w)) ∧ MOs h' m0 nb sa s 0 ∧ FX m0 h h' 0 0) := by
  obtain ⟨h1, e1, k2, k3⟩ := c_MO_isFile (nb := nb) hS hG.2.2.2.1 f
  obtain ⟨O0, J0, nw0, a0, fl0, ms0, od0, oc0, hc0⟩ := hS.cell
  refine EvQ_of k_MO_file 4 [some (.ref m0), some (.int f), some (.int w), none] rfl (Nat.le_of_ble_eq_true rfl) rfl ?_
  rcases okF_cases s.2.2.1 f with ⟨z1, z2⟩ | ⟨k, z, rfl, hk, hk2, z3, z1, z2⟩
  · rw [z1]
    rw [z2] at e1
    refine Ex_mv rfl rfl ?_; refine Ex_mv rfl rfl ?_; refine Ex_invV rfl (by rfl) (by rfl) (by assumption) (by rfl) (e1) ?_; refine Ex_mv rfl rfl ?_; refine Ex_iff (not_not_intro (show nI 0 = 0 from rfl)) ?_; refine Ex_mv rfl rfl ?_
    refine Ex_rt rfl rfl ?_
    exact ⟨rfl, k2, k3⟩
  · rw [z1]
    rw [z2] at e1
    obtain ⟨O, J, nw, a', fl, ms, od, oc, gF, f, hc, hF1, hF2, hF⟩ := k2.file z3 hk2
    have hl6 := hG.2.2.2.1
    have hGz := hG.1 z (List.mem_of_getElem? z3)
    obtain ⟨g1, g2⟩ := hGz.bh_le
    have hF' : HF (muM m0) h1 f (z.1, z.2) := hF
    have hlt := hF'.lt.1
    have b6 := b2_lt hlt 6
    obtain ⟨b, t1, t2, t3, t7, t8, ow, o1, ⟨ou, og, o2, -⟩⟩ := hF'.ow
    obtain ⟨b0, t10, t20, t30, t70, t80, ow0, ak0, gm0, gc0, p1, -, -, -, p2, p3⟩ := hF'.kd (kk := 0) (by decide)
    obtain ⟨b9, t19, t29, t39, t79, t89, ow9, ak9, gm9, gc9, q1, -, -, -, q2, q3⟩ := hF'.kd (kk := 1) (by decide)
    obtain ⟨b5, t15, t25, t35, t75, t85, ow5, gt, ga, r1, -, -, -, -, wb, gb, r2⟩ := hF'.en
    obtain ⟨bb, hb2, -⟩ := hF'.hb
    have e0 : gc0 (nI (5 - 5)).toNatClampNeg = nI z.2.2.2.2.2.1.length := by rw [show (nI (5 - 5)).toNatClampNeg = 0 from by decide]; exact p3
    have e9 : gc9 (nI (6 - 5)).toNatClampNeg = nI z.2.2.2.2.2.2.1.length := by rw [show (nI (6 - 5)).toNatClampNeg = 1 from by decide]; exact q3
    have two6 := c_MH_two (nb := nb) (sa := sa) hb2 (p := 6) (by omega)
    have two4 := c_MH_two (nb := nb) (sa := sa) hb2 (p := 4) (by omega)
    have twob := c_MH_two (nb := nb) (sa := sa) hb2 (p := z.2.2.2.1) (by omega)
    by_cases w5 : w = nI 5
    · subst w5
      refine Ex_mv rfl rfl ?_; refine Ex_mv rfl rfl ?_; refine Ex_invV rfl (by rfl) (by rfl) (by assumption) (by rfl) (e1) ?_; refine Ex_mv rfl rfl ?_; refine Ex_ift (show ¬ nI 1 = 0 by decide) ?_; refine Ex_mv rfl rfl ?_; refine Ex_getf rfl (by assumption) rfl ?_; refine Ex_mv rfl rfl ?_; refine Ex_aald rfl (by assumption) rfl (vp_in_nI (by omega) (by decide)) hF2 ?_; refine Ex_mv rfl rfl ?_; refine Ex_mv rfl rfl ?_; refine Ex_mv rfl rfl ?_
      show Ex _ _ 105 _ _ _ _
      refine Ex_mv rfl rfl ?_; refine Ex_getf rfl p1 rfl ?_; refine Ex_mv rfl rfl ?_; refine Ex_mv rfl rfl ?_; (first | refine Ex_subN rfl (by omega) ?_ | refine Ex_mv rfl rfl ?_); refine Ex_iald rfl p2 (vp_in_nI (by decide) (by decide)) ?_
      refine Ex_rt rfl rfl ?_
      exact ⟨by rw [e0]; rfl, k2, k3⟩
    · by_cases w6 : w = nI 6
      · subst w6
        refine Ex_mv rfl rfl ?_; refine Ex_mv rfl rfl ?_; refine Ex_invV rfl (by rfl) (by rfl) (by assumption) (by rfl) (e1) ?_; refine Ex_mv rfl rfl ?_; refine Ex_ift (show ¬ nI 1 = 0 by decide) ?_; refine Ex_mv rfl rfl ?_; refine Ex_getf rfl (by assumption) rfl ?_; refine Ex_mv rfl rfl ?_; refine Ex_aald rfl (by assumption) rfl (vp_in_nI (by omega) (by decide)) hF2 ?_; refine Ex_mv rfl rfl ?_; refine Ex_mv rfl rfl ?_; refine Ex_mv rfl rfl ?_
        show Ex _ _ 105 _ _ _ _
        refine Ex_mv rfl rfl ?_; refine Ex_getf rfl q1 rfl ?_; refine Ex_mv rfl rfl ?_; refine Ex_mv rfl rfl ?_; (first | refine Ex_subN rfl (by omega) ?_ | refine Ex_mv rfl rfl ?_); refine Ex_iald rfl q2 (vp_in_nI (by decide) (by decide)) ?_
        refine Ex_rt rfl rfl ?_
        exact ⟨by rw [e9]; rfl, k2, k3⟩
      · refine Ex_mv rfl rfl ?_; refine Ex_mv rfl rfl ?_; refine Ex_invV rfl (by rfl) (by rfl) (by assumption) (by rfl) (e1) ?_; refine Ex_mv rfl rfl ?_; refine Ex_ift (show ¬ nI 1 = 0 by decide) ?_; refine Ex_mv rfl rfl ?_; refine Ex_getf rfl (by assumption) rfl ?_; refine Ex_mv rfl rfl ?_; refine Ex_aald rfl (by assumption) rfl (vp_in_nI (by omega) (by decide)) hF2 ?_; refine Ex_mv rfl rfl ?_; refine Ex_mv rfl rfl ?_; refine Ex_mv rfl rfl ?_
        (first | refine Ex_swN (k := 0) rfl (by omega) (by omega) (fun b18 => ?_) (fun b18_0 => ?_) | refine Ex_sw (fun b18 => ?_) (fun b18_0 => ?_))
        · refine Ex_mv rfl rfl ?_; refine Ex_getf rfl r1 rfl ?_; refine Ex_alen rfl r2 rfl ?_
          refine Ex_rt rfl rfl ?_
          exact ⟨by rw [b18]; rfl, k2, k3⟩
        (first | refine Ex_swN (k := 1) rfl (by omega) (by omega) (fun b18 => ?_) (fun b18_1 => ?_) | refine Ex_sw (fun b18 => ?_) (fun b18_1 => ?_))
        · refine Ex_mv rfl rfl ?_; refine Ex_mv rfl rfl ?_; refine Ex_invV rfl (by rfl) (by rfl) (by assumption) (by rfl) (two6) ?_; refine Ex_mv rfl rfl ?_; refine Ex_ishl rfl ?_
          rw [shl16 b6]
          refine Ex_mv rfl rfl ?_; refine Ex_mv rfl rfl ?_; refine Ex_invV rfl (by rfl) (by rfl) (by assumption) (by rfl) (two4) ?_; refine Ex_ior rfl ?_
          refine Ex_rt rfl rfl ?_
          exact ⟨by rw [b18, or16 (b2_lt hlt 4)]; rfl, k2, k3⟩
        (first | refine Ex_swN (k := 2) rfl (by omega) (by omega) (fun b18 => ?_) (fun b18_2 => ?_) | refine Ex_sw (fun b18 => ?_) (fun b18_2 => ?_))
        · refine Ex_mv rfl rfl ?_; refine Ex_getf rfl r1 rfl ?_
          refine Ex_rt rfl rfl ?_
          exact ⟨by rw [b18]; rfl, k2, k3⟩
        (first | refine Ex_swN (k := 3) rfl (by omega) (by omega) (fun b18 => ?_) (fun b18_3 => ?_) | refine Ex_sw (fun b18 => ?_) (fun b18_3 => ?_))
        · refine Ex_mv rfl rfl ?_; refine Ex_mv rfl rfl ?_; refine Ex_getf rfl r1 rfl ?_; refine Ex_invV rfl (by rfl) (by rfl) (by assumption) (by rfl) (twob) ?_
          refine Ex_rt rfl rfl ?_
          exact ⟨by rw [b18]; rfl, k2, k3⟩
        (first | refine Ex_swN (k := 4) rfl (by omega) (by omega) (fun b18 => ?_) (fun b18_4 => ?_) | refine Ex_sw (fun b18 => ?_) (fun b18_4 => ?_))
        · refine Ex_mv rfl rfl ?_; refine Ex_getf rfl r1 rfl ?_
          refine Ex_rt rfl rfl ?_
          exact ⟨by rw [b18]; rfl, k2, k3⟩
        (first | refine Ex_swN (k := 5) rfl (by omega) (by omega) (fun b18 => ?_) (fun b18_5 => ?_) | refine Ex_sw (fun b18 => ?_) (fun b18_5 => ?_))
        · first | exact absurd b18 w5 | exact absurd b18 w6
        (first | refine Ex_swN (k := 6) rfl (by omega) (by omega) (fun b18 => ?_) (fun b18_6 => ?_) | refine Ex_sw (fun b18 => ?_) (fun b18_6 => ?_))
        · first | exact absurd b18 w5 | exact absurd b18 w6
        (first | refine Ex_swN (k := 7) rfl (by omega) (by omega) (fun b18 => ?_) (fun b18_7 => ?_) | refine Ex_sw (fun b18 => ?_) (fun b18_7 => ?_))
        · refine Ex_mv rfl rfl ?_; refine Ex_getf rfl o1 rfl ?_; refine Ex_getf rfl o2 rfl ?_
          refine Ex_rt rfl rfl ?_
          exact ⟨by rw [b18]; rfl, k2, k3⟩
        refine Ex_sw0 ?_
        refine Ex_mv rfl rfl ?_
        refine Ex_rt rfl rfl ?_
        refine ⟨?_, k2, k3⟩; simp only [q_file]; rw [if_neg b18_0, if_neg b18_1, if_neg b18_2, if_neg b18_3, if_neg b18_4, if_neg b18_5, if_neg b18_6, if_neg b18_7]
end REFL
