/-! the other side: entry, number, text -/
section REFM
variable {nb sa : Nat} {m0 : Nat} {h : Hp} {s : Sg} {c : Nat}
theorem idx_in {i : Int32} {n : Nat} (hn : n < 2 ^ 31) : (if i < 0 then 0 else if i.toNatClampNeg < n then 1 else 0 : Nat) = (if i < 0 ∨ n ≤ i.toNatClampNeg then 0 else 1) := by
  by_cases h1 : i < 0
  · rw [if_pos h1, if_pos (Or.inl h1)]
  · rw [if_neg h1]
    by_cases h2 : i.toNatClampNeg < n
    · rw [if_pos h2, if_neg (fun q => q.elim h1 (fun y => by omega))]
    · rw [if_neg h2, if_pos (Or.inr (by omega))]
theorem c_MO_entry_ (hS : MOs h m0 nb sa s c) (hG : SgG s) (f i w : Int32) : EvQ (prog nb sa) m_MO_entry_ [.ref m0, .int f, .int i, .int w] h (fun v h' => v = some (.int (match fA s.2.2.1 f with | none => -1 | some z => q_entry z i w)) ∧ MOs h' m0 nb sa s 0 ∧ FX m0 h h' 0 0) := by
  obtain ⟨h1, e1, k2, k3⟩ := c_MO_isFile (nb := nb) hS hG.2.2.2.1 f
  obtain ⟨O0, J0, nw0, a0, fl0, ms0, od0, oc0, hc0⟩ := hS.cell
  refine EvQ_of k_MO_entry_ 6 [some (.ref m0), some (.int f), some (.int i), some (.int w), none, none] rfl (Nat.le_of_ble_eq_true rfl) rfl ?_
  rcases okF_cases s.2.2.1 f with ⟨z1, z2⟩ | ⟨k, z, rfl, hk, hk2, z3, z1, z2⟩
  · rw [z1]
    rw [z2] at e1
    refine Ex_mv rfl rfl ?_; refine Ex_mv rfl rfl ?_; refine Ex_invV rfl (by rfl) (by rfl) (by assumption) (by rfl) (e1) ?_; refine Ex_mv rfl rfl ?_; refine Ex_ift (show nI 0 = 0 from rfl) ?_; refine Ex_mv rfl rfl ?_
    refine Ex_rt rfl rfl ?_
    exact ⟨rfl, k2, k3⟩
  · rw [z1]
    rw [z2] at e1
    obtain ⟨O, J, nw, a', fl, ms, od, oc, gF, f, hc, hF1, hF2, hF⟩ := k2.file z3 hk2
    have hl6 := hG.2.2.2.1
    have hGz := hG.1 z (List.mem_of_getElem? z3)
    have hF' : HF (muM m0) h1 f (z.1, z.2) := hF
    have hlt := hF'.lt.1
    have hn61 : z.2.2.1 ≤ 61 := hGz.1.2.2.1
    obtain ⟨b5, t15, t25, t35, t75, t85, ow5, gt, ga, r1, r3, -, r4, -, wb, gb, r2⟩ := hF'.en
    have hin := c_MO_isIdx (nb := nb) (sa := sa) (h := h1) (v := i) (n := z.2.2.1) (by omega)
    rw [idx_in (by omega)] at hin
    simp only [q_entry]
    by_cases hq : i < 0 ∨ z.2.2.1 ≤ i.toNatClampNeg
    · rw [if_pos hq] at hin ⊢
      have n1 := hGz.1.1.2.2.2.2.2.2.2
      rw [show nI z.2.2.1 - nI 1 = nI (z.2.2.1 - 1) from pk_sub n1] at hin
      refine Ex_mv rfl rfl ?_; refine Ex_mv rfl rfl ?_; refine Ex_invV rfl (by rfl) (by rfl) (by assumption) (by rfl) (e1) ?_; refine Ex_mv rfl rfl ?_; refine Ex_iff (show ¬ nI 1 = 0 by decide) ?_; refine Ex_mv rfl rfl ?_; refine Ex_mv rfl rfl ?_; refine Ex_mv rfl rfl ?_; refine Ex_getf rfl (by assumption) rfl ?_; refine Ex_mv rfl rfl ?_; refine Ex_aald rfl (by assumption) rfl (vp_in_nI (by omega) (by decide)) hF2 ?_; refine Ex_getf rfl r1 rfl ?_; refine Ex_mv rfl rfl ?_; (first | refine Ex_subN rfl (by omega) ?_ | refine Ex_mv rfl rfl ?_); refine Ex_inv rfl (by rfl) (by rfl) (by rfl) (hin) ?_; refine Ex_mv rfl rfl ?_; refine Ex_iff (not_not_intro (show nI 0 = 0 from rfl)) ?_; refine Ex_mv rfl rfl ?_
      refine Ex_rt rfl rfl ?_
      exact ⟨rfl, k2, k3⟩
    · rw [if_neg hq] at hin ⊢
      have n1 := hGz.1.1.2.2.2.2.2.2.2
      rw [show nI z.2.2.1 - nI 1 = nI (z.2.2.1 - 1) from pk_sub n1] at hin
      rcases i32_cases i with hn | ⟨j, hj, rfl⟩
      · exact absurd (Or.inl hn) hq
      rw [nI_clamp hj] at hq ⊢
      have hj2 : j < z.2.2.1 := Nat.lt_of_not_le (fun y => hq (Or.inr y))
      have eg : gt (nI j).toNatClampNeg = nI (tg z.1 z.2.1 z.2.2.1 j) := by rw [nI_clamp hj]; exact r4 j (by omega)
      have htl := tg_lt (S := z.2.1) (n := z.2.2.1) hlt j
      have st1 : Ex (prog nb sa) k_MO_entry_ 46 [some (.ref m0), some (.int (nI k)), some (.int (nI j)), some (.int w), some (.ref f), some (.int (nI (tg z.1 z.2.1 z.2.2.1 j)))] [] h1 (fun v h' => v = some (.int (if w = 0 then nI (tg z.1 z.2.1 z.2.2.1 j) else if w = 1 then nI (fst1 z.1 z.2.1 z.2.2.1 j) else if w = 2 then nI (snd1 z.1 z.2.1 z.2.2.1 j) else if w = 3 then nI (tz z.1 z.2.1 z.2.2.1 j) else -2)) ∧ MOs h' m0 nb sa s 0 ∧ FX m0 h h' 0 0) := by
        by_cases c1 : tg z.1 z.2.1 z.2.2.1 j = 1
        · obtain ⟨b', t1', t2', t3', t7', t8', ow', gx, t, d1, d2, d3, ⟨⟨wt, gg, d4, d5, d6, d7⟩, d8⟩⟩ := hF'.tx (j := j) (by omega) c1
          have ex : gx (nI j).toNatClampNeg = some t := by rw [nI_clamp hj]; exact d3
          obtain ⟨y1, y2, y3, y4, y5, y6⟩ := hGz.st11 (i := j) (by omega)
          have etz : tz z.1 z.2.1 z.2.2.1 j = (tx z.1 z.2.1 z.2.2.1 j).length := by
            have := hGz.tv
            unfold tx
            have hsz := hGz.sz (i := j) (by omega)
            have hsj := (tg_at c1 (by decide))
            have : eSz z.1 (z.2.1 j) = 3 + b2 z.1 (z.2.1 j + 1) := if_pos hsj.2.2.1
            have e2 : tz z.1 z.2.1 z.2.2.1 j = b2 z.1 (z.2.1 j + 1) := by unfold tz tw; rw [if_pos c1, if_neg (by omega), hsj.2.2.2]
            rw [sl_len]
            have := hGz.bh_le
            have := hsj.2.2.2
            omega
          have e01 : fst1 z.1 z.2.1 z.2.2.1 j = 0 := if_neg (by omega)
          have e02 : snd1 z.1 z.2.1 z.2.2.1 j = 0 := if_neg (by omega)
          refine Ex_mv rfl rfl ?_; refine Ex_mv rfl rfl ?_
          (first | refine Ex_swN (k := 0) rfl (by omega) (by omega) (fun b47 => ?_) (fun b47_0 => ?_) | refine Ex_sw (fun b47 => ?_) (fun b47_0 => ?_))
          · refine Ex_mv rfl rfl ?_
            refine Ex_rt rfl rfl ?_
            exact ⟨by rw [if_pos b47], k2, k3⟩
          (first | refine Ex_swN (k := 1) rfl (by omega) (by omega) (fun b47 => ?_) (fun b47_1 => ?_) | refine Ex_sw (fun b47 => ?_) (fun b47_1 => ?_))
          · refine Ex_mv rfl rfl ?_; refine Ex_mv rfl rfl ?_; refine Ex_mv rfl rfl ?_; refine Ex_ift (nI_lt (by omega) (by decide)) ?_; refine Ex_mv rfl rfl ?_
            refine Ex_rt rfl rfl ?_
            exact ⟨by rw [if_neg b47_0, if_pos b47, e01], k2, k3⟩
          (first | refine Ex_swN (k := 2) rfl (by omega) (by omega) (fun b47 => ?_) (fun b47_2 => ?_) | refine Ex_sw (fun b47 => ?_) (fun b47_2 => ?_))
          · refine Ex_mv rfl rfl ?_; refine Ex_mv rfl rfl ?_; refine Ex_mv rfl rfl ?_; refine Ex_ift (nI_lt (by omega) (by decide)) ?_; refine Ex_mv rfl rfl ?_
            refine Ex_rt rfl rfl ?_
            exact ⟨by rw [if_neg b47_0, if_neg b47_1, if_pos b47, e02], k2, k3⟩
          (first | refine Ex_swN (k := 3) rfl (by omega) (by omega) (fun b47 => ?_) (fun b47_3 => ?_) | refine Ex_sw (fun b47 => ?_) (fun b47_3 => ?_))
          · refine Ex_mv rfl rfl ?_; refine Ex_mv rfl rfl ?_; refine Ex_mv rfl rfl ?_; refine Ex_iff (by rw [c1]; exact not_not_intro rfl) ?_; refine Ex_mv rfl rfl ?_; refine Ex_getf rfl d1 rfl ?_; refine Ex_mv rfl rfl ?_; refine Ex_aald rfl d2 rfl (vp_in_nI (by omega) (by decide)) ex ?_; refine Ex_alen rfl d4 rfl ?_; refine Ex_mv rfl rfl ?_
            refine Ex_rt rfl rfl ?_
            exact ⟨by rw [if_neg b47_0, if_neg b47_1, if_neg b47_2, if_pos b47, etz], k2, k3⟩
          refine Ex_sw0 ?_
          refine Ex_mv rfl rfl ?_
          refine Ex_rt rfl rfl ?_
          exact ⟨by rw [if_neg b47_0, if_neg b47_1, if_neg b47_2, if_neg b47_3], k2, k3⟩
        · have n1' : ¬ nI (tg z.1 z.2.1 z.2.2.1 j) = nI 1 := fun y => c1 ((nI_eq (by omega) (by decide)).mp y)
          have etz : tz z.1 z.2.1 z.2.2.1 j = 0 := if_neg c1
          have ef : ∃ v1 v2 : Nat, v1 = fst1 z.1 z.2.1 z.2.2.1 j ∧ v2 = snd1 z.1 z.2.1 z.2.2.1 j := ⟨_, _, rfl, rfl⟩
          by_cases c7 : 7 ≤ tg z.1 z.2.1 z.2.2.1 j
          · obtain ⟨y1, y2, y3, y4, y5, y6⟩ := hGz.st11 (i := j) (by omega)
            have e01 : fst1 z.1 z.2.1 z.2.2.1 j = b2 z.1 (st z.2.1 z.2.2.1 j + 1) := (if_pos c7).trans y5
            have f1 := c_MH_first (nb := nb) (sa := sa) hF' (i := j) (by omega) (show st z.2.1 z.2.2.1 j + 2 < z.1.length by omega)
            by_cases c9 : 9 ≤ tg z.1 z.2.1 z.2.2.1 j
            · have e02 : snd1 z.1 z.2.1 z.2.2.1 j = b2 z.1 (st z.2.1 z.2.2.1 j + 3) := (if_pos c9).trans y6
              have f2 := c_MH_second (nb := nb) (sa := sa) hF' (i := j) (by omega) (show st z.2.1 z.2.2.1 j + 4 < z.1.length by omega)
              refine Ex_mv rfl rfl ?_; refine Ex_mv rfl rfl ?_
              (first | refine Ex_swN (k := 0) rfl (by omega) (by omega) (fun b47 => ?_) (fun b47_0 => ?_) | refine Ex_sw (fun b47 => ?_) (fun b47_0 => ?_))
              · refine Ex_mv rfl rfl ?_
                refine Ex_rt rfl rfl ?_
                exact ⟨by rw [if_pos b47], k2, k3⟩
              (first | refine Ex_swN (k := 1) rfl (by omega) (by omega) (fun b47 => ?_) (fun b47_1 => ?_) | refine Ex_sw (fun b47 => ?_) (fun b47_1 => ?_))
              · refine Ex_mv rfl rfl ?_; refine Ex_mv rfl rfl ?_; refine Ex_mv rfl rfl ?_; refine Ex_iff (nI_nlt (by omega) (by omega)) ?_; refine Ex_mv rfl rfl ?_; refine Ex_mv rfl rfl ?_; refine Ex_invV rfl (by rfl) (by rfl) (by assumption) (by rfl) (f1) ?_; refine Ex_mv rfl rfl ?_
                refine Ex_rt rfl rfl ?_
                exact ⟨by rw [if_neg b47_0, if_pos b47, e01], k2, k3⟩
              (first | refine Ex_swN (k := 2) rfl (by omega) (by omega) (fun b47 => ?_) (fun b47_2 => ?_) | refine Ex_sw (fun b47 => ?_) (fun b47_2 => ?_))
              · refine Ex_mv rfl rfl ?_; refine Ex_mv rfl rfl ?_; refine Ex_mv rfl rfl ?_; refine Ex_iff (nI_nlt (by omega) (by omega)) ?_; refine Ex_mv rfl rfl ?_; refine Ex_mv rfl rfl ?_; refine Ex_invV rfl (by rfl) (by rfl) (by assumption) (by rfl) (f2) ?_; refine Ex_mv rfl rfl ?_
                refine Ex_rt rfl rfl ?_
                exact ⟨by rw [if_neg b47_0, if_neg b47_1, if_pos b47, e02], k2, k3⟩
              (first | refine Ex_swN (k := 3) rfl (by omega) (by omega) (fun b47 => ?_) (fun b47_3 => ?_) | refine Ex_sw (fun b47 => ?_) (fun b47_3 => ?_))
              · refine Ex_mv rfl rfl ?_; refine Ex_mv rfl rfl ?_; refine Ex_mv rfl rfl ?_; refine Ex_ift n1' ?_; refine Ex_mv rfl rfl ?_
                refine Ex_rt rfl rfl ?_
                exact ⟨by rw [if_neg b47_0, if_neg b47_1, if_neg b47_2, if_pos b47, etz], k2, k3⟩
              refine Ex_sw0 ?_
              refine Ex_mv rfl rfl ?_
              refine Ex_rt rfl rfl ?_
              exact ⟨by rw [if_neg b47_0, if_neg b47_1, if_neg b47_2, if_neg b47_3], k2, k3⟩
            · have e02 : snd1 z.1 z.2.1 z.2.2.1 j = 0 := if_neg c9
              refine Ex_mv rfl rfl ?_; refine Ex_mv rfl rfl ?_
              (first | refine Ex_swN (k := 0) rfl (by omega) (by omega) (fun b47 => ?_) (fun b47_0 => ?_) | refine Ex_sw (fun b47 => ?_) (fun b47_0 => ?_))
              · refine Ex_mv rfl rfl ?_
                refine Ex_rt rfl rfl ?_
                exact ⟨by rw [if_pos b47], k2, k3⟩
              (first | refine Ex_swN (k := 1) rfl (by omega) (by omega) (fun b47 => ?_) (fun b47_1 => ?_) | refine Ex_sw (fun b47 => ?_) (fun b47_1 => ?_))
              · refine Ex_mv rfl rfl ?_; refine Ex_mv rfl rfl ?_; refine Ex_mv rfl rfl ?_; refine Ex_iff (nI_nlt (by omega) (by omega)) ?_; refine Ex_mv rfl rfl ?_; refine Ex_mv rfl rfl ?_; refine Ex_invV rfl (by rfl) (by rfl) (by assumption) (by rfl) (f1) ?_; refine Ex_mv rfl rfl ?_
                refine Ex_rt rfl rfl ?_
                exact ⟨by rw [if_neg b47_0, if_pos b47, e01], k2, k3⟩
              (first | refine Ex_swN (k := 2) rfl (by omega) (by omega) (fun b47 => ?_) (fun b47_2 => ?_) | refine Ex_sw (fun b47 => ?_) (fun b47_2 => ?_))
              · refine Ex_mv rfl rfl ?_; refine Ex_mv rfl rfl ?_; refine Ex_mv rfl rfl ?_; refine Ex_ift (nI_lt (by omega) (by omega)) ?_; refine Ex_mv rfl rfl ?_
                refine Ex_rt rfl rfl ?_
                exact ⟨by rw [if_neg b47_0, if_neg b47_1, if_pos b47, e02], k2, k3⟩
              (first | refine Ex_swN (k := 3) rfl (by omega) (by omega) (fun b47 => ?_) (fun b47_3 => ?_) | refine Ex_sw (fun b47 => ?_) (fun b47_3 => ?_))
              · refine Ex_mv rfl rfl ?_; refine Ex_mv rfl rfl ?_; refine Ex_mv rfl rfl ?_; refine Ex_ift n1' ?_; refine Ex_mv rfl rfl ?_
                refine Ex_rt rfl rfl ?_
                exact ⟨by rw [if_neg b47_0, if_neg b47_1, if_neg b47_2, if_pos b47, etz], k2, k3⟩
              refine Ex_sw0 ?_
              refine Ex_mv rfl rfl ?_
              refine Ex_rt rfl rfl ?_
              exact ⟨by rw [if_neg b47_0, if_neg b47_1, if_neg b47_2, if_neg b47_3], k2, k3⟩
          · have e01 : fst1 z.1 z.2.1 z.2.2.1 j = 0 := if_neg c7
            have e02 : snd1 z.1 z.2.1 z.2.2.1 j = 0 := if_neg (by omega)
            refine Ex_mv rfl rfl ?_; refine Ex_mv rfl rfl ?_
            (first | refine Ex_swN (k := 0) rfl (by omega) (by omega) (fun b47 => ?_) (fun b47_0 => ?_) | refine Ex_sw (fun b47 => ?_) (fun b47_0 => ?_))
            · refine Ex_mv rfl rfl ?_
              refine Ex_rt rfl rfl ?_
              exact ⟨by rw [if_pos b47], k2, k3⟩
            (first | refine Ex_swN (k := 1) rfl (by omega) (by omega) (fun b47 => ?_) (fun b47_1 => ?_) | refine Ex_sw (fun b47 => ?_) (fun b47_1 => ?_))
            · refine Ex_mv rfl rfl ?_; refine Ex_mv rfl rfl ?_; refine Ex_mv rfl rfl ?_; refine Ex_ift (nI_lt (by omega) (by omega)) ?_; refine Ex_mv rfl rfl ?_
              refine Ex_rt rfl rfl ?_
              exact ⟨by rw [if_neg b47_0, if_pos b47, e01], k2, k3⟩
            (first | refine Ex_swN (k := 2) rfl (by omega) (by omega) (fun b47 => ?_) (fun b47_2 => ?_) | refine Ex_sw (fun b47 => ?_) (fun b47_2 => ?_))
            · refine Ex_mv rfl rfl ?_; refine Ex_mv rfl rfl ?_; refine Ex_mv rfl rfl ?_; refine Ex_ift (nI_lt (by omega) (by omega)) ?_; refine Ex_mv rfl rfl ?_
              refine Ex_rt rfl rfl ?_
              exact ⟨by rw [if_neg b47_0, if_neg b47_1, if_pos b47, e02], k2, k3⟩
            (first | refine Ex_swN (k := 3) rfl (by omega) (by omega) (fun b47 => ?_) (fun b47_3 => ?_) | refine Ex_sw (fun b47 => ?_) (fun b47_3 => ?_))
            · refine Ex_mv rfl rfl ?_; refine Ex_mv rfl rfl ?_; refine Ex_mv rfl rfl ?_; refine Ex_ift n1' ?_; refine Ex_mv rfl rfl ?_
              refine Ex_rt rfl rfl ?_
              exact ⟨by rw [if_neg b47_0, if_neg b47_1, if_neg b47_2, if_pos b47, etz], k2, k3⟩
            refine Ex_sw0 ?_
            refine Ex_mv rfl rfl ?_
            refine Ex_rt rfl rfl ?_
            exact ⟨by rw [if_neg b47_0, if_neg b47_1, if_neg b47_2, if_neg b47_3], k2, k3⟩
      refine Ex_mv rfl rfl ?_; refine Ex_mv rfl rfl ?_; refine Ex_invV rfl (by rfl) (by rfl) (by assumption) (by rfl) (e1) ?_; refine Ex_mv rfl rfl ?_; refine Ex_iff (show ¬ nI 1 = 0 by decide) ?_; refine Ex_mv rfl rfl ?_; refine Ex_mv rfl rfl ?_; refine Ex_mv rfl rfl ?_; refine Ex_getf rfl (by assumption) rfl ?_; refine Ex_mv rfl rfl ?_; refine Ex_aald rfl (by assumption) rfl (vp_in_nI (by omega) (by decide)) hF2 ?_; refine Ex_getf rfl r1 rfl ?_; refine Ex_mv rfl rfl ?_; (first | refine Ex_subN rfl (by omega) ?_ | refine Ex_mv rfl rfl ?_); refine Ex_inv rfl (by rfl) (by rfl) (by rfl) (hin) ?_; refine Ex_mv rfl rfl ?_; refine Ex_ift (show ¬ nI 1 = 0 by decide) ?_; refine Ex_mv rfl rfl ?_; refine Ex_getf rfl (by assumption) rfl ?_; refine Ex_mv rfl rfl ?_; refine Ex_aald rfl (by assumption) rfl (vp_in_nI (by omega) (by decide)) hF2 ?_; refine Ex_mv rfl rfl ?_; refine Ex_mv rfl rfl ?_; refine Ex_getf rfl r1 rfl ?_; refine Ex_mv rfl rfl ?_; refine Ex_iald rfl r3 (vp_in_nI (by omega) (by decide)) ?_
      rw [eg]
      refine Ex_mv rfl rfl ?_
      exact st1
theorem MOs.setc (hS : MOs h m0 nb sa s c) (c' : Nat) : ∃ h1, (∀ O J nw a' fl ms od oc, h.2.2 m0 = some (true, .inr (11, MOl m0 c s O J nw a' fl ms od oc)) → h1 = hset h m0 (.inr (11, MOl m0 c' s O J nw a' fl ms od oc))) ∧ MOs h1 m0 nb sa s c' ∧ FX m0 h h1 0 0 := by
  obtain ⟨O, J, nw, a', fl, ms, od, oc, h1, h2⟩ := hS
  refine ⟨_, fun O' J' nw' a'' fl' ms' od' oc' e => ?_, ⟨O, J, nw, a', fl, ms, od, oc, hs_at, h2.m0⟩, FX.m⟩
  rw [h1] at e
  simp only [Option.some.injEq, Prod.mk.injEq, Sum.inr.injEq, true_and, List.cons.injEq, Value.int.injEq, Value.ref.injEq, and_true] at e
  obtain ⟨y0, y1, y2, y3, y4, y5, y6, y7⟩ := e
  rw [y0, y1, y2, y3, y4, y5, y6, y7]
theorem c_MO_number (hS : MOs h m0 nb sa s c) (hG : SgG s) (f i : Int32) : EvQ (prog nb sa) m_MO_number [.ref m0, .int f, .int i] h (fun v h' => v = some (.long (q_num (fA s.2.2.1 f) i).2) ∧ MOs h' m0 nb sa s (q_num (fA s.2.2.1 f) i).1 ∧ FX m0 h h' 0 0) := by
  obtain ⟨h1, e1, k2, k3⟩ := c_MO_isFile (nb := nb) hS hG.2.2.2.1 f
  obtain ⟨O0, J0, nw0, a0, fl0, ms0, od0, oc0, hc0⟩ := hS.cell
  obtain ⟨Oa, Ja, nwa, aa, fla, msa, oda, oca, hca⟩ := k2.cell
  refine EvQ_of k_MO_number 4 [some (.ref m0), some (.int f), some (.int i), none] rfl (Nat.le_of_ble_eq_true rfl) rfl ?_
  rcases okF_cases s.2.2.1 f with ⟨z1, z2⟩ | ⟨k, z, rfl, hk, hk2, z3, z1, z2⟩
  · rw [z1]
    rw [z2] at e1
    obtain ⟨h2, l1, l2, l3⟩ := k2.setc 1
    have := l1 _ _ _ _ _ _ _ _ hca
    subst this
    refine Ex_mv rfl rfl ?_; refine Ex_mv rfl rfl ?_; refine Ex_invV rfl (by rfl) (by rfl) (by assumption) (by rfl) (e1) ?_; refine Ex_mv rfl rfl ?_; refine Ex_iff (not_not_intro (show nI 0 = 0 from rfl)) ?_; refine Ex_mv rfl rfl ?_; refine Ex_mv rfl rfl ?_; refine Ex_putf rfl (by assumption) rfl rfl ?_; refine Ex_mv rfl rfl ?_
    refine Ex_rt rfl rfl ?_
    exact ⟨rfl, l2, k3.tr l3⟩
  · rw [z1]
    rw [z2] at e1
    obtain ⟨O, J, nw, a', fl, ms, od, oc, gF, f, hc, hF1, hF2, hF⟩ := k2.file z3 hk2
    have hl6 := hG.2.2.2.1
    have hGz := hG.1 z (List.mem_of_getElem? z3)
    have hF' : HF (muM m0) h1 f (z.1, z.2) := hF
    have hlt := hF'.lt.1
    have hn61 : z.2.2.1 ≤ 61 := hGz.1.2.2.1
    obtain ⟨b5, t15, t25, t35, t75, t85, ow5, gt, ga, r1, r3, -, r4, -, wb, gb, r2⟩ := hF'.en
    have hin := c_MO_isIdx (nb := nb) (sa := sa) (h := h1) (v := i) (n := z.2.2.1) (by omega)
    rw [idx_in (by omega)] at hin
    have n1 := hGz.1.1.2.2.2.2.2.2.2
    rw [show nI z.2.2.1 - nI 1 = nI (z.2.2.1 - 1) from pk_sub n1] at hin
    have fin : ∀ (cc : Nat), cc ≠ 0 → cc < 5 → ∀ x3 : Option Value, Ex (prog nb sa) k_MO_number 74 [some (.ref m0), some (.int (nI k)), some (.int i), x3] [.int (nI cc), .ref m0] h1 (fun v h' => v = some (.long 0) ∧ MOs h' m0 nb sa s cc ∧ FX m0 h h' 0 0) := by
      intro cc hcc hcc5 x3
      obtain ⟨h2, l1, l2, l3⟩ := k2.setc cc
      have := l1 _ _ _ _ _ _ _ _ hc
      subst this
      refine Ex_putf rfl hc rfl rfl ?_; refine Ex_mv rfl rfl ?_; refine Ex_getf rfl hs_at rfl ?_; refine Ex_mv rfl rfl ?_; refine Ex_ift (nI_nz hcc (by omega)) ?_; refine Ex_mv rfl rfl ?_
      refine Ex_rt rfl rfl ?_
      exact ⟨rfl, l2, k3.tr l3⟩
    simp only [q_num]
    by_cases hq : i < 0 ∨ z.2.2.1 ≤ i.toNatClampNeg
    · rw [if_pos hq] at hin ⊢
      refine Ex_mv rfl rfl ?_; refine Ex_mv rfl rfl ?_; refine Ex_invV rfl (by rfl) (by rfl) (by assumption) (by rfl) (e1) ?_; refine Ex_mv rfl rfl ?_; refine Ex_ift (show ¬ nI 1 = 0 by decide) ?_; refine Ex_mv rfl rfl ?_; refine Ex_getf rfl (by assumption) rfl ?_; refine Ex_mv rfl rfl ?_; refine Ex_aald rfl (by assumption) rfl (vp_in_nI (by omega) (by decide)) hF2 ?_; refine Ex_mv rfl rfl ?_; refine Ex_mv rfl rfl ?_; refine Ex_mv rfl rfl ?_; refine Ex_mv rfl rfl ?_; refine Ex_mv rfl rfl ?_; refine Ex_getf rfl r1 rfl ?_; refine Ex_mv rfl rfl ?_; (first | refine Ex_subN rfl (by omega) ?_ | refine Ex_mv rfl rfl ?_); refine Ex_inv rfl (by rfl) (by rfl) (by rfl) (hin) ?_; refine Ex_mv rfl rfl ?_; refine Ex_iff (not_not_intro (show nI 0 = 0 from rfl)) ?_; refine Ex_mv rfl rfl ?_; refine Ex_mv rfl rfl ?_
      exact fin 2 (by decide) (by decide) _
    · rw [if_neg hq] at hin ⊢
      rcases i32_cases i with hn | ⟨j, hj, rfl⟩
      · exact absurd (Or.inl hn) hq
      rw [nI_clamp hj] at hq ⊢
      have hj2 : j < z.2.2.1 := Nat.lt_of_not_le (fun y => hq (Or.inr y))
      have eg : gt (nI j).toNatClampNeg = nI (tg z.1 z.2.1 z.2.2.1 j) := by rw [nI_clamp hj]; exact r4 j (by omega)
      have htl := tg_lt (S := z.2.1) (n := z.2.2.1) hlt j
      have hin2 := c_MO_isIn (nb := nb) (sa := sa) (h := h1) (v := tg z.1 z.2.1 z.2.2.1 j) (lo := 3) (hi := 6) (by omega) (by decide) (by decide)
      by_cases c0 : tg z.1 z.2.1 z.2.2.1 j = 0
      · rw [if_pos c0]
        rw [c0] at eg
        refine Ex_mv rfl rfl ?_; refine Ex_mv rfl rfl ?_; refine Ex_invV rfl (by rfl) (by rfl) (by assumption) (by rfl) (e1) ?_; refine Ex_mv rfl rfl ?_; refine Ex_ift (show ¬ nI 1 = 0 by decide) ?_; refine Ex_mv rfl rfl ?_; refine Ex_getf rfl (by assumption) rfl ?_; refine Ex_mv rfl rfl ?_; refine Ex_aald rfl (by assumption) rfl (vp_in_nI (by omega) (by decide)) hF2 ?_; refine Ex_mv rfl rfl ?_; refine Ex_mv rfl rfl ?_; refine Ex_mv rfl rfl ?_; refine Ex_mv rfl rfl ?_; refine Ex_mv rfl rfl ?_; refine Ex_getf rfl r1 rfl ?_; refine Ex_mv rfl rfl ?_; (first | refine Ex_subN rfl (by omega) ?_ | refine Ex_mv rfl rfl ?_); refine Ex_inv rfl (by rfl) (by rfl) (by rfl) (hin) ?_; refine Ex_mv rfl rfl ?_; refine Ex_ift (show ¬ nI 1 = 0 by decide) ?_; refine Ex_mv rfl rfl ?_; refine Ex_getf rfl r1 rfl ?_; refine Ex_mv rfl rfl ?_; refine Ex_iald rfl r3 (vp_in_nI (by omega) (by decide)) ?_
        rw [eg]
        refine Ex_mv rfl rfl ?_; refine Ex_iff (not_not_intro (show nI 0 = 0 from rfl)) ?_; refine Ex_mv rfl rfl ?_; refine Ex_mv rfl rfl ?_
        exact fin 3 (by decide) (by decide) _
      · rw [if_neg c0]
        have n0 : ¬ nI (tg z.1 z.2.1 z.2.2.1 j) = 0 := nI_nz c0 (by omega)
        by_cases c3 : 3 ≤ tg z.1 z.2.1 z.2.2.1 j ∧ tg z.1 z.2.1 z.2.2.1 j ≤ 6
        · rw [if_pos c3] at hin2 ⊢
          obtain ⟨h2, l1, l2, l3⟩ := k2.setc 0
          have := l1 _ _ _ _ _ _ _ _ hc
          subst this
          have hF2' := hF'.pf l3.1.1
          have fb := c_MH_bits (nb := nb) (sa := sa) hF2' hGz (i := j) c3
          obtain ⟨b6, t16, t26, t36, t76, t86, ow6, gt6, ga6, r16, -⟩ := hF2'.en
          refine Ex_mv rfl rfl ?_; refine Ex_mv rfl rfl ?_; refine Ex_invV rfl (by rfl) (by rfl) (by assumption) (by rfl) (e1) ?_; refine Ex_mv rfl rfl ?_; refine Ex_ift (show ¬ nI 1 = 0 by decide) ?_; refine Ex_mv rfl rfl ?_; refine Ex_getf rfl (by assumption) rfl ?_; refine Ex_mv rfl rfl ?_; refine Ex_aald rfl (by assumption) rfl (vp_in_nI (by omega) (by decide)) hF2 ?_; refine Ex_mv rfl rfl ?_; refine Ex_mv rfl rfl ?_; refine Ex_mv rfl rfl ?_; refine Ex_mv rfl rfl ?_; refine Ex_mv rfl rfl ?_; refine Ex_getf rfl r1 rfl ?_; refine Ex_mv rfl rfl ?_; (first | refine Ex_subN rfl (by omega) ?_ | refine Ex_mv rfl rfl ?_); refine Ex_inv rfl (by rfl) (by rfl) (by rfl) (hin) ?_; refine Ex_mv rfl rfl ?_; refine Ex_ift (show ¬ nI 1 = 0 by decide) ?_; refine Ex_mv rfl rfl ?_; refine Ex_getf rfl r1 rfl ?_; refine Ex_mv rfl rfl ?_; refine Ex_iald rfl r3 (vp_in_nI (by omega) (by decide)) ?_
          rw [eg]
          refine Ex_mv rfl rfl ?_; refine Ex_ift n0 ?_; refine Ex_mv rfl rfl ?_; refine Ex_getf rfl r1 rfl ?_; refine Ex_mv rfl rfl ?_; refine Ex_iald rfl r3 (vp_in_nI (by omega) (by decide)) ?_
          rw [eg]
          refine Ex_mv rfl rfl ?_; refine Ex_mv rfl rfl ?_; refine Ex_inv rfl (by rfl) (by rfl) (by rfl) (hin2) ?_; refine Ex_mv rfl rfl ?_; refine Ex_ift (show ¬ nI 1 = 0 by decide) ?_; refine Ex_mv rfl rfl ?_; refine Ex_putf rfl hc rfl rfl ?_; refine Ex_mv rfl rfl ?_; refine Ex_getf rfl hs_at rfl ?_; refine Ex_mv rfl rfl ?_; refine Ex_iff (not_not_intro (show nI 0 = 0 from rfl)) ?_; refine Ex_mv rfl rfl ?_; refine Ex_mv rfl rfl ?_; refine Ex_invV rfl (by rfl) (by rfl) (by assumption) (by rfl) (fb) ?_; refine Ex_mv rfl rfl ?_
          refine Ex_rt rfl rfl ?_
          exact ⟨rfl, l2, k3.tr l3⟩
        · rw [if_neg c3] at hin2 ⊢
          refine Ex_mv rfl rfl ?_; refine Ex_mv rfl rfl ?_; refine Ex_invV rfl (by rfl) (by rfl) (by assumption) (by rfl) (e1) ?_; refine Ex_mv rfl rfl ?_; refine Ex_ift (show ¬ nI 1 = 0 by decide) ?_; refine Ex_mv rfl rfl ?_; refine Ex_getf rfl (by assumption) rfl ?_; refine Ex_mv rfl rfl ?_; refine Ex_aald rfl (by assumption) rfl (vp_in_nI (by omega) (by decide)) hF2 ?_; refine Ex_mv rfl rfl ?_; refine Ex_mv rfl rfl ?_; refine Ex_mv rfl rfl ?_; refine Ex_mv rfl rfl ?_; refine Ex_mv rfl rfl ?_; refine Ex_getf rfl r1 rfl ?_; refine Ex_mv rfl rfl ?_; (first | refine Ex_subN rfl (by omega) ?_ | refine Ex_mv rfl rfl ?_); refine Ex_inv rfl (by rfl) (by rfl) (by rfl) (hin) ?_; refine Ex_mv rfl rfl ?_; refine Ex_ift (show ¬ nI 1 = 0 by decide) ?_; refine Ex_mv rfl rfl ?_; refine Ex_getf rfl r1 rfl ?_; refine Ex_mv rfl rfl ?_; refine Ex_iald rfl r3 (vp_in_nI (by omega) (by decide)) ?_
          rw [eg]
          refine Ex_mv rfl rfl ?_; refine Ex_ift n0 ?_; refine Ex_mv rfl rfl ?_; refine Ex_getf rfl r1 rfl ?_; refine Ex_mv rfl rfl ?_; refine Ex_iald rfl r3 (vp_in_nI (by omega) (by decide)) ?_
          rw [eg]
          refine Ex_mv rfl rfl ?_; refine Ex_mv rfl rfl ?_; refine Ex_inv rfl (by rfl) (by rfl) (by rfl) (hin2) ?_; refine Ex_mv rfl rfl ?_; refine Ex_iff (not_not_intro (show nI 0 = 0 from rfl)) ?_; refine Ex_mv rfl rfl ?_; refine Ex_mv rfl rfl ?_
          exact fin 4 (by decide) (by decide) _
theorem c_MO_shows {t : Nat} {T : List Nat} (hS : MOs h m0 nb sa s c) (hT : BAk (muM m0) h t T) : EvQ (prog nb sa) m_MO_shows [.ref m0, .ref t] h (fun v h' => v = some (.int (shw T).1) ∧ MOs h' m0 nb sa (s.1, (shw T).2, s.2.2) c ∧ FX m0 h h' 0 0) := by
  obtain ⟨O, J, nw, a', fl, ms, od, oc, hc, hR⟩ := hS
  obtain ⟨⟨w, g, t1, t2⟩, t3⟩ := id hT
  have tn : t ≠ m0 := fun e => t3.2 (by simp [muM, e])
  have t4 : ∀ z, (hset h m0 z).2.2 t = _ := fun z => hs_ne tn t1
  have F : FX m0 h (hset h m0 (.inr (11, MOl m0 c (s.1, T, s.2.2) t J nw a' fl ms od oc))) 0 0 := FX.m
  refine EvQ_of k_MO_shows 2 [some (.ref m0), some (.ref t)] rfl (Nat.le_of_ble_eq_true rfl) rfl ?_
  refine Ex_mv rfl rfl ?_; refine Ex_mv rfl rfl ?_; refine Ex_putf rfl hc rfl rfl ?_; refine Ex_mv rfl rfl ?_; refine Ex_alen rfl (t4 _) rfl ?_
  refine Ex_rt rfl rfl ?_
  exact ⟨rfl, ⟨t, J, nw, a', fl, ms, od, oc, hs_at, (hR.sh hT).m0⟩, F⟩
end REFM
