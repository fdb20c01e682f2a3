/-! the other side: text, member -/
section REFN
variable {nb sa : Nat} {m0 : Nat} {h : Hp} {s : Sg} {c : Nat}
theorem c_MO_text (hS : MOs h m0 nb sa s c) (hG : SgG s) (f i w : Int32) : EvQ (prog nb sa) m_MO_text [.ref m0, .int f, .int i, .int w] h (fun v h' => v = some (.int (match fA s.2.2.1 f with | none => (-1, s.2.1) | some z => q_text z i w s.2.1).1) ∧ MOs h' m0 nb sa (s.1, (match fA s.2.2.1 f with | none => (-1, s.2.1) | some z => q_text z i w s.2.1).2, s.2.2) 0 ∧ FX m0 h h' 0 0) := by
  obtain ⟨h1, e1, k2, k3⟩ := c_MO_isFile (nb := nb) hS hG.2.2.2.1 f
  obtain ⟨O0, J0, nw0, a0, fl0, ms0, od0, oc0, hc0⟩ := hS.cell
  refine EvQ_of k_MO_text 6 [some (.ref m0), some (.int f), some (.int i), some (.int w), none, none] rfl (Nat.le_of_ble_eq_true rfl) rfl ?_
  rcases okF_cases s.2.2.1 f with ⟨z1, z2⟩ | ⟨k, z, rfl, hk, hk2, z3, z1, z2⟩
  · rw [z1]
    rw [z2] at e1
    refine Ex_mv rfl rfl ?_; refine Ex_mv rfl rfl ?_; refine Ex_invV rfl (by rfl) (by rfl) (by assumption) (by rfl) (e1) ?_; refine Ex_mv rfl rfl ?_; refine Ex_iff (not_not_intro (show nI 0 = 0 from rfl)) ?_; refine Ex_mv rfl rfl ?_
    refine Ex_rt rfl rfl ?_
    exact ⟨rfl, k2, k3⟩
  · rw [z1]
    rw [z2] at e1
    simp only
    have hin := c_MO_isInI (nb := nb) (sa := sa) (h := h1) (v := w) (lo := nI 0) (hi := nI 2)
    obtain ⟨O, J, nw, a', fl, ms, od, oc, gF, f, hc, hF1, hF2, hF⟩ := k2.file z3 hk2
    by_cases hw : w < 0 ∨ nI 2 < w
    · rw [if_pos (show w < nI 0 ∨ nI 2 < w from hw)] at hin
      have eq : q_text z i w s.2.1 = (-2, s.2.1) := if_pos hw
      rw [eq]
      refine Ex_mv rfl rfl ?_; refine Ex_mv rfl rfl ?_; refine Ex_invV rfl (by rfl) (by rfl) (by assumption) (by rfl) (e1) ?_; refine Ex_mv rfl rfl ?_; refine Ex_ift (show ¬ nI 1 = 0 by decide) ?_; refine Ex_mv rfl rfl ?_; refine Ex_mv rfl rfl ?_; refine Ex_mv rfl rfl ?_; refine Ex_inv rfl (by rfl) (by rfl) (by rfl) (hin) ?_; refine Ex_mv rfl rfl ?_; refine Ex_iff (not_not_intro (show nI 0 = 0 from rfl)) ?_; refine Ex_mv rfl rfl ?_
      refine Ex_rt rfl rfl ?_
      exact ⟨rfl, k2, k3⟩
    · rw [if_neg (show ¬ (w < nI 0 ∨ nI 2 < w) from hw)] at hin
      have hl6 := hG.2.2.2.1
      have hGz := hG.1 z (List.mem_of_getElem? z3)
      have hF' : HF (muM m0) h1 f (z.1, z.2) := hF
      have hlt := hF'.lt.1
      have hn61 : z.2.2.1 ≤ 61 := hGz.1.2.2.1
      have hw1 : ¬ w < 0 := fun q => hw (Or.inl q)
      have hw2 : w ≤ nI 2 := by
        rcases Int32.le_total w (nI 2) with q | q
        · exact q
        · by_cases e : nI 2 = w
          · rw [e]; exact Int32.le_refl _
          · exact absurd (Or.inr (Int32.lt_of_le_of_ne q e)) hw
      have w012 := i32_02 hw1 hw2
      have tail : ∀ t : Nat, t = (if w = 0 then 1 else if w = 1 then 7 else 8) → Ex (prog nb sa) k_MO_text 53 [some (.ref m0), some (.int (nI k)), some (.int i), some (.int w), some (.ref f), none] [.int (nI t), .int i, .ref f] h1 (fun v h' => v = some (.int (q_text z i w s.2.1).1) ∧ MOs h' m0 nb sa (s.1, (q_text z i w s.2.1).2, s.2.2) 0 ∧ FX m0 h h' 0 0) := by
        intro t ht
        have htt : t = 1 ∨ t = 7 ∨ t = 8 := by rw [ht]; split <;> (try split) <;> omega
        rcases i32_cases i with hn | ⟨j, hj, rfl⟩
        · have eq : q_text z i w s.2.1 = (-30 - nI 8, s.2.1) := (if_neg hw).trans (if_pos hn)
          rw [eq]
          have wp := c_MO_wrongPlaceN (nb := nb) (sa := sa) (f := f) (h := h1) (t := nI t) hn
          refine Ex_inv rfl (by rfl) (by rfl) (by rfl) (wp) ?_; refine Ex_mv rfl rfl ?_; refine Ex_mv rfl rfl ?_; refine Ex_mv rfl rfl ?_; refine Ex_iff (by decide) ?_; refine Ex_mv rfl rfl ?_; refine Ex_mv rfl rfl ?_; (first | refine Ex_subN rfl (by omega) ?_ | refine Ex_mv rfl rfl ?_); refine Ex_mv rfl rfl ?_
          refine Ex_rt rfl rfl ?_
          exact ⟨rfl, k2, k3⟩
        · have wp := c_MO_wrongPlace (nb := nb) (sa := sa) hF' hn61 (i := j) (t := t) hj (by omega)
          have hw9 := wrg_le9 (B := z.1) (S := z.2.1) (n := z.2.2.1) (i := j) (t := t)
          by_cases hwr : wrg z.1 z.2.1 z.2.2.1 j t = 0
          · have eq : q_text z (nI j) w s.2.1 = shw (txF z (tof z.1 z.2.1 z.2.2.1 j 0)) := by
              unfold q_text
              rw [if_neg hw, if_neg (nI_pos hj), nI_clamp hj, ← ht, if_neg (not_not_intro hwr)]
            rw [eq]
            rw [show wrg z.1 z.2.1 z.2.2.1 j t = 0 from hwr] at wp
            obtain ⟨hjn, htg, -⟩ := wrg0 hwr
            have ht1 := hGz.tofT htg htt
            have htn := (tg_at ht1 (by decide)).1
            obtain ⟨b', t1', t2', t3', t7', t8', ow', gx, tt, d1, d2, d3, d4⟩ := hF'.tx (j := tof z.1 z.2.1 z.2.2.1 j 0) (by omega) ht1
            have ex : gx (nI (tof z.1 z.2.1 z.2.2.1 j 0)).toNatClampNeg = some tt := by rw [nI_clamp (by omega)]; exact d3
            obtain ⟨_, h2, e2, rfl, S2, F2⟩ := c_MO_shows (nb := nb) (sa := sa) k2 d4
            by_cases w0 : w = 0
            · have t1 : t = 1 := by rw [ht, if_pos w0]
              have etf : tof z.1 z.2.1 z.2.2.1 j 0 = j := if_pos (htg.trans t1)
              rw [etf] at ex
              subst w0
              refine Ex_inv rfl (by rfl) (by rfl) (by rfl) (wp) ?_; refine Ex_mv rfl rfl ?_; refine Ex_mv rfl rfl ?_; refine Ex_mv rfl rfl ?_; refine Ex_ift (by decide) ?_; refine Ex_mv rfl rfl ?_; refine Ex_mv rfl rfl ?_; refine Ex_getf rfl d1 rfl ?_; refine Ex_mv rfl rfl ?_; refine Ex_mv rfl rfl ?_; refine Ex_iff (not_not_intro rfl) ?_; refine Ex_mv rfl rfl ?_; refine Ex_mv rfl rfl ?_; refine Ex_aald rfl d2 rfl (vp_in_nI (by omega) (by decide)) ex ?_; refine Ex_invV rfl (by rfl) (by rfl) hc (by rfl) (e2) ?_
              refine Ex_rt rfl rfl ?_
              exact ⟨rfl, S2, k3.tr F2⟩
            · have t78 : t = 7 ∨ t = 8 := by rw [ht, if_neg w0]; split <;> omega
              obtain ⟨y1, y2, y3, y4, y5, y6⟩ := hGz.st11 (i := j) (by omega)
              have etf : tof z.1 z.2.1 z.2.2.1 j 0 = b2 z.1 (st z.2.1 z.2.2.1 j + 1) := by
                unfold tof
                rw [if_neg (by omega), if_pos (by omega)]; exact y5
              rw [etf] at ex htn
              have f1 := c_MH_first (nb := nb) (sa := sa) hF' (i := j) (by omega) (show st z.2.1 z.2.2.1 j + 2 < z.1.length by omega)
              refine Ex_inv rfl (by rfl) (by rfl) (by rfl) (wp) ?_; refine Ex_mv rfl rfl ?_; refine Ex_mv rfl rfl ?_; refine Ex_mv rfl rfl ?_; refine Ex_ift (by decide) ?_; refine Ex_mv rfl rfl ?_; refine Ex_mv rfl rfl ?_; refine Ex_getf rfl d1 rfl ?_; refine Ex_mv rfl rfl ?_; refine Ex_mv rfl rfl ?_; refine Ex_ift w0 ?_; refine Ex_mv rfl rfl ?_; refine Ex_mv rfl rfl ?_; refine Ex_invV rfl (by rfl) (by rfl) d1 (by rfl) (f1) ?_; refine Ex_aald rfl d2 rfl (vp_in_nI (by omega) (by decide)) ex ?_; refine Ex_invV rfl (by rfl) (by rfl) hc (by rfl) (e2) ?_
              refine Ex_rt rfl rfl ?_
              exact ⟨rfl, S2, k3.tr F2⟩
          · have eq : q_text z (nI j) w s.2.1 = (-30 - nI (wrg z.1 z.2.1 z.2.2.1 j t), s.2.1) := by
              unfold q_text
              rw [if_neg hw, if_neg (nI_pos hj), nI_clamp hj, ← ht, if_pos hwr]
            rw [eq]
            refine Ex_inv rfl (by rfl) (by rfl) (by rfl) (wp) ?_; refine Ex_mv rfl rfl ?_; refine Ex_mv rfl rfl ?_; refine Ex_mv rfl rfl ?_; refine Ex_iff (nI_ge (a := 0) (Nat.pos_of_ne_zero hwr) (Nat.lt_of_le_of_lt hw9 (by decide))) ?_; refine Ex_mv rfl rfl ?_; refine Ex_mv rfl rfl ?_; (first | refine Ex_subN rfl (by omega) ?_ | refine Ex_mv rfl rfl ?_); refine Ex_mv rfl rfl ?_
            refine Ex_rt rfl rfl ?_
            exact ⟨rfl, k2, k3⟩
      have tl := tail _ rfl
      rcases w012 with q | q | q
      · subst q
        refine Ex_mv rfl rfl ?_; refine Ex_mv rfl rfl ?_; refine Ex_invV rfl (by rfl) (by rfl) (by assumption) (by rfl) (e1) ?_; refine Ex_mv rfl rfl ?_; refine Ex_ift (show ¬ nI 1 = 0 by decide) ?_; refine Ex_mv rfl rfl ?_; refine Ex_mv rfl rfl ?_; refine Ex_mv rfl rfl ?_; refine Ex_inv rfl (by rfl) (by rfl) (by rfl) (hin) ?_; refine Ex_mv rfl rfl ?_; refine Ex_ift (show ¬ nI 1 = 0 by decide) ?_; refine Ex_mv rfl rfl ?_; refine Ex_getf rfl hc rfl ?_; refine Ex_mv rfl rfl ?_; refine Ex_aald rfl hF1 rfl (vp_in_nI (by omega) (by decide)) hF2 ?_; refine Ex_mv rfl rfl ?_; refine Ex_mv rfl rfl ?_; refine Ex_mv rfl rfl ?_; refine Ex_mv rfl rfl ?_; refine Ex_mv rfl rfl ?_; refine Ex_iff (not_not_intro rfl) ?_; refine Ex_mv rfl rfl ?_; refine Ex_mv rfl rfl ?_
        exact tl
      · subst q
        refine Ex_mv rfl rfl ?_; refine Ex_mv rfl rfl ?_; refine Ex_invV rfl (by rfl) (by rfl) (by assumption) (by rfl) (e1) ?_; refine Ex_mv rfl rfl ?_; refine Ex_ift (show ¬ nI 1 = 0 by decide) ?_; refine Ex_mv rfl rfl ?_; refine Ex_mv rfl rfl ?_; refine Ex_mv rfl rfl ?_; refine Ex_inv rfl (by rfl) (by rfl) (by rfl) (hin) ?_; refine Ex_mv rfl rfl ?_; refine Ex_ift (show ¬ nI 1 = 0 by decide) ?_; refine Ex_mv rfl rfl ?_; refine Ex_getf rfl hc rfl ?_; refine Ex_mv rfl rfl ?_; refine Ex_aald rfl hF1 rfl (vp_in_nI (by omega) (by decide)) hF2 ?_; refine Ex_mv rfl rfl ?_; refine Ex_mv rfl rfl ?_; refine Ex_mv rfl rfl ?_; refine Ex_mv rfl rfl ?_; refine Ex_mv rfl rfl ?_; refine Ex_ift (by decide) ?_; refine Ex_mv rfl rfl ?_; refine Ex_mv rfl rfl ?_; refine Ex_mv rfl rfl ?_; refine Ex_iff (by decide) ?_; refine Ex_mv rfl rfl ?_; refine Ex_mv rfl rfl ?_
        exact tl
      · subst q
        refine Ex_mv rfl rfl ?_; refine Ex_mv rfl rfl ?_; refine Ex_invV rfl (by rfl) (by rfl) (by assumption) (by rfl) (e1) ?_; refine Ex_mv rfl rfl ?_; refine Ex_ift (show ¬ nI 1 = 0 by decide) ?_; refine Ex_mv rfl rfl ?_; refine Ex_mv rfl rfl ?_; refine Ex_mv rfl rfl ?_; refine Ex_inv rfl (by rfl) (by rfl) (by rfl) (hin) ?_; refine Ex_mv rfl rfl ?_; refine Ex_ift (show ¬ nI 1 = 0 by decide) ?_; refine Ex_mv rfl rfl ?_; refine Ex_getf rfl hc rfl ?_; refine Ex_mv rfl rfl ?_; refine Ex_aald rfl hF1 rfl (vp_in_nI (by omega) (by decide)) hF2 ?_; refine Ex_mv rfl rfl ?_; refine Ex_mv rfl rfl ?_; refine Ex_mv rfl rfl ?_; refine Ex_mv rfl rfl ?_; refine Ex_mv rfl rfl ?_; refine Ex_ift (by decide) ?_; refine Ex_mv rfl rfl ?_; refine Ex_mv rfl rfl ?_; refine Ex_mv rfl rfl ?_; refine Ex_ift (by decide) ?_; refine Ex_mv rfl rfl ?_
        exact tl
theorem i32_n {w : Int32} {n : Nat} (hn : n < 2 ^ 31) (hw : ¬ (w < nI 0 ∨ nI n < w)) : ∃ k, w = nI k ∧ k ≤ n := by
  rcases i32_cases w with q | ⟨k, hk, rfl⟩
  · exact absurd (Or.inl q) hw
  · exact ⟨k, rfl, Nat.le_of_not_lt (fun z => hw (Or.inr (nI_lt z hk)))⟩
theorem c_MO_member (hS : MOs h m0 nb sa s c) (hG : SgG s) (f kd k w : Int32) : EvQ (prog nb sa) m_MO_member [.ref m0, .int f, .int kd, .int k, .int w] h (fun v h' => v = some (.int (match fA s.2.2.1 f with | none => (-1, s.2.1) | some z => q_member z kd k w s.2.1).1) ∧ MOs h' m0 nb sa (s.1, (match fA s.2.2.1 f with | none => (-1, s.2.1) | some z => q_member z kd k w s.2.1).2, s.2.2) 0 ∧ FX m0 h h' 0 0) := by
  obtain ⟨h1, e1, k2, k3⟩ := c_MO_isFile (nb := nb) hS hG.2.2.2.1 f
  obtain ⟨O0, J0, nw0, a0, fl0, ms0, od0, oc0, hc0⟩ := hS.cell
  refine EvQ_of k_MO_member 7 [some (.ref m0), some (.int f), some (.int kd), some (.int k), some (.int w), none, none] rfl (Nat.le_of_ble_eq_true rfl) rfl ?_
  rcases okF_cases s.2.2.1 f with ⟨z1, z2⟩ | ⟨fk, z, rfl, hfk, hfk2, z3, z1, z2⟩
  · rw [z1]
    rw [z2] at e1
    refine Ex_mv rfl rfl ?_; refine Ex_mv rfl rfl ?_; refine Ex_invV rfl (by rfl) (by rfl) (by assumption) (by rfl) (e1) ?_; refine Ex_mv rfl rfl ?_; refine Ex_iff (not_not_intro (show nI 0 = 0 from rfl)) ?_; refine Ex_mv rfl rfl ?_
    refine Ex_rt rfl rfl ?_
    exact ⟨rfl, k2, k3⟩
  · rw [z1]
    rw [z2] at e1
    simp only
    have hin := c_MO_isInI (nb := nb) (sa := sa) (h := h1) (v := kd) (lo := nI 0) (hi := nI 2)
    obtain ⟨O, J, nw, a', fl, ms, od, oc, gF, f, hc, hF1, hF2, hF⟩ := k2.file z3 hfk2
    by_cases hw : kd < nI 0 ∨ nI 2 < kd
    · rw [if_pos hw] at hin
      have n0 : ∀ j : Nat, j ≤ 2 → ¬ kd = nI j := fun j hj e => by
        subst e
        exact hw.elim (nI_pos (by omega)) (nI_nlt hj (by decide))
      have eq : q_member z kd k w s.2.1 = (-2, s.2.1) := (if_neg (n0 2 (by decide))).trans (if_neg (fun q => q.elim (n0 0 (by decide)) (n0 1 (by decide))))
      rw [eq]
      refine Ex_mv rfl rfl ?_; refine Ex_mv rfl rfl ?_; refine Ex_invV rfl (by rfl) (by rfl) (by assumption) (by rfl) (e1) ?_; refine Ex_mv rfl rfl ?_; refine Ex_ift (show ¬ nI 1 = 0 by decide) ?_; refine Ex_mv rfl rfl ?_; refine Ex_mv rfl rfl ?_; refine Ex_mv rfl rfl ?_; refine Ex_inv rfl (by rfl) (by rfl) (by rfl) (hin) ?_; refine Ex_mv rfl rfl ?_; refine Ex_iff (not_not_intro (show nI 0 = 0 from rfl)) ?_; refine Ex_mv rfl rfl ?_
      refine Ex_rt rfl rfl ?_
      exact ⟨rfl, k2, k3⟩
    · rw [if_neg hw] at hin
      obtain ⟨kk, rfl, hkk⟩ := i32_n (by decide) hw
      have hl6 := hG.2.2.2.1
      have hGz := hG.1 z (List.mem_of_getElem? z3)
      have hF' : HF (muM m0) h1 f (z.1, z.2) := hF
      have hlt := hF'.lt.1
      have hn61 : z.2.2.1 ≤ 61 := hGz.1.2.2.1
      obtain ⟨gb1, gb2⟩ := hGz.bh_le
      have hl4 := hF'.lt.2
      obtain ⟨bb, hb2, -⟩ := hF'.hb
      have pre : ∀ R : Option Value → Hp → Prop, Ex (prog nb sa) k_MO_member 30 [some (.ref m0), some (.int (nI fk)), some (.int (nI kk)), some (.int k), some (.int w), some (.ref f), none] [] h1 R → Ex (prog nb sa) k_MO_member 0 [some (.ref m0), some (.int (nI fk)), some (.int (nI kk)), some (.int k), some (.int w), none, none] [] h R := by
        intro R K
        refine Ex_mv rfl rfl ?_; refine Ex_mv rfl rfl ?_; refine Ex_invV rfl (by rfl) (by rfl) (by assumption) (by rfl) (e1) ?_; refine Ex_mv rfl rfl ?_; refine Ex_ift (show ¬ nI 1 = 0 by decide) ?_; refine Ex_mv rfl rfl ?_; refine Ex_mv rfl rfl ?_; refine Ex_mv rfl rfl ?_; refine Ex_inv rfl (by rfl) (by rfl) (by rfl) (hin) ?_; refine Ex_mv rfl rfl ?_; refine Ex_ift (show ¬ nI 1 = 0 by decide) ?_; refine Ex_mv rfl rfl ?_; refine Ex_getf rfl hc rfl ?_; refine Ex_mv rfl rfl ?_; refine Ex_aald rfl hF1 rfl (vp_in_nI (by omega) (by decide)) hF2 ?_; refine Ex_mv rfl rfl ?_
        exact K
      refine pre _ ?_
      by_cases hk2 : kk = 2
      · subst hk2
        have eq : q_member z (nI 2) k w s.2.1 = (if q_clsP z k = 0 then (-1, s.2.1) else if w = 0 then shw (txF z (tof z.1 z.2.1 z.2.2.1 (q_clsP z k) 0)) else (-2, s.2.1)) := if_pos rfl
        rw [eq]
        obtain ⟨b5, t15, t25, t35, t75, t85, ow5, r1, -⟩ := hF'.ow
        have hfc : b2 z.1 (z.2.2.2.1 + 6) ≤ 8 := hGz.1.2.2.2.2.1
        have hin2 := c_MO_isInI (nb := nb) (sa := sa) (h := h1) (v := k) (lo := nI 0) (hi := nI (1 + b2 z.1 (z.2.2.2.1 + 6)))
        have hf2 : fP z.1 z.2.2.2.1 + 2 ≤ z.1.length := hGz.1.2.2.2.2.2.1
        unfold fP at hf2
        by_cases hkr : k < nI 0 ∨ nI (1 + b2 z.1 (z.2.2.2.1 + 6)) < k
        · rw [if_pos hkr] at hin2
          have ec : q_clsP z k = 0 := by
            unfold q_clsP
            rcases i32_cases k with q | ⟨j, hj, rfl⟩
            · rw [if_pos q]
            · rw [if_neg (nI_pos hj), nI_clamp hj]
              have : 1 + b2 z.1 (z.2.2.2.1 + 6) < j := hkr.elim (fun q => absurd q (nI_pos hj)) (fun q => (nI_ltI (by omega) hj).mp q)
              exact if_pos (by omega)
          rw [if_pos ec]
          refine Ex_mv rfl rfl ?_; refine Ex_mv rfl rfl ?_; refine Ex_mv rfl rfl ?_; refine Ex_iff (not_not_intro rfl) ?_; refine Ex_mv rfl rfl ?_; refine Ex_mv rfl rfl ?_; refine Ex_mv rfl rfl ?_; refine Ex_mv rfl rfl ?_; refine Ex_getf rfl r1 rfl ?_; (first | refine Ex_addN rfl ?_ | refine Ex_mv rfl rfl ?_); refine Ex_inv rfl (by rfl) (by rfl) (by rfl) (hin2) ?_; refine Ex_mv rfl rfl ?_; refine Ex_ift (show nI 0 = 0 from rfl) ?_; refine Ex_mv rfl rfl ?_
          refine Ex_rt rfl rfl ?_
          exact ⟨rfl, k2, k3⟩
        · rw [if_neg hkr] at hin2
          obtain ⟨j, rfl, hj⟩ := i32_n (by omega) hkr
          have ec : q_clsP z (nI j) = b2 z.1 (z.2.2.2.1 + (if j < 2 then 2 + 2 * j else 4 + 2 * j)) := by
            unfold q_clsP cP
            rw [if_neg (nI_pos (by omega)), nI_clamp (by omega), if_neg (by omega)]
          have hpb : z.2.2.2.1 + (if j < 2 then 2 + 2 * j else 4 + 2 * j) + 1 < z.1.length := by split <;> omega
          have tail : b2 z.1 (z.2.2.2.1 + (if j < 2 then 2 + 2 * j else 4 + 2 * j)) ≠ 0 → Ex (prog nb sa) k_MO_member 72 [some (.ref m0), some (.int (nI fk)), some (.int (nI 2)), some (.int (nI j)), some (.int w), some (.ref f), none] [] h1 (fun v h' => v = some (.int (if w = 0 then shw (txF z (tof z.1 z.2.1 z.2.2.1 (q_clsP z (nI j)) 0)) else (-2, s.2.1)).1) ∧ MOs h' m0 nb sa (s.1, (if w = 0 then shw (txF z (tof z.1 z.2.1 z.2.2.1 (q_clsP z (nI j)) 0)) else (-2, s.2.1)).2, s.2.2) 0 ∧ FX m0 h h' 0 0) := by
            intro hne
            have t7 := q_clsP_7 hGz (k := nI j) (by rw [ec]; exact hne)
            rw [ec] at t7 ⊢
            have ht1 := hGz.tofT t7 (Or.inr (Or.inl rfl))
            have htn := (tg_at ht1 (by decide)).1
            generalize hpp : z.2.2.2.1 + (if j < 2 then 2 + 2 * j else 4 + 2 * j) = p at *
            have htp := (tg_at t7 (by decide)).1
            obtain ⟨y1, y2, y3, y4, y5, y6⟩ := hGz.st11 (i := b2 z.1 p) (by omega)
            have etf : tof z.1 z.2.1 z.2.2.1 (b2 z.1 p) 0 = b2 z.1 (st z.2.1 z.2.2.1 (b2 z.1 p) + 1) := by
              unfold tof
              rw [if_neg (by omega), if_pos (by omega)]; exact y5
            obtain ⟨b', t1', t2', t3', t7', t8', ow', gx, tt, d1, d2, d3, d4⟩ := hF'.tx (j := tof z.1 z.2.1 z.2.2.1 (b2 z.1 p) 0) (by omega) ht1
            have ex : gx (nI (tof z.1 z.2.1 z.2.2.1 (b2 z.1 p) 0)).toNatClampNeg = some tt := by rw [nI_clamp (by omega)]; exact d3
            rw [etf] at ex htn
            obtain ⟨_, h2, e2, rfl, S2, F2⟩ := c_MO_shows (nb := nb) (sa := sa) k2 d4
            have f1 := c_MH_first (nb := nb) (sa := sa) hF' (i := b2 z.1 p) (by omega) (show st z.2.1 z.2.2.1 (b2 z.1 p) + 2 < z.1.length by omega)
            have tw := c_MH_two (nb := nb) (sa := sa) hb2 (p := p) hpb
            have post : ∀ q : Nat, q = p → Ex (prog nb sa) k_MO_member 96 [some (.ref m0), some (.int (nI fk)), some (.int (nI 2)), some (.int (nI j)), some (.int w), some (.ref f), none] [.int (nI q)] h1 (fun v h' => v = some (.int (if w = 0 then shw (txF z (tof z.1 z.2.1 z.2.2.1 (b2 z.1 p) 0)) else (-2, s.2.1)).1) ∧ MOs h' m0 nb sa (s.1, (if w = 0 then shw (txF z (tof z.1 z.2.1 z.2.2.1 (b2 z.1 p) 0)) else (-2, s.2.1)).2, s.2.2) 0 ∧ FX m0 h h' 0 0) := by
              intro q hq
              subst hq
              by_cases w0 : w = 0
              · rw [if_pos w0]
                refine Ex_mv rfl rfl ?_; refine Ex_mv rfl rfl ?_; refine Ex_mv rfl rfl ?_; refine Ex_ift w0 ?_; refine Ex_mv rfl rfl ?_; refine Ex_mv rfl rfl ?_; refine Ex_getf rfl d1 rfl ?_; refine Ex_mv rfl rfl ?_; refine Ex_mv rfl rfl ?_; refine Ex_mv rfl rfl ?_; refine Ex_invV rfl (by rfl) (by rfl) d1 (by rfl) (tw) ?_; refine Ex_invV rfl (by rfl) (by rfl) d1 (by rfl) (f1) ?_; refine Ex_aald rfl d2 rfl (vp_in_nI (by omega) (by decide)) ex ?_; refine Ex_invV rfl (by rfl) (by rfl) hc (by rfl) (e2) ?_
                refine Ex_rt rfl rfl ?_
                exact ⟨rfl, S2, k3.tr F2⟩
              · rw [if_neg w0]
                refine Ex_mv rfl rfl ?_; refine Ex_mv rfl rfl ?_; refine Ex_mv rfl rfl ?_; refine Ex_iff w0 ?_; refine Ex_mv rfl rfl ?_; refine Ex_mv rfl rfl ?_
                refine Ex_rt rfl rfl ?_
                exact ⟨rfl, k2, k3⟩
            by_cases j2 : j < 2
            · rw [if_pos j2] at hpp
              have po := post _ hpp
              refine Ex_mv rfl rfl ?_; refine Ex_getf rfl r1 rfl ?_; refine Ex_mv rfl rfl ?_; refine Ex_mv rfl rfl ?_; refine Ex_mv rfl rfl ?_; refine Ex_iff (nI_ge (by omega) (by omega)) ?_; refine Ex_mv rfl rfl ?_; refine Ex_mv rfl rfl ?_; refine Ex_mv rfl rfl ?_; (first | refine Ex_mulN rfl ?_ | refine Ex_mv rfl rfl ?_); (first | refine Ex_addN rfl ?_ | refine Ex_mv rfl rfl ?_); refine Ex_mv rfl rfl ?_; (first | refine Ex_addN rfl ?_ | refine Ex_mv rfl rfl ?_)
              exact po
            · rw [if_neg j2] at hpp
              have po := post _ hpp
              refine Ex_mv rfl rfl ?_; refine Ex_getf rfl r1 rfl ?_; refine Ex_mv rfl rfl ?_; refine Ex_mv rfl rfl ?_; refine Ex_mv rfl rfl ?_; refine Ex_ift (nI_le (by omega) (by omega)) ?_; refine Ex_mv rfl rfl ?_; refine Ex_mv rfl rfl ?_; refine Ex_mv rfl rfl ?_; (first | refine Ex_mulN rfl ?_ | refine Ex_mv rfl rfl ?_); (first | refine Ex_addN rfl ?_ | refine Ex_mv rfl rfl ?_); (first | refine Ex_addN rfl ?_ | refine Ex_mv rfl rfl ?_)
              exact po
          by_cases j1 : j = 1
          · subst j1
            have e41 : z.2.2.2.1 + (if 1 < 2 then 2 + 2 * 1 else 4 + 2 * 1) = z.2.2.2.1 + 4 := by simp
            have tw4 := c_MH_two (nb := nb) (sa := sa) hb2 (p := z.2.2.2.1 + 4) (by omega)
            have b4l := b2_lt hlt (z.2.2.2.1 + 4)
            by_cases hz4 : b2 z.1 (z.2.2.2.1 + 4) = 0
            · rw [if_pos (by rw [ec, e41]; exact hz4)]
              rw [hz4] at tw4
              refine Ex_mv rfl rfl ?_; refine Ex_mv rfl rfl ?_; refine Ex_mv rfl rfl ?_; refine Ex_iff (not_not_intro rfl) ?_; refine Ex_mv rfl rfl ?_; refine Ex_mv rfl rfl ?_; refine Ex_mv rfl rfl ?_; refine Ex_mv rfl rfl ?_; refine Ex_getf rfl r1 rfl ?_; (first | refine Ex_addN rfl ?_ | refine Ex_mv rfl rfl ?_); refine Ex_inv rfl (by rfl) (by rfl) (by rfl) (hin2) ?_; refine Ex_mv rfl rfl ?_; refine Ex_iff (show ¬ nI 1 = 0 by decide) ?_; refine Ex_mv rfl rfl ?_; refine Ex_mv rfl rfl ?_; refine Ex_mv rfl rfl ?_; refine Ex_iff (not_not_intro rfl) ?_; refine Ex_mv rfl rfl ?_; refine Ex_mv rfl rfl ?_; refine Ex_getf rfl r1 rfl ?_; refine Ex_mv rfl rfl ?_; (first | refine Ex_addN rfl ?_ | refine Ex_mv rfl rfl ?_); refine Ex_invV rfl (by rfl) (by rfl) r1 (by rfl) (tw4) ?_; refine Ex_mv rfl rfl ?_; refine Ex_iff (not_not_intro (show nI 0 = 0 from rfl)) ?_; refine Ex_mv rfl rfl ?_
              refine Ex_rt rfl rfl ?_
              exact ⟨rfl, k2, k3⟩
            · rw [if_neg (by rw [ec, e41]; exact hz4)]
              have tl := tail (by rw [e41]; exact hz4)
              refine Ex_mv rfl rfl ?_; refine Ex_mv rfl rfl ?_; refine Ex_mv rfl rfl ?_; refine Ex_iff (not_not_intro rfl) ?_; refine Ex_mv rfl rfl ?_; refine Ex_mv rfl rfl ?_; refine Ex_mv rfl rfl ?_; refine Ex_mv rfl rfl ?_; refine Ex_getf rfl r1 rfl ?_; (first | refine Ex_addN rfl ?_ | refine Ex_mv rfl rfl ?_); refine Ex_inv rfl (by rfl) (by rfl) (by rfl) (hin2) ?_; refine Ex_mv rfl rfl ?_; refine Ex_iff (show ¬ nI 1 = 0 by decide) ?_; refine Ex_mv rfl rfl ?_; refine Ex_mv rfl rfl ?_; refine Ex_mv rfl rfl ?_; refine Ex_iff (not_not_intro rfl) ?_; refine Ex_mv rfl rfl ?_; refine Ex_mv rfl rfl ?_; refine Ex_getf rfl r1 rfl ?_; refine Ex_mv rfl rfl ?_; (first | refine Ex_addN rfl ?_ | refine Ex_mv rfl rfl ?_); refine Ex_invV rfl (by rfl) (by rfl) r1 (by rfl) (tw4) ?_; refine Ex_mv rfl rfl ?_; refine Ex_ift (nI_nz hz4 (by omega)) ?_
              exact tl
          · have hne : b2 z.1 (z.2.2.2.1 + (if j < 2 then 2 + 2 * j else 4 + 2 * j)) ≠ 0 := by
              rcases hGz.1.cls (k := j) (by omega) with ⟨q1, q2⟩ | q
              · exact absurd q1 j1
              · have := (wrg0 (hGz.2.1 _ q)).2.1
                intro e0
                rw [show ((z.2.2.2.1 + (if j < 2 then 2 + 2 * j else 4 + 2 * j), 7) : Nat × Nat).1 = z.2.2.2.1 + (if j < 2 then 2 + 2 * j else 4 + 2 * j) from rfl, e0] at this
                have h0 : z.2.1 0 = 0 := hGz.1.1.1
                have := (tg_at this (show (7 : Nat) ≠ 0 by decide)).2.1
                exact this h0
            rw [if_neg (by rw [ec]; exact hne)]
            have tl := tail hne
            refine Ex_mv rfl rfl ?_; refine Ex_mv rfl rfl ?_; refine Ex_mv rfl rfl ?_; refine Ex_iff (not_not_intro rfl) ?_; refine Ex_mv rfl rfl ?_; refine Ex_mv rfl rfl ?_; refine Ex_mv rfl rfl ?_; refine Ex_mv rfl rfl ?_; refine Ex_getf rfl r1 rfl ?_; (first | refine Ex_addN rfl ?_ | refine Ex_mv rfl rfl ?_); refine Ex_inv rfl (by rfl) (by rfl) (by rfl) (hin2) ?_; refine Ex_mv rfl rfl ?_; refine Ex_iff (show ¬ nI 1 = 0 by decide) ?_; refine Ex_mv rfl rfl ?_; refine Ex_mv rfl rfl ?_; refine Ex_mv rfl rfl ?_; refine Ex_ift (fun y => j1 ((nI_eq (by omega) (by decide)).mp y)) ?_
            exact tl
      · have hkk2 : kk < 2 := by omega
        have k01 : nI kk = 0 ∨ nI kk = 1 := by
          have : kk = 0 ∨ kk = 1 := by omega
          rcases this with rfl | rfl
          · exact Or.inl rfl
          · exact Or.inr rfl
        have nk2 : ¬ nI kk = nI 2 := fun y => hk2 ((nI_eq (by omega) (by decide)).mp y)
        have eq : q_member z (nI kk) k w s.2.1 = (match q_memA z kk k with
          | none => (-1, s.2.1)
          | some m => if w = 0 then shw (txF z (b2 z.1 (m + 2))) else if w = 1 then shw (txF z (b2 z.1 (m + 4))) else (-2, s.2.1)) := by
          unfold q_member
          rw [if_neg (show ¬ nI kk = 2 from nk2), if_pos k01, nI_clamp (by omega)]; rfl
        rw [eq]
        obtain ⟨b, t1, t2, t3, t7, t8, ow, ak, gm, gc, c1, c2, c3, ⟨g, c4, c4', c4'', c4'''⟩, c5, c6⟩ := hF'.kd hkk2
        have eg : gc (nI kk).toNatClampNeg = nI (mK z.2.2.2.2.2.1 z.2.2.2.2.2.2.1 kk).length := by rw [nI_clamp (by omega), c6]
        have e2 : gm (nI kk).toNatClampNeg = some ak := by rw [nI_clamp (by omega), c3]
        have hin2 := c_MO_isIdx (nb := nb) (sa := sa) (h := h1) (v := k) (n := (mK z.2.2.2.2.2.1 z.2.2.2.2.2.2.1 kk).length) (by omega)
        unfold q_memA mO
        rcases i32_cases k with hn | ⟨j, hj, rfl⟩
        · rw [if_pos hn] at hin2 ⊢
          refine Ex_mv rfl rfl ?_; refine Ex_mv rfl rfl ?_; refine Ex_mv rfl rfl ?_; refine Ex_ift nk2 ?_; refine Ex_mv rfl rfl ?_; refine Ex_mv rfl rfl ?_; refine Ex_mv rfl rfl ?_; refine Ex_getf rfl c1 rfl ?_; refine Ex_mv rfl rfl ?_; refine Ex_iald rfl c5 (vp_in_nI (by omega) (by decide)) ?_
          rw [eg]
          refine Ex_mv rfl rfl ?_; (first | refine Ex_subN rfl (by omega) ?_ | refine Ex_mv rfl rfl ?_); refine Ex_inv rfl (by rfl) (by rfl) (by rfl) (hin2) ?_; refine Ex_mv rfl rfl ?_; refine Ex_iff (not_not_intro (show nI 0 = 0 from rfl)) ?_; refine Ex_mv rfl rfl ?_
          refine Ex_rt rfl rfl ?_
          exact ⟨rfl, k2, k3⟩
        · rw [if_neg (nI_pos hj), nI_clamp hj] at hin2 ⊢
          by_cases hjl : j < (mK z.2.2.2.2.2.1 z.2.2.2.2.2.2.1 kk).length
          · rw [if_pos hjl] at hin2 ⊢
            simp only
            rw [show nI (mK z.2.2.2.2.2.1 z.2.2.2.2.2.2.1 kk).length - nI 1 = nI ((mK z.2.2.2.2.2.1 z.2.2.2.2.2.2.1 kk).length - 1) from pk_sub (by omega)] at hin2
            obtain ⟨u, u1, wu, u2, u3, u4⟩ := c4' j hjl
            have e3 : g (nI j).toNatClampNeg = some u := by rw [nI_clamp (by omega), u1]
            have hmem : (mK z.2.2.2.2.2.1 z.2.2.2.2.2.2.1 kk).getD j 0 ∈ mK z.2.2.2.2.2.1 z.2.2.2.2.2.2.1 kk := by
              rw [List.getD_eq_getElem?_getD, List.getElem?_eq_getElem hjl]; exact List.getElem_mem hjl
            generalize hmm : (mK z.2.2.2.2.2.1 z.2.2.2.2.2.2.1 kk).getD j 0 = m at *
            have hm8 := hGz.1.memle hmem
            obtain ⟨tg2, tg4⟩ := hGz.mem (mK_or hmem)
            have hin3 := c_MO_isInI (nb := nb) (sa := sa) (h := h1) (v := w) (lo := nI 0) (hi := nI 1)
            by_cases hww : w < nI 0 ∨ nI 1 < w
            · rw [if_pos hww] at hin3
              have n0 : ∀ j : Nat, j ≤ 1 → ¬ w = nI j := fun j hj e => by
                subst e
                exact hww.elim (nI_pos (by omega)) (nI_nlt hj (by decide))
              rw [if_neg (show ¬ w = 0 from n0 0 (by decide)), if_neg (show ¬ w = 1 from n0 1 (by decide))]
              refine Ex_mv rfl rfl ?_; refine Ex_mv rfl rfl ?_; refine Ex_mv rfl rfl ?_; refine Ex_ift nk2 ?_; refine Ex_mv rfl rfl ?_; refine Ex_mv rfl rfl ?_; refine Ex_mv rfl rfl ?_; refine Ex_getf rfl c1 rfl ?_; refine Ex_mv rfl rfl ?_; refine Ex_iald rfl c5 (vp_in_nI (by omega) (by decide)) ?_
              rw [eg]
              refine Ex_mv rfl rfl ?_; (first | refine Ex_subN rfl (by omega) ?_ | refine Ex_mv rfl rfl ?_); refine Ex_inv rfl (by rfl) (by rfl) (by rfl) (hin2) ?_; refine Ex_mv rfl rfl ?_; refine Ex_ift (show ¬ nI 1 = 0 by decide) ?_; refine Ex_mv rfl rfl ?_; refine Ex_mv rfl rfl ?_; refine Ex_mv rfl rfl ?_; refine Ex_inv rfl (by rfl) (by rfl) (by rfl) (hin3) ?_; refine Ex_mv rfl rfl ?_; refine Ex_iff (not_not_intro (show nI 0 = 0 from rfl)) ?_; refine Ex_mv rfl rfl ?_; refine Ex_mv rfl rfl ?_
              refine Ex_rt rfl rfl ?_
              exact ⟨rfl, k2, k3⟩
            · rw [if_neg hww] at hin3
              obtain ⟨wi, rfl, hwi⟩ := i32_n (by decide) hww
              have key : ∀ p, p = m + 2 + 2 * wi → tg z.1 z.2.1 z.2.2.1 (b2 z.1 p) = 1 → Ex (prog nb sa) k_MO_member 30 [some (.ref m0), some (.int (nI fk)), some (.int (nI kk)), some (.int (nI j)), some (.int (nI wi)), some (.ref f), none] [] h1 (fun v h' => v = some (.int (shw (txF z (b2 z.1 p))).1) ∧ MOs h' m0 nb sa (s.1, (shw (txF z (b2 z.1 p))).2, s.2.2) 0 ∧ FX m0 h h' 0 0) := by
                intro p hp ht
                subst hp
                have htn := (tg_at ht (by decide)).1
                obtain ⟨b', t1', t2', t3', t7', t8', ow', gx, tt, d1, d2, d3, d4⟩ := hF'.tx (j := b2 z.1 (m + 2 + 2 * wi)) (by omega) ht
                have ex : gx (nI (b2 z.1 (m + 2 + 2 * wi))).toNatClampNeg = some tt := by rw [nI_clamp (by omega)]; exact d3
                obtain ⟨_, h2, es, rfl, S2, F2⟩ := c_MO_shows (nb := nb) (sa := sa) k2 d4
                have tw := c_MH_two (nb := nb) (sa := sa) hb2 (p := m + 2 + 2 * wi) (by omega)
                refine Ex_mv rfl rfl ?_; refine Ex_mv rfl rfl ?_; refine Ex_mv rfl rfl ?_; refine Ex_ift nk2 ?_; refine Ex_mv rfl rfl ?_; refine Ex_mv rfl rfl ?_; refine Ex_mv rfl rfl ?_; refine Ex_getf rfl c1 rfl ?_; refine Ex_mv rfl rfl ?_; refine Ex_iald rfl c5 (vp_in_nI (by omega) (by decide)) ?_
                rw [eg]
                refine Ex_mv rfl rfl ?_; (first | refine Ex_subN rfl (by omega) ?_ | refine Ex_mv rfl rfl ?_); refine Ex_inv rfl (by rfl) (by rfl) (by rfl) (hin2) ?_; refine Ex_mv rfl rfl ?_; refine Ex_ift (show ¬ nI 1 = 0 by decide) ?_; refine Ex_mv rfl rfl ?_; refine Ex_mv rfl rfl ?_; refine Ex_mv rfl rfl ?_; refine Ex_inv rfl (by rfl) (by rfl) (by rfl) (hin3) ?_; refine Ex_mv rfl rfl ?_; refine Ex_ift (show ¬ nI 1 = 0 by decide) ?_; refine Ex_mv rfl rfl ?_; refine Ex_mv rfl rfl ?_; refine Ex_getf rfl d1 rfl ?_; refine Ex_mv rfl rfl ?_; refine Ex_mv rfl rfl ?_; refine Ex_getf rfl c1 rfl ?_; refine Ex_mv rfl rfl ?_; refine Ex_aald rfl c2 rfl (vp_in_nI (by omega) (by decide)) e2 ?_; refine Ex_mv rfl rfl ?_; refine Ex_aald rfl c4 rfl (vp_in_nI (by omega) (by omega)) e3 ?_; refine Ex_getf rfl u2 rfl ?_; refine Ex_mv rfl rfl ?_; (first | refine Ex_addN rfl ?_ | refine Ex_mv rfl rfl ?_); refine Ex_mv rfl rfl ?_; refine Ex_mv rfl rfl ?_; (first | refine Ex_mulN rfl ?_ | refine Ex_mv rfl rfl ?_); (first | refine Ex_addN rfl ?_ | refine Ex_mv rfl rfl ?_); refine Ex_invV rfl (by rfl) (by rfl) d1 (by rfl) (tw) ?_; refine Ex_aald rfl d2 rfl (vp_in_nI (by omega) (by decide)) ex ?_; refine Ex_invV rfl (by rfl) (by rfl) hc (by rfl) (es) ?_
                refine Ex_rt rfl rfl ?_
                exact ⟨rfl, S2, k3.tr F2⟩
              have : wi = 0 ∨ wi = 1 := by omega
              rcases this with rfl | rfl
              · rw [if_pos (show nI 0 = 0 from rfl)]
                exact key (m + 2) rfl tg2
              · rw [if_neg (show ¬ nI 1 = 0 by decide), if_pos (show nI 1 = 1 from rfl)]
                exact key (m + 4) rfl tg4
          · rw [if_neg hjl] at hin2 ⊢
            refine Ex_mv rfl rfl ?_; refine Ex_mv rfl rfl ?_; refine Ex_mv rfl rfl ?_; refine Ex_ift nk2 ?_; refine Ex_mv rfl rfl ?_; refine Ex_mv rfl rfl ?_; refine Ex_mv rfl rfl ?_; refine Ex_getf rfl c1 rfl ?_; refine Ex_mv rfl rfl ?_; refine Ex_iald rfl c5 (vp_in_nI (by omega) (by decide)) ?_
            rw [eg]
            refine Ex_mv rfl rfl ?_; (first | refine Ex_subN rfl (by omega) ?_ | refine Ex_mv rfl rfl ?_); refine Ex_inv rfl (by rfl) (by rfl) (by rfl) (hin2) ?_; refine Ex_mv rfl rfl ?_; refine Ex_iff (not_not_intro (show nI 0 = 0 from rfl)) ?_; refine Ex_mv rfl rfl ?_
            refine Ex_rt rfl rfl ?_
            exact ⟨rfl, k2, k3⟩
end REFN
