/-! the other side: attribute -/
theorem MOs.grow {nb sa : Nat} {m0 : Nat} {h h' : Hp} {s : Sg} {c : Nat} (hS : MOs h m0 nb sa s c) (h1 : h.1 ≤ h'.1) (h2 : h.2.1 ≤ h'.2.1) (h3 : ∀ q, q < h.1 → h'.2.2 q = h.2.2 q) : MOs h' m0 nb sa s c := by
  obtain ⟨O, J, nw, a', fl, ms, od, oc, hc, hR⟩ := hS
  have h7 : m0 + 8 ≤ h.1 := hR.2.2.2.2.2.2.1
  exact ⟨O, J, nw, a', fl, ms, od, oc, (h3 _ (by omega)).trans hc, hR.eq ⟨h1, h2, fun q hq => h3 q hq.1⟩ (h3 _ (by omega)) (h3 _ (by omega)) (h3 _ (by omega)) (h3 _ (by omega))⟩
theorem MOs.h7 {nb sa : Nat} {m0 : Nat} {h : Hp} {s : Sg} {c : Nat} (hS : MOs h m0 nb sa s c) : m0 + 8 ≤ h.1 := by
  obtain ⟨O, J, nw, a', fl, ms, od, oc, hc, hR⟩ := hS
  exact hR.2.2.2.2.2.2.1
section REFP
variable {nb sa : Nat} {m0 : Nat} {h : Hp} {s : Sg} {c : Nat}
theorem c_MO_attribute (hS : MOs h m0 nb sa s c) (hG : SgG s) (f kd k a w : Int32) : EvQ (prog nb sa) m_MO_attribute [.ref m0, .int f, .int kd, .int k, .int a, .int w] h (fun v h' => v = some (.int (match fA s.2.2.1 f with | none => (-1, s.2.1) | some z => q_attr z kd k a w s.2.1).1) ∧ MOs h' m0 nb sa (s.1, (match fA s.2.2.1 f with | none => (-1, s.2.1) | some z => q_attr z kd k a w s.2.1).2, s.2.2) 0 ∧ FX m0 h h' 1 400) := by
  obtain ⟨h1, e1, k2, k3'⟩ := c_MO_isFile (nb := nb) hS hG.2.2.2.1 f
  have k3 : FX m0 h h1 1 400 := k3'.mono (by omega) (by omega)
  obtain ⟨O0, J0, nw0, a0, fl0, ms0, od0, oc0, hc0⟩ := hS.cell
  refine EvQ_of k_MO_attribute 9 [some (.ref m0), some (.int f), some (.int kd), some (.int k), some (.int a), some (.int w), none, none, none] rfl (Nat.le_of_ble_eq_true rfl) rfl ?_
  rcases okF_cases s.2.2.1 f with ⟨z1, z2⟩ | ⟨fk, z, rfl, hfk, hfk2, z3, z1, z2⟩
  · rw [z1]
    rw [z2] at e1
    refine Ex_mv rfl rfl ?_; refine Ex_mv rfl rfl ?_; refine Ex_invV rfl (by rfl) (by rfl) (by assumption) (by rfl) (e1) ?_; refine Ex_mv rfl rfl ?_; refine Ex_iff (not_not_intro (show nI 0 = 0 from rfl)) ?_; refine Ex_mv rfl rfl ?_
    refine Ex_rt rfl rfl ?_
    exact ⟨rfl, k2, k3⟩
  · rw [z1]
    rw [z2] at e1
    simp only
    have hin := c_MO_isInI (nb := nb) (sa := sa) (h := h1) (v := kd) (lo := nI 0) (hi := nI 2)
    obtain ⟨O, J, nw, a', fl, ms, od, oc, gF, f, hc, hF1, hF2, hF⟩ := k2.file z3 hfk2
    by_cases hw : kd < nI 0 ∨ nI 2 < kd
    · rw [if_pos hw] at hin
      have n0 : ∀ j : Nat, j ≤ 2 → ¬ kd = nI j := fun j hj e => by
        subst e
        exact hw.elim (nI_pos (by omega)) (nI_nlt hj (by decide))
      have eq : q_attr z kd k a w s.2.1 = (-2, s.2.1) := if_neg (fun q => q.elim (n0 0 (by decide)) (fun q => q.elim (n0 1 (by decide)) (n0 2 (by decide))))
      rw [eq]
      refine Ex_mv rfl rfl ?_; refine Ex_mv rfl rfl ?_; refine Ex_invV rfl (by rfl) (by rfl) (by assumption) (by rfl) (e1) ?_; refine Ex_mv rfl rfl ?_; refine Ex_ift (show ¬ nI 1 = 0 by decide) ?_; refine Ex_mv rfl rfl ?_; refine Ex_mv rfl rfl ?_; refine Ex_mv rfl rfl ?_; refine Ex_inv rfl (by rfl) (by rfl) (by rfl) (hin) ?_; refine Ex_mv rfl rfl ?_; refine Ex_iff (not_not_intro (show nI 0 = 0 from rfl)) ?_; refine Ex_mv rfl rfl ?_
      refine Ex_rt rfl rfl ?_
      exact ⟨rfl, k2, k3⟩
    · rw [if_neg hw] at hin
      obtain ⟨kk, rfl, hkk⟩ := i32_n (by decide) hw
      have hl6 := hG.2.2.2.1
      have hGz := hG.1 z (List.mem_of_getElem? z3)
      have hF' : HF (muM m0) h1 f (z.1, z.2) := hF
      have hlt := hF'.lt.1
      have hn61 : z.2.2.1 ≤ 61 := hGz.1.2.2.1
      have hl4 := hF'.lt.2
      obtain ⟨bb, hb2, hbk⟩ := hF'.hb
      have k012 : nI kk = 0 ∨ nI kk = 1 ∨ nI kk = 2 := by
        have : kk = 0 ∨ kk = 1 ∨ kk = 2 := by omega
        rcases this with rfl | rfl | rfl
        · exact Or.inl rfl
        · exact Or.inr (Or.inl rfl)
        · exact Or.inr (Or.inr rfl)
      have eq : q_attr z (nI kk) k a w s.2.1 = (match q_attA z kk k a with
        | none => (-1, s.2.1)
        | some p => if w = 0 then shw (txF z (b2 z.1 p)) else if w = 1 then shw (sl z.1 (p + 6) (b4 z.1 (p + 2))) else (-2, s.2.1)) := by
        unfold q_attr
        rw [if_pos k012, nI_clamp (by omega)]; rfl
      rw [eq]
      have pre : ∀ R : Option Value → Hp → Prop, Ex (prog nb sa) k_MO_attribute 30 [some (.ref m0), some (.int (nI fk)), some (.int (nI kk)), some (.int k), some (.int a), some (.int w), some (.ref f), none, none] [] h1 R → Ex (prog nb sa) k_MO_attribute 0 [some (.ref m0), some (.int (nI fk)), some (.int (nI kk)), some (.int k), some (.int a), some (.int w), none, none, none] [] h R := by
        intro R K
        refine Ex_mv rfl rfl ?_; refine Ex_mv rfl rfl ?_; refine Ex_invV rfl (by rfl) (by rfl) (by assumption) (by rfl) (e1) ?_; refine Ex_mv rfl rfl ?_; refine Ex_ift (show ¬ nI 1 = 0 by decide) ?_; refine Ex_mv rfl rfl ?_; refine Ex_mv rfl rfl ?_; refine Ex_mv rfl rfl ?_; refine Ex_inv rfl (by rfl) (by rfl) (by rfl) (hin) ?_; refine Ex_mv rfl rfl ?_; refine Ex_ift (show ¬ nI 1 = 0 by decide) ?_; refine Ex_mv rfl rfl ?_; refine Ex_getf rfl hc rfl ?_; refine Ex_mv rfl rfl ?_; refine Ex_aald rfl hF1 rfl (vp_in_nI (by omega) (by decide)) hF2 ?_; refine Ex_mv rfl rfl ?_
        exact K
      refine pre _ ?_
      have none1 : (∀ a' : Int32, k < 0 ∨ (¬ k < 0 ∧ aO z.2.2.2.2.1 z.2.2.2.2.2.1 z.2.2.2.2.2.2.1 kk k.toNatClampNeg = none) → q_attA z kk k a' = none) := by
        intro a' q
        unfold q_attA
        rcases q with q | ⟨q1, q2⟩
        · rw [if_pos (Or.inl q)]
        · rw [q2]
          split <;> rfl
      -- behind the place of the attributes
      have tail : ∀ (al q : Nat), ¬ k < 0 → aO z.2.2.2.2.1 z.2.2.2.2.2.1 z.2.2.2.2.2.2.1 kk k.toNatClampNeg = some q → ATk (muM m0) h1 al z.1 q → Ex (prog nb sa) k_MO_attribute 86 [some (.ref m0), some (.int (nI fk)), some (.int (nI kk)), some (.int k), some (.int a), some (.int w), some (.ref f), none, none] [.ref al] h1 (fun v h' => v = some (.int (match q_attA z kk k a with | none => (-1, s.2.1) | some p => if w = 0 then shw (txF z (b2 z.1 p)) else if w = 1 then shw (sl z.1 (p + 6) (b4 z.1 (p + 2))) else (-2, s.2.1)).1) ∧ MOs h' m0 nb sa (s.1, (match q_attA z kk k a with | none => (-1, s.2.1) | some p => if w = 0 then shw (txF z (b2 z.1 p)) else if w = 1 then shw (sl z.1 (p + 6) (b4 z.1 (p + 2))) else (-2, s.2.1)).2, s.2.2) 0 ∧ FX m0 h h' 1 400) := by
        intro al q hk0 haO hAT
        obtain ⟨au, ag, a1, a2, a3, a4, a5⟩ := hAT
        obtain ⟨gA1, gA2, gA3, gA4⟩ := hGz.1.att haO
        have hin4 := c_MO_isIdx (nb := nb) (sa := sa) (h := h1) (v := a) (n := b2 z.1 q) (by omega)
        rcases i32_cases a with hn | ⟨ai, hai, rfl⟩
        · rw [if_pos hn] at hin4
          have en : q_attA z kk k a = none := if_pos (Or.inr hn)
          rw [en]
          refine Ex_mv rfl rfl ?_; refine Ex_mv rfl rfl ?_; refine Ex_mv rfl rfl ?_; refine Ex_mv rfl rfl ?_; refine Ex_getf rfl a1 rfl ?_; refine Ex_mv rfl rfl ?_; (first | refine Ex_subN rfl (by omega) ?_ | refine Ex_mv rfl rfl ?_); refine Ex_inv rfl (by rfl) (by rfl) (by rfl) (hin4) ?_; refine Ex_mv rfl rfl ?_; refine Ex_iff (not_not_intro (show nI 0 = 0 from rfl)) ?_; refine Ex_mv rfl rfl ?_
          refine Ex_rt rfl rfl ?_
          exact ⟨rfl, k2, k3⟩
        · rw [if_neg (nI_pos hai), nI_clamp hai] at hin4
          by_cases hal : ai < b2 z.1 q
          · rw [if_pos hal] at hin4
            rw [show nI (b2 z.1 q) - nI 1 = nI (b2 z.1 q - 1) from pk_sub (by omega)] at hin4
            have en : q_attA z kk k (nI ai) = some (atP z.1 ai (q + 2)) := by
              unfold q_attA
              rw [if_neg (fun y => y.elim hk0 (nI_pos hai)), haO, nI_clamp hai]
              exact if_pos hal
            obtain ⟨y1, y2, y3⟩ := q_attA_ok hGz en
            rw [en]
            simp only
            have eat : ag (nI ai).toNatClampNeg = nI (atP z.1 ai (q + 2)) := by rw [nI_clamp hai]; exact a3 ai hal
            generalize hpp : atP z.1 ai (q + 2) = p at *
            have htn := (tg_at y1 (by decide)).1
            obtain ⟨b', t1', t2', t3', t7', t8', ow', gx, tt, d1, d2, d3, d4⟩ := hF'.tx (j := b2 z.1 p) (by omega) y1
            have ex : gx (nI (b2 z.1 p)).toNatClampNeg = some tt := by rw [nI_clamp (by omega)]; exact d3
            by_cases w0 : w = 0
            · rw [if_pos w0]
              obtain ⟨_, h2, es, rfl, S2, F2⟩ := c_MO_shows (nb := nb) (sa := sa) k2 d4
              have tw := c_MH_two (nb := nb) (sa := sa) hb2 (p := p) (by omega)
              refine Ex_mv rfl rfl ?_; refine Ex_mv rfl rfl ?_; refine Ex_mv rfl rfl ?_; refine Ex_mv rfl rfl ?_; refine Ex_getf rfl a1 rfl ?_; refine Ex_mv rfl rfl ?_; (first | refine Ex_subN rfl (by omega) ?_ | refine Ex_mv rfl rfl ?_); refine Ex_inv rfl (by rfl) (by rfl) (by rfl) (hin4) ?_; refine Ex_mv rfl rfl ?_; refine Ex_ift (show ¬ nI 1 = 0 by decide) ?_; refine Ex_mv rfl rfl ?_; refine Ex_getf rfl a1 rfl ?_; refine Ex_mv rfl rfl ?_; refine Ex_iald rfl a2 (vp_in_nI (by omega) (by decide)) ?_
              rw [eat]
              refine Ex_mv rfl rfl ?_; refine Ex_mv rfl rfl ?_; refine Ex_mv rfl rfl ?_; refine Ex_iff (not_not_intro w0) ?_; refine Ex_mv rfl rfl ?_; refine Ex_mv rfl rfl ?_; refine Ex_getf rfl d1 rfl ?_; refine Ex_mv rfl rfl ?_; refine Ex_mv rfl rfl ?_; refine Ex_invV rfl (by rfl) (by rfl) d1 (by rfl) (tw) ?_; refine Ex_aald rfl d2 rfl (vp_in_nI (by omega) (by decide)) ex ?_; refine Ex_invV rfl (by rfl) (by rfl) hc (by rfl) (es) ?_
              refine Ex_rt rfl rfl ?_
              exact ⟨rfl, S2, k3.tr F2⟩
            · rw [if_neg w0]
              by_cases w1 : w = 1
              · rw [if_pos w1]
                obtain ⟨⟨rr, hfr⟩, wB, gB, B1, B2, B3, B4⟩ := id hb2
                have f4 := c_MH_four (nb := nb) (sa := sa) hb2 (p := p + 2) (by omega)
                have h7 := k2.h7
                obtain ⟨_, h2, e2, rfl, A2, s1, s2, s3⟩ := c_MO_part (nb := nb) (sa := sa) (h := h1) (t := bb) (k := p + 6) (n := b4 z.1 (p + 2)) (X := sl z.1 (p + 6) (b4 z.1 (p + 2))) B1 hbk.1 (sl_len (by omega)) (fun j hj => by rw [B2 _ (by omega), sl_get hj]) (by omega) (by omega) (fun y hy => B3 y (List.mem_of_mem_drop (List.mem_of_mem_take hy))) (by omega)
                have S2 := k2.grow (h' := h2) (by omega) (by omega) s3
                obtain ⟨O3, J3, nw3, a3', fl3, ms3, od3, oc3, hc3⟩ := S2.cell
                have bk2 : BAk (muM m0) h2 h1.1 (sl z.1 (p + 6) (b4 z.1 (p + 2))) := ⟨A2, by omega, fun y => by simp only [muM] at y; omega⟩
                obtain ⟨_, h3, e3, rfl, S3, F3⟩ := c_MO_shows (nb := nb) (sa := sa) S2 bk2
                have FF : FX m0 h1 h2 1 400 := FX.gr (by omega) (by omega) s3 (by omega) (by omega)
                refine Ex_mv rfl rfl ?_; refine Ex_mv rfl rfl ?_; refine Ex_mv rfl rfl ?_; refine Ex_mv rfl rfl ?_; refine Ex_getf rfl a1 rfl ?_; refine Ex_mv rfl rfl ?_; (first | refine Ex_subN rfl (by omega) ?_ | refine Ex_mv rfl rfl ?_); refine Ex_inv rfl (by rfl) (by rfl) (by rfl) (hin4) ?_; refine Ex_mv rfl rfl ?_; refine Ex_ift (show ¬ nI 1 = 0 by decide) ?_; refine Ex_mv rfl rfl ?_; refine Ex_getf rfl a1 rfl ?_; refine Ex_mv rfl rfl ?_; refine Ex_iald rfl a2 (vp_in_nI (by omega) (by decide)) ?_
                rw [eat]
                refine Ex_mv rfl rfl ?_; refine Ex_mv rfl rfl ?_; refine Ex_mv rfl rfl ?_; refine Ex_ift w0 ?_; refine Ex_mv rfl rfl ?_; refine Ex_mv rfl rfl ?_; refine Ex_mv rfl rfl ?_; refine Ex_iff (not_not_intro w1) ?_; refine Ex_mv rfl rfl ?_; refine Ex_mv rfl rfl ?_; refine Ex_getf rfl hfr rfl ?_; refine Ex_mv rfl rfl ?_; refine Ex_mv rfl rfl ?_; (first | refine Ex_addN rfl ?_ | refine Ex_mv rfl rfl ?_); refine Ex_mv rfl rfl ?_; refine Ex_mv rfl rfl ?_; refine Ex_mv rfl rfl ?_; (first | refine Ex_addN rfl ?_ | refine Ex_mv rfl rfl ?_); refine Ex_invV rfl (by rfl) (by rfl) hfr (by rfl) (f4) ?_; refine Ex_inv rfl (by rfl) (by rfl) (by rfl) (e2) ?_; refine Ex_invV rfl (by rfl) (by rfl) hc3 (by rfl) (e3) ?_; refine Ex_mv rfl rfl ?_
                refine Ex_rt rfl rfl ?_
                exact ⟨rfl, S3, (k3'.tr FF).tr F3⟩
              · rw [if_neg w1]
                refine Ex_mv rfl rfl ?_; refine Ex_mv rfl rfl ?_; refine Ex_mv rfl rfl ?_; refine Ex_mv rfl rfl ?_; refine Ex_getf rfl a1 rfl ?_; refine Ex_mv rfl rfl ?_; (first | refine Ex_subN rfl (by omega) ?_ | refine Ex_mv rfl rfl ?_); refine Ex_inv rfl (by rfl) (by rfl) (by rfl) (hin4) ?_; refine Ex_mv rfl rfl ?_; refine Ex_ift (show ¬ nI 1 = 0 by decide) ?_; refine Ex_mv rfl rfl ?_; refine Ex_getf rfl a1 rfl ?_; refine Ex_mv rfl rfl ?_; refine Ex_iald rfl a2 (vp_in_nI (by omega) (by decide)) ?_
                rw [eat]
                refine Ex_mv rfl rfl ?_; refine Ex_mv rfl rfl ?_; refine Ex_mv rfl rfl ?_; refine Ex_ift w0 ?_; refine Ex_mv rfl rfl ?_; refine Ex_mv rfl rfl ?_; refine Ex_mv rfl rfl ?_; refine Ex_ift w1 ?_; refine Ex_mv rfl rfl ?_
                refine Ex_rt rfl rfl ?_
                exact ⟨rfl, k2, k3⟩
          · rw [if_neg hal] at hin4
            have en : q_attA z kk k (nI ai) = none := by
              unfold q_attA
              rw [if_neg (fun y => y.elim hk0 (nI_pos hai)), haO, nI_clamp hai]
              exact if_neg hal
            rw [en]
            by_cases hq0 : 1 ≤ b2 z.1 q
            · rw [show nI (b2 z.1 q) - nI 1 = nI (b2 z.1 q - 1) from pk_sub hq0] at hin4
              refine Ex_mv rfl rfl ?_; refine Ex_mv rfl rfl ?_; refine Ex_mv rfl rfl ?_; refine Ex_mv rfl rfl ?_; refine Ex_getf rfl a1 rfl ?_; refine Ex_mv rfl rfl ?_; (first | refine Ex_subN rfl (by omega) ?_ | refine Ex_mv rfl rfl ?_); refine Ex_inv rfl (by rfl) (by rfl) (by rfl) (hin4) ?_; refine Ex_mv rfl rfl ?_; refine Ex_iff (not_not_intro (show nI 0 = 0 from rfl)) ?_; refine Ex_mv rfl rfl ?_
              refine Ex_rt rfl rfl ?_
              exact ⟨rfl, k2, k3⟩
            · refine Ex_mv rfl rfl ?_; refine Ex_mv rfl rfl ?_; refine Ex_mv rfl rfl ?_; refine Ex_mv rfl rfl ?_; refine Ex_getf rfl a1 rfl ?_; refine Ex_mv rfl rfl ?_; (first | refine Ex_subN rfl (by omega) ?_ | refine Ex_mv rfl rfl ?_); refine Ex_inv rfl (by rfl) (by rfl) (by rfl) (hin4) ?_; refine Ex_mv rfl rfl ?_; refine Ex_iff (not_not_intro (show nI 0 = 0 from rfl)) ?_; refine Ex_mv rfl rfl ?_
              refine Ex_rt rfl rfl ?_
              exact ⟨rfl, k2, k3⟩
      by_cases hk2 : kk = 2
      · subst hk2
        obtain ⟨b, t1, t2, t3, t7, t8, ow, o1, o2⟩ := hF'.ow
        by_cases k0 : k = 0
        · subst k0
          have tl := tail ow z.2.2.2.2.1 (by decide) rfl o2
          refine Ex_mv rfl rfl ?_; refine Ex_mv rfl rfl ?_; refine Ex_mv rfl rfl ?_; refine Ex_iff (not_not_intro rfl) ?_; refine Ex_mv rfl rfl ?_; refine Ex_mv rfl rfl ?_; refine Ex_ift rfl ?_; refine Ex_mv rfl rfl ?_; refine Ex_mv rfl rfl ?_; refine Ex_mv rfl rfl ?_; refine Ex_iff (not_not_intro rfl) ?_; refine Ex_mv rfl rfl ?_; refine Ex_getf rfl o1 rfl ?_; refine Ex_mv rfl rfl ?_
          exact tl
        · rw [none1 a (by
            by_cases hn : k < 0
            · exact Or.inl hn
            · refine Or.inr ⟨hn, ?_⟩
              unfold aO
              rw [if_pos rfl, if_neg]
              intro e0
              rcases i32_cases k with y | ⟨j, hj, rfl⟩
              · exact hn y
              · rw [nI_clamp hj] at e0
                exact k0 (by rw [e0]; rfl))]
          refine Ex_mv rfl rfl ?_; refine Ex_mv rfl rfl ?_; refine Ex_mv rfl rfl ?_; refine Ex_iff (not_not_intro rfl) ?_; refine Ex_mv rfl rfl ?_; refine Ex_mv rfl rfl ?_; refine Ex_iff k0 ?_; refine Ex_mv rfl rfl ?_; refine Ex_mv rfl rfl ?_
          refine Ex_rt rfl rfl ?_
          exact ⟨rfl, k2, k3⟩
      · have hkk2 : kk < 2 := by omega
        have nk2 : ¬ nI kk = nI 2 := fun y => hk2 ((nI_eq (by omega) (by decide)).mp y)
        obtain ⟨b, t1, t2, t3, t7, t8, ow, ak, gm, gc, c1, c2, c3, ⟨g, c4, c4', c4'', c4'''⟩, c5, c6⟩ := hF'.kd hkk2
        have eg : gc (nI kk).toNatClampNeg = nI (mK z.2.2.2.2.2.1 z.2.2.2.2.2.2.1 kk).length := by rw [nI_clamp (by omega), c6]
        have e2 : gm (nI kk).toNatClampNeg = some ak := by rw [nI_clamp (by omega), c3]
        have hin2 := c_MO_isIdx (nb := nb) (sa := sa) (h := h1) (v := k) (n := (mK z.2.2.2.2.2.1 z.2.2.2.2.2.2.1 kk).length) (by omega)
        have bad : (k < 0 ∨ (¬ k < 0 ∧ aO z.2.2.2.2.1 z.2.2.2.2.2.1 z.2.2.2.2.2.2.1 kk k.toNatClampNeg = none)) → (if k < 0 then 0 else if k.toNatClampNeg < (mK z.2.2.2.2.2.1 z.2.2.2.2.2.2.1 kk).length then 1 else 0 : Nat) = 0 → Ex (prog nb sa) k_MO_attribute 30 [some (.ref m0), some (.int (nI fk)), some (.int (nI kk)), some (.int k), some (.int a), some (.int w), some (.ref f), none, none] [] h1 (fun v h' => v = some (.int (match q_attA z kk k a with | none => (-1, s.2.1) | some p => if w = 0 then shw (txF z (b2 z.1 p)) else if w = 1 then shw (sl z.1 (p + 6) (b4 z.1 (p + 2))) else (-2, s.2.1)).1) ∧ MOs h' m0 nb sa (s.1, (match q_attA z kk k a with | none => (-1, s.2.1) | some p => if w = 0 then shw (txF z (b2 z.1 p)) else if w = 1 then shw (sl z.1 (p + 6) (b4 z.1 (p + 2))) else (-2, s.2.1)).2, s.2.2) 0 ∧ FX m0 h h' 1 400) := by
          intro hq hz
          rw [none1 a hq]
          rw [hz] at hin2
          refine Ex_mv rfl rfl ?_; refine Ex_mv rfl rfl ?_; refine Ex_mv rfl rfl ?_; refine Ex_ift nk2 ?_; refine Ex_mv rfl rfl ?_; refine Ex_mv rfl rfl ?_; refine Ex_mv rfl rfl ?_; refine Ex_getf rfl c1 rfl ?_; refine Ex_mv rfl rfl ?_; refine Ex_iald rfl c5 (vp_in_nI (by omega) (by decide)) ?_
          rw [eg]
          refine Ex_mv rfl rfl ?_; (first | refine Ex_subN rfl (by omega) ?_ | refine Ex_mv rfl rfl ?_); refine Ex_inv rfl (by rfl) (by rfl) (by rfl) (hin2) ?_; refine Ex_mv rfl rfl ?_; refine Ex_iff (not_not_intro (show nI 0 = 0 from rfl)) ?_; refine Ex_mv rfl rfl ?_
          refine Ex_rt rfl rfl ?_
          exact ⟨rfl, k2, k3⟩
        rcases i32_cases k with hn | ⟨j, hj, rfl⟩
        · exact bad (Or.inl hn) (if_pos hn)
        · by_cases hjl : j < (mK z.2.2.2.2.2.1 z.2.2.2.2.2.2.1 kk).length
          · rw [if_neg (nI_pos hj), nI_clamp hj, if_pos hjl] at hin2
            rw [show nI (mK z.2.2.2.2.2.1 z.2.2.2.2.2.2.1 kk).length - nI 1 = nI ((mK z.2.2.2.2.2.1 z.2.2.2.2.2.2.1 kk).length - 1) from pk_sub (by omega)] at hin2
            obtain ⟨u, u1, wu, u2, u3, u4⟩ := c4' j hjl
            have e3 : g (nI j).toNatClampNeg = some u := by rw [nI_clamp (by omega), u1]
            have tl := tail wu _ (nI_pos hj) (by
              rw [nI_clamp hj]
              unfold aO mO
              rw [if_neg hk2, if_pos hjl]; rfl) u3
            refine Ex_mv rfl rfl ?_; refine Ex_mv rfl rfl ?_; refine Ex_mv rfl rfl ?_; refine Ex_ift nk2 ?_; refine Ex_mv rfl rfl ?_; refine Ex_mv rfl rfl ?_; refine Ex_mv rfl rfl ?_; refine Ex_getf rfl c1 rfl ?_; refine Ex_mv rfl rfl ?_; refine Ex_iald rfl c5 (vp_in_nI (by omega) (by decide)) ?_
            rw [eg]
            refine Ex_mv rfl rfl ?_; (first | refine Ex_subN rfl (by omega) ?_ | refine Ex_mv rfl rfl ?_); refine Ex_inv rfl (by rfl) (by rfl) (by rfl) (hin2) ?_; refine Ex_mv rfl rfl ?_; refine Ex_ift (show ¬ nI 1 = 0 by decide) ?_; refine Ex_mv rfl rfl ?_; refine Ex_mv rfl rfl ?_; refine Ex_mv rfl rfl ?_; refine Ex_ift nk2 ?_; refine Ex_mv rfl rfl ?_; refine Ex_getf rfl c1 rfl ?_; refine Ex_mv rfl rfl ?_; refine Ex_aald rfl c2 rfl (vp_in_nI (by omega) (by decide)) e2 ?_; refine Ex_mv rfl rfl ?_; refine Ex_aald rfl c4 rfl (vp_in_nI (by omega) (by omega)) e3 ?_; refine Ex_getf rfl u2 rfl ?_
            exact tl
          · refine bad (Or.inr ⟨nI_pos hj, ?_⟩) ?_
            · rw [nI_clamp hj]
              unfold aO mO
              rw [if_neg hk2, if_neg hjl]; rfl
            · rw [if_neg (nI_pos hj), nI_clamp hj, if_neg hjl]
end REFP
