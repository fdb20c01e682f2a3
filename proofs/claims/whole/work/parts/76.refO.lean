/-! the other side: told, attribute -/
section REFO
variable {nb sa : Nat} {m0 : Nat} {h : Hp} {s : Sg} {c : Nat}
theorem MO_told_loop {t : Nat} {T : List Nat} {a0 a1 a3 a4 a5 a6 : Option Value} (hS : SA h sa) (hT : BA h t T) {R : Option Value → Hp → Prop} : ∀ (f p : Nat) (cc a b : Nat), clo T f p = some cc → p ≤ T.length → T.length + 1 ≤ p + f → (∀ p', Ex (prog nb sa) k_MO_told 134 [a0, a1, some (.int (nI 1)), a3, a4, a5, a6, some (.ref t), some (.int (nI (a + (sumT T f p).1))), some (.int (nI (b + (sumT T f p).2))), some (.int (nI p'))] [] h R) → Ex (prog nb sa) k_MO_told 92 [a0, a1, some (.int (nI 1)), a3, a4, a5, a6, some (.ref t), some (.int (nI a)), some (.int (nI b)), some (.int (nI p))] [] h R
  | 0, p, cc, a, b, hc, hp, hf, K => by omega
  | f + 1, p, cc, a, b, hc, hp, hf, K => by
    obtain ⟨w, g, h1, h2, h3, h4⟩ := id hT
    have hb1 := b1_lt h3 p
    unfold clo at hc
    unfold sumT at K
    by_cases e1 : p < T.length
    · rw [if_pos e1] at hc
      have eg := BA.get (T := T) h2 h4 e1
      by_cases e2 : b1 T p = 41
      · rw [if_pos e2] at K
        have K' := K p
        refine Ex_mv rfl rfl ?_; refine Ex_mv rfl rfl ?_; refine Ex_mv rfl rfl ?_; refine Ex_iff (not_not_intro rfl) ?_; refine Ex_mv rfl rfl ?_; refine Ex_mv rfl rfl ?_; refine Ex_iald rfl (by assumption) (vp_in_nI (by omega) (by omega)) ?_
        rw [eg]
        refine Ex_mv rfl rfl ?_; refine Ex_mv rfl rfl ?_; refine Ex_ift ((sb_eq hb1 (by decide)).mpr e2) ?_
        exact K'
      · rw [if_neg e2] at K hc
        have ty := c_MO_type (nb := nb) hS hT hp
        have sl := c_MO_slotsOf (nb := nb) (sa := sa) hT e1
        cases e3 : tyE T p with
        | none => rw [e3] at hc; cases hc
        | some q =>
          rw [e3] at ty hc K
          rw [oI0] at ty
          have := tyE_b e3
          have last := MO_told_loop (a0 := a0) (a1 := a1) (a3 := a3) (a4 := a4) (a5 := a5) (a6 := a6) hS hT f q cc (a + wdT (b1 T p)) (b + 1) hc (by omega) (by omega) (fun p' => by
            have := K p'
            simp only at this
            rw [show a + wdT (b1 T p) + (sumT T f q).1 = a + ((sumT T f q).1 + wdT (b1 T p)) by omega, show b + 1 + (sumT T f q).2 = b + ((sumT T f q).2 + 1) by omega]
            exact this)
          refine Ex_mv rfl rfl ?_; refine Ex_mv rfl rfl ?_; refine Ex_mv rfl rfl ?_; refine Ex_iff (not_not_intro rfl) ?_; refine Ex_mv rfl rfl ?_; refine Ex_mv rfl rfl ?_; refine Ex_iald rfl (by assumption) (vp_in_nI (by omega) (by omega)) ?_
          rw [eg]
          refine Ex_mv rfl rfl ?_; refine Ex_mv rfl rfl ?_; refine Ex_iff (fun z => e2 ((sb_eq hb1 (by decide)).mp z)) ?_; refine Ex_mv rfl rfl ?_; refine Ex_mv rfl rfl ?_; refine Ex_mv rfl rfl ?_; refine Ex_inv rfl (by rfl) (by rfl) (by rfl) (sl) ?_; (first | refine Ex_addN rfl ?_ | refine Ex_mv rfl rfl ?_); refine Ex_mv rfl rfl ?_; (first | refine Ex_incN rfl rfl ?_ | refine Ex_mv rfl rfl ?_); refine Ex_mv rfl rfl ?_; refine Ex_mv rfl rfl ?_; refine Ex_inv rfl (by rfl) (by rfl) (by rfl) (ty) ?_; refine Ex_mv rfl rfl ?_; refine Ex_mv rfl rfl ?_
          exact last
    · rw [if_neg e1] at hc; cases hc
theorem c_MO_told (hS : MOs h m0 nb sa s c) (hG : SgG s) (f kd k w : Int32) : EvQ (prog nb sa) m_MO_told [.ref m0, .int f, .int kd, .int k, .int w] h (fun v h' => v = some (.int (match fA s.2.2.1 f with | none => -1 | some z => q_told z kd k w)) ∧ MOs h' m0 nb sa s 0 ∧ FX m0 h h' 0 0) := by
  obtain ⟨h1, e1, k2, k3⟩ := c_MO_isFile (nb := nb) hS hG.2.2.2.1 f
  obtain ⟨O0, J0, nw0, a0, fl0, ms0, od0, oc0, hc0⟩ := hS.cell
  refine EvQ_of k_MO_told 11 [some (.ref m0), some (.int f), some (.int kd), some (.int k), some (.int w), none, none, none, none, none, none] rfl (Nat.le_of_ble_eq_true rfl) rfl ?_
  rcases okF_cases s.2.2.1 f with ⟨z1, z2⟩ | ⟨fk, z, rfl, hfk, hfk2, z3, z1, z2⟩
  · rw [z1]
    rw [z2] at e1
    refine Ex_mv rfl rfl ?_; refine Ex_mv rfl rfl ?_; refine Ex_invV rfl (by rfl) (by rfl) (by assumption) (by rfl) (e1) ?_; refine Ex_mv rfl rfl ?_; refine Ex_iff (not_not_intro (show nI 0 = 0 from rfl)) ?_; refine Ex_mv rfl rfl ?_
    refine Ex_rt rfl rfl ?_
    exact ⟨rfl, k2, k3⟩
  · rw [z1]
    rw [z2] at e1
    simp only
    have hin := c_MO_isInI (nb := nb) (sa := sa) (h := h1) (v := kd) (lo := nI 0) (hi := nI 1)
    obtain ⟨O, J, nw, a', fl, ms, od, oc, gF, f, hc, hF1, hF2, hF⟩ := k2.file z3 hfk2
    by_cases hw : kd < nI 0 ∨ nI 1 < kd
    · rw [if_pos hw] at hin
      have n0 : ∀ j : Nat, j ≤ 1 → ¬ kd = nI j := fun j hj e => by
        subst e
        exact hw.elim (nI_pos (by omega)) (nI_nlt hj (by decide))
      have eq : q_told z kd k w = -2 := if_neg (fun q => q.elim (n0 0 (by decide)) (n0 1 (by decide)))
      rw [eq]
      refine Ex_mv rfl rfl ?_; refine Ex_mv rfl rfl ?_; refine Ex_invV rfl (by rfl) (by rfl) (by assumption) (by rfl) (e1) ?_; refine Ex_mv rfl rfl ?_; refine Ex_ift (show ¬ nI 1 = 0 by decide) ?_; refine Ex_mv rfl rfl ?_; refine Ex_mv rfl rfl ?_; refine Ex_mv rfl rfl ?_; refine Ex_inv rfl (by rfl) (by rfl) (by rfl) (hin) ?_; refine Ex_mv rfl rfl ?_; refine Ex_iff (not_not_intro (show nI 0 = 0 from rfl)) ?_; refine Ex_mv rfl rfl ?_
      refine Ex_rt rfl rfl ?_
      exact ⟨rfl, k2, k3⟩
    · rw [if_neg hw] at hin
      obtain ⟨kk, rfl, hkk⟩ := i32_n (by decide) hw
      have hl6 := hG.2.2.2.1
      have hGz := hG.1 z (List.mem_of_getElem? z3)
      have hF' : HF (muM m0) h1 f (z.1, z.2) := hF
      have hlt := hF'.lt.1
      have hn61 : z.2.2.1 ≤ 61 := hGz.1.2.2.1
      have hl4 := hF'.lt.2
      obtain ⟨bb, hb2, -⟩ := hF'.hb
      have hkk2 : kk < 2 := by omega
      have k01 : nI kk = 0 ∨ nI kk = 1 := by
        have : kk = 0 ∨ kk = 1 := by omega
        rcases this with rfl | rfl
        · exact Or.inl rfl
        · exact Or.inr rfl
      obtain ⟨b, t1, t2, t3, t7, t8, ow, ak, gm, gc, c1, c2, c3, ⟨g, c4, c4', c4'', c4'''⟩, c5, c6⟩ := hF'.kd hkk2
      have eg : gc (nI kk).toNatClampNeg = nI (mK z.2.2.2.2.2.1 z.2.2.2.2.2.2.1 kk).length := by rw [nI_clamp (by omega), c6]
      have e2 : gm (nI kk).toNatClampNeg = some ak := by rw [nI_clamp (by omega), c3]
      have hin2 := c_MO_isIdx (nb := nb) (sa := sa) (h := h1) (v := k) (n := (mK z.2.2.2.2.2.1 z.2.2.2.2.2.2.1 kk).length) (by omega)
      have bad : q_memA z kk k = none → (if k < 0 then 0 else if k.toNatClampNeg < (mK z.2.2.2.2.2.1 z.2.2.2.2.2.2.1 kk).length then 1 else 0 : Nat) = 0 → (nI (mK z.2.2.2.2.2.1 z.2.2.2.2.2.2.1 kk).length - nI 1 = nI ((mK z.2.2.2.2.2.1 z.2.2.2.2.2.2.1 kk).length - 1) ∨ True) → Ex (prog nb sa) k_MO_told 0 [some (.ref m0), some (.int (nI fk)), some (.int (nI kk)), some (.int k), some (.int w), none, none, none, none, none, none] [] h (fun v h' => v = some (.int (q_told z (nI kk) k w)) ∧ MOs h' m0 nb sa s 0 ∧ FX m0 h h' 0 0) := by
        intro hq hz _
        have eq : q_told z (nI kk) k w = -1 := by
          unfold q_told
          rw [if_pos k01, nI_clamp (by omega), hq]
        rw [eq]
        rw [hz] at hin2
        refine Ex_mv rfl rfl ?_; refine Ex_mv rfl rfl ?_; refine Ex_invV rfl (by rfl) (by rfl) (by assumption) (by rfl) (e1) ?_; refine Ex_mv rfl rfl ?_; refine Ex_ift (show ¬ nI 1 = 0 by decide) ?_; refine Ex_mv rfl rfl ?_; refine Ex_mv rfl rfl ?_; refine Ex_mv rfl rfl ?_; refine Ex_inv rfl (by rfl) (by rfl) (by rfl) (hin) ?_; refine Ex_mv rfl rfl ?_; refine Ex_ift (show ¬ nI 1 = 0 by decide) ?_; refine Ex_mv rfl rfl ?_; refine Ex_getf rfl hc rfl ?_; refine Ex_mv rfl rfl ?_; refine Ex_aald rfl hF1 rfl (vp_in_nI (by omega) (by decide)) hF2 ?_; refine Ex_mv rfl rfl ?_; refine Ex_mv rfl rfl ?_; refine Ex_mv rfl rfl ?_; refine Ex_mv rfl rfl ?_; refine Ex_getf rfl c1 rfl ?_; refine Ex_mv rfl rfl ?_; refine Ex_iald rfl c5 (vp_in_nI (by omega) (by decide)) ?_
        rw [eg]
        refine Ex_mv rfl rfl ?_; (first | refine Ex_subN rfl (by omega) ?_ | refine Ex_mv rfl rfl ?_); refine Ex_inv rfl (by rfl) (by rfl) (by rfl) (hin2) ?_; refine Ex_mv rfl rfl ?_; refine Ex_iff (not_not_intro (show nI 0 = 0 from rfl)) ?_; refine Ex_mv rfl rfl ?_
        refine Ex_rt rfl rfl ?_
        exact ⟨rfl, k2, k3⟩
      rcases i32_cases k with hn | ⟨j, hj, rfl⟩
      · exact bad (if_pos hn) (if_pos hn) (Or.inr trivial)
      · by_cases hjl : j < (mK z.2.2.2.2.2.1 z.2.2.2.2.2.2.1 kk).length
        · rw [if_neg (nI_pos hj), nI_clamp hj, if_pos hjl] at hin2
          rw [show nI (mK z.2.2.2.2.2.1 z.2.2.2.2.2.2.1 kk).length - nI 1 = nI ((mK z.2.2.2.2.2.1 z.2.2.2.2.2.2.1 kk).length - 1) from pk_sub (by omega)] at hin2
          have hqm : q_memA z kk (nI j) = some ((mK z.2.2.2.2.2.1 z.2.2.2.2.2.2.1 kk).getD j 0) := by
            unfold q_memA mO
            rw [if_neg (nI_pos hj), nI_clamp hj, if_pos hjl]
          obtain ⟨u, u1, wu, u2, ⟨u3u, u3g, u3, -⟩, u4⟩ := c4' j hjl
          have e3 : g (nI j).toNatClampNeg = some u := by rw [nI_clamp (by omega), u1]
          have hmem : (mK z.2.2.2.2.2.1 z.2.2.2.2.2.2.1 kk).getD j 0 ∈ mK z.2.2.2.2.2.1 z.2.2.2.2.2.2.1 kk := by
            rw [List.getD_eq_getElem?_getD, List.getElem?_eq_getElem hjl]; exact List.getElem_mem hjl
          generalize hmm : (mK z.2.2.2.2.2.1 z.2.2.2.2.2.2.1 kk).getD j 0 = m at *
          have hm8 := hGz.1.memle hmem
          obtain ⟨tg2, tg4⟩ := hGz.mem (mK_or hmem)
          obtain ⟨t, so, bt⟩ := c_MO_sortOf (nb := nb) (sa := sa) (m0 := m0) hF' hn61 hkk2 hjl hmm (by omega) tg4
          have hok : okS kk (txF z (b2 z.1 (m + 4))) = true := by
            have hj01 : kk = 0 ∨ kk = 1 := by omega
            rcases hj01 with rfl | rfl
            · exact hGz.2.2.1 m hmem
            · exact hGz.2.2.2 m hmem
          have hSA : SA h1 sa := by
            obtain ⟨O', J', _, _, _, _, _, _, _, hR⟩ := k2
            exact hR.2.2.2.2.2.2.2.2.sa
          have tw := c_MH_two (nb := nb) (sa := sa) hb2 (p := m) (by omega)
          have eq : q_told z (nI kk) (nI j) w = (if w = 0 then nI (b2 z.1 m) else if w = 1 then nI (b2 z.1 (m + 6)) else if w = 2 then (if nI kk = 0 then nI (wdT (b1 (txF z (b2 z.1 (m + 4))) 0)) else nI (sumM (txF z (b2 z.1 (m + 4)))).1) else if w = 3 then (if nI kk = 0 then 0 else nI (sumM (txF z (b2 z.1 (m + 4)))).2) else -2) := by
            unfold q_told
            rw [if_pos k01, nI_clamp (by omega), hqm]
          rw [eq]
          have hBt : BA h1 t (txF z (b2 z.1 (m + 4))) := bt.1
          have fin : ∀ (v8 v9 : Nat) (p' : Int32), (nI v8 = if nI kk = 0 then nI (wdT (b1 (txF z (b2 z.1 (m + 4))) 0)) else nI (sumM (txF z (b2 z.1 (m + 4)))).1) → (nI v9 = if nI kk = 0 then 0 else nI (sumM (txF z (b2 z.1 (m + 4)))).2) → Ex (prog nb sa) k_MO_told 134 [some (.ref m0), some (.int (nI fk)), some (.int (nI kk)), some (.int (nI j)), some (.int w), some (.ref f), some (.ref u), some (.ref t), some (.int (nI v8)), some (.int (nI v9)), some (.int p')] [] h1 (fun v h' => v = some (.int (if w = 0 then nI (b2 z.1 m) else if w = 1 then nI (b2 z.1 (m + 6)) else if w = 2 then (if nI kk = 0 then nI (wdT (b1 (txF z (b2 z.1 (m + 4))) 0)) else nI (sumM (txF z (b2 z.1 (m + 4)))).1) else if w = 3 then (if nI kk = 0 then 0 else nI (sumM (txF z (b2 z.1 (m + 4)))).2) else -2)) ∧ MOs h' m0 nb sa s 0 ∧ FX m0 h h' 0 0) := by
            intro v8 v9 p' q8 q9
            rw [← q8, ← q9]
            refine Ex_mv rfl rfl ?_; refine Ex_mv rfl rfl ?_
            (first | refine Ex_swN (k := 0) rfl (by omega) (by omega) (fun b136 => ?_) (fun b136_0 => ?_) | refine Ex_sw (fun b136 => ?_) (fun b136_0 => ?_))
            · refine Ex_mv rfl rfl ?_; refine Ex_mv rfl rfl ?_; refine Ex_getf rfl u2 rfl ?_; refine Ex_invV rfl (by rfl) (by rfl) c1 (by rfl) (tw) ?_
              refine Ex_rt rfl rfl ?_
              exact ⟨by rw [if_pos b136], k2, k3⟩
            (first | refine Ex_swN (k := 1) rfl (by omega) (by omega) (fun b136 => ?_) (fun b136_1 => ?_) | refine Ex_sw (fun b136 => ?_) (fun b136_1 => ?_))
            · refine Ex_mv rfl rfl ?_; refine Ex_getf rfl u2 rfl ?_; refine Ex_getf rfl u3 rfl ?_
              refine Ex_rt rfl rfl ?_
              exact ⟨by rw [if_neg b136_0, if_pos b136], k2, k3⟩
            (first | refine Ex_swN (k := 2) rfl (by omega) (by omega) (fun b136 => ?_) (fun b136_2 => ?_) | refine Ex_sw (fun b136 => ?_) (fun b136_2 => ?_))
            · refine Ex_mv rfl rfl ?_
              refine Ex_rt rfl rfl ?_
              exact ⟨by rw [if_neg b136_0, if_neg b136_1, if_pos b136], k2, k3⟩
            (first | refine Ex_swN (k := 3) rfl (by omega) (by omega) (fun b136 => ?_) (fun b136_3 => ?_) | refine Ex_sw (fun b136 => ?_) (fun b136_3 => ?_))
            · refine Ex_mv rfl rfl ?_
              refine Ex_rt rfl rfl ?_
              exact ⟨by rw [if_neg b136_0, if_neg b136_1, if_neg b136_2, if_pos b136], k2, k3⟩
            refine Ex_sw0 ?_
            refine Ex_mv rfl rfl ?_
            refine Ex_rt rfl rfl ?_
            exact ⟨by rw [if_neg b136_0, if_neg b136_1, if_neg b136_2, if_neg b136_3], k2, k3⟩
          have hkk01 : kk = 0 ∨ kk = 1 := by omega
          rcases hkk01 with rfl | rfl
          · have hty : tyE (txF z (b2 z.1 (m + 4))) 0 = some (txF z (b2 z.1 (m + 4))).length := of_decide_eq_true hok
            have hpos := (tyE_b hty).1
            have sl := c_MO_slotsOf (nb := nb) (sa := sa) hBt hpos
            have fi := fin _ 0 (nI 1) (by rw [if_pos (show nI 0 = 0 from rfl)]) (by rw [if_pos (show nI 0 = 0 from rfl)]; rfl)
            refine Ex_mv rfl rfl ?_; refine Ex_mv rfl rfl ?_; refine Ex_invV rfl (by rfl) (by rfl) (by assumption) (by rfl) (e1) ?_; refine Ex_mv rfl rfl ?_; refine Ex_ift (show ¬ nI 1 = 0 by decide) ?_; refine Ex_mv rfl rfl ?_; refine Ex_mv rfl rfl ?_; refine Ex_mv rfl rfl ?_; refine Ex_inv rfl (by rfl) (by rfl) (by rfl) (hin) ?_; refine Ex_mv rfl rfl ?_; refine Ex_ift (show ¬ nI 1 = 0 by decide) ?_; refine Ex_mv rfl rfl ?_; refine Ex_getf rfl hc rfl ?_; refine Ex_mv rfl rfl ?_; refine Ex_aald rfl hF1 rfl (vp_in_nI (by omega) (by decide)) hF2 ?_; refine Ex_mv rfl rfl ?_; refine Ex_mv rfl rfl ?_; refine Ex_mv rfl rfl ?_; refine Ex_mv rfl rfl ?_; refine Ex_getf rfl c1 rfl ?_; refine Ex_mv rfl rfl ?_; refine Ex_iald rfl c5 (vp_in_nI (by omega) (by decide)) ?_
            rw [eg]
            refine Ex_mv rfl rfl ?_; (first | refine Ex_subN rfl (by omega) ?_ | refine Ex_mv rfl rfl ?_); refine Ex_inv rfl (by rfl) (by rfl) (by rfl) (hin2) ?_; refine Ex_mv rfl rfl ?_; refine Ex_ift (show ¬ nI 1 = 0 by decide) ?_; refine Ex_mv rfl rfl ?_; refine Ex_getf rfl c1 rfl ?_; refine Ex_mv rfl rfl ?_; refine Ex_aald rfl c2 rfl (vp_in_nI (by omega) (by decide)) e2 ?_; refine Ex_mv rfl rfl ?_; refine Ex_aald rfl c4 rfl (vp_in_nI (by omega) (by omega)) e3 ?_; refine Ex_mv rfl rfl ?_; refine Ex_mv rfl rfl ?_; refine Ex_mv rfl rfl ?_; refine Ex_mv rfl rfl ?_; refine Ex_mv rfl rfl ?_; refine Ex_invV rfl (by rfl) (by rfl) hc (by rfl) (so) ?_; refine Ex_mv rfl rfl ?_; refine Ex_mv rfl rfl ?_; refine Ex_mv rfl rfl ?_; refine Ex_iff (not_not_intro (show nI 0 = 0 from rfl)) ?_; refine Ex_mv rfl rfl ?_; refine Ex_mv rfl rfl ?_; refine Ex_inv rfl (by rfl) (by rfl) (by rfl) (sl) ?_; refine Ex_mv rfl rfl ?_; refine Ex_mv rfl rfl ?_; refine Ex_mv rfl rfl ?_; refine Ex_mv rfl rfl ?_; refine Ex_mv rfl rfl ?_; refine Ex_mv rfl rfl ?_; refine Ex_mv rfl rfl ?_; refine Ex_mv rfl rfl ?_; refine Ex_mv rfl rfl ?_; refine Ex_ift (show ¬ nI 0 = nI 1 by decide) ?_
            exact fi
          · have hmt : mthT (txF z (b2 z.1 (m + 4))) = true := hok
            have hcl : ∃ q, cloT (txF z (b2 z.1 (m + 4))) = some q := by
              unfold mthT at hmt
              split at hmt
              · cases hmt
              · next q hq => exact ⟨q, hq⟩
            obtain ⟨q, hq⟩ := hcl
            have hpos : 0 < (txF z (b2 z.1 (m + 4))).length := by have := cloT_b hq; omega
            have hq2 : clo (txF z (b2 z.1 (m + 4))) (txF z (b2 z.1 (m + 4))).length 1 = some q := by unfold cloT at hq; split at hq <;> first | exact hq | cases hq
            have lp := MO_told_loop (nb := nb) (a0 := some (.ref m0)) (a1 := some (.int (nI fk))) (a3 := some (.int (nI j))) (a4 := some (.int w)) (a5 := some (.ref f)) (a6 := some (.ref u)) hSA hBt _ 1 q 0 0 hq2 (by omega) (by omega) (fun p' => fin _ _ (nI p') (by rw [if_neg (show ¬ nI 1 = 0 by decide), Nat.zero_add]; rfl) (by rw [if_neg (show ¬ nI 1 = 0 by decide), Nat.zero_add]; rfl))
            refine Ex_mv rfl rfl ?_; refine Ex_mv rfl rfl ?_; refine Ex_invV rfl (by rfl) (by rfl) (by assumption) (by rfl) (e1) ?_; refine Ex_mv rfl rfl ?_; refine Ex_ift (show ¬ nI 1 = 0 by decide) ?_; refine Ex_mv rfl rfl ?_; refine Ex_mv rfl rfl ?_; refine Ex_mv rfl rfl ?_; refine Ex_inv rfl (by rfl) (by rfl) (by rfl) (hin) ?_; refine Ex_mv rfl rfl ?_; refine Ex_ift (show ¬ nI 1 = 0 by decide) ?_; refine Ex_mv rfl rfl ?_; refine Ex_getf rfl hc rfl ?_; refine Ex_mv rfl rfl ?_; refine Ex_aald rfl hF1 rfl (vp_in_nI (by omega) (by decide)) hF2 ?_; refine Ex_mv rfl rfl ?_; refine Ex_mv rfl rfl ?_; refine Ex_mv rfl rfl ?_; refine Ex_mv rfl rfl ?_; refine Ex_getf rfl c1 rfl ?_; refine Ex_mv rfl rfl ?_; refine Ex_iald rfl c5 (vp_in_nI (by omega) (by decide)) ?_
            rw [eg]
            refine Ex_mv rfl rfl ?_; (first | refine Ex_subN rfl (by omega) ?_ | refine Ex_mv rfl rfl ?_); refine Ex_inv rfl (by rfl) (by rfl) (by rfl) (hin2) ?_; refine Ex_mv rfl rfl ?_; refine Ex_ift (show ¬ nI 1 = 0 by decide) ?_; refine Ex_mv rfl rfl ?_; refine Ex_getf rfl c1 rfl ?_; refine Ex_mv rfl rfl ?_; refine Ex_aald rfl c2 rfl (vp_in_nI (by omega) (by decide)) e2 ?_; refine Ex_mv rfl rfl ?_; refine Ex_aald rfl c4 rfl (vp_in_nI (by omega) (by omega)) e3 ?_; refine Ex_mv rfl rfl ?_; refine Ex_mv rfl rfl ?_; refine Ex_mv rfl rfl ?_; refine Ex_mv rfl rfl ?_; refine Ex_mv rfl rfl ?_; refine Ex_invV rfl (by rfl) (by rfl) hc (by rfl) (so) ?_; refine Ex_mv rfl rfl ?_; refine Ex_mv rfl rfl ?_; refine Ex_mv rfl rfl ?_; refine Ex_ift (show ¬ nI 1 = 0 by decide) ?_; refine Ex_mv rfl rfl ?_; refine Ex_mv rfl rfl ?_; refine Ex_mv rfl rfl ?_; refine Ex_mv rfl rfl ?_; refine Ex_mv rfl rfl ?_; refine Ex_mv rfl rfl ?_
            exact lp
        · refine bad ?_ ?_ (Or.inr trivial)
          · unfold q_memA mO
            rw [if_neg (nI_pos hj), nI_clamp hj, if_neg hjl]
          · rw [if_neg (nI_pos hj), nI_clamp hj, if_neg hjl]
end REFO
