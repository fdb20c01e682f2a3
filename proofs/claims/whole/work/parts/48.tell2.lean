/-! text, member, told, attribute -/
section TELL2
variable {nb sa : Nat} {h : Hp} {c0 : Nat} {s : Sg}
theorem GG.tofT {B : List Nat} {x : Fs} (h : GG B x) {i t : Nat} (ht : tg B x.1 x.2.1 i = t) (h3 : t = 1 ∨ t = 7 ∨ t = 8) : tg B x.1 x.2.1 (tof B x.1 x.2.1 i 0) = 1 := by
  unfold tof
  rcases h3 with e | e
  · rw [if_pos (ht.trans e)]; exact ht.trans e
  · rw [if_neg (by omega), if_pos (by omega)]
    exact (h.p7 (by omega)).2
theorem i32_02 {w : Int32} (h1 : ¬ w < 0) (h2 : w ≤ nI 2) : w = 0 ∨ w = 1 ∨ w = 2 := by
  rcases i32_cases w with q | ⟨k, hk, rfl⟩
  · exact absurd q h1
  · have := (nI_leI hk (by decide)).mp h2
    have h3 : k = 0 ∨ k = 1 ∨ k = 2 := by omega
    rcases h3 with rfl | rfl | rfl
    · exact Or.inl rfl
    · exact Or.inr (Or.inl rfl)
    · exact Or.inr (Or.inr rfl)
theorem c_CP_text (hS : CPs h c0 s) (hG : SgG s) (f i w : Int32) : EvQ (prog nb sa) m_CP_text [.ref c0, .int f, .int i, .int w] h (fun v h' => v = some (.int (match fA s.2.2.1 f with | none => (-1, s.2.1) | some z => q_text z i w s.2.1).1) ∧ CPs h' c0 (s.1, (match fA s.2.2.1 f with | none => (-1, s.2.1) | some z => q_text z i w s.2.1).2, s.2.2) ∧ FC c0 h h') := by
  obtain ⟨kr, kt, hc⟩ := hS.cell
  rcases c_CP_fileAt (nb := nb) (sa := sa) hS f with ⟨e0, e1⟩ | ⟨z, c, e0, e1, hC, h1, h2, hz⟩
  · rw [e0]
    refine EvQ_of k_CP_text 7 [some (.ref c0), some (.int f), some (.int i), some (.int w), none, none, none] rfl (Nat.le_of_ble_eq_true rfl) rfl ?_
    refine Ex_mv rfl rfl ?_; refine Ex_mv rfl rfl ?_; refine Ex_invV rfl (by rfl) (by rfl) (by assumption) (by rfl) (e1) ?_; refine Ex_mv rfl rfl ?_; refine Ex_mv rfl rfl ?_; refine Ex_mv rfl rfl ?_; refine Ex_mv rfl rfl ?_
    refine Ex_rt rfl rfl ?_
    exact ⟨rfl, hS, FC.rf⟩
  · rw [e0]
    simp only
    have hGz := hG.1 z hz
    have hcc := hC.1
    have hP := CF.po hC
    have hpo := hP.1
    by_cases hw1 : w < 0
    · have e : q_text z i w s.2.1 = (-2, s.2.1) := if_pos (Or.inl hw1)
      rw [e]
      refine EvQ_of k_CP_text 7 [some (.ref c0), some (.int f), some (.int i), some (.int w), none, none, none] rfl (Nat.le_of_ble_eq_true rfl) rfl ?_
      refine Ex_mv rfl rfl ?_; refine Ex_mv rfl rfl ?_; refine Ex_invV rfl (by rfl) (by rfl) (by assumption) (by rfl) (e1) ?_; refine Ex_mv rfl rfl ?_; refine Ex_mv rfl rfl ?_; refine Ex_mv rfl rfl ?_; refine Ex_mv rfl rfl ?_; refine Ex_mv rfl rfl ?_; refine Ex_ift hw1 ?_; refine Ex_mv rfl rfl ?_
      refine Ex_rt rfl rfl ?_
      exact ⟨rfl, hS, FC.rf⟩
    · by_cases hw2 : w ≤ nI 2
      · have hnw : ¬ (w < 0 ∨ nI 2 < w) := fun q => q.elim hw1 (fun y => absurd (Int32.lt_of_lt_of_le y hw2) Int32.lt_irrefl)
        have main : ∀ t : Nat, t = (if w = 0 then 1 else if w = 1 then 7 else 8) → EvQ (prog nb sa) m_CP_text [.ref c0, .int f, .int i, .int w] h (fun v h' => v = some (.int (q_text z i w s.2.1).1) ∧ CPs h' c0 (s.1, (q_text z i w s.2.1).2, s.2.2) ∧ FC c0 h h') := by
          intro t ht
          have htt : t = 1 ∨ t = 7 ∨ t = 8 := by rw [ht]; split <;> (try split) <;> omega
          have tail : Ex (prog nb sa) k_CP_text 46 [some (.ref c0), some (.int f), some (.int i), some (.int w), some (.ref c), none, none] [.int (nI t)] h (fun v h' => v = some (.int (q_text z i w s.2.1).1) ∧ CPs h' c0 (s.1, (q_text z i w s.2.1).2, s.2.2) ∧ FC c0 h h') := by
            rcases i32_cases i with hn | ⟨k, hk, rfl⟩
            · have e : q_text z i w s.2.1 = (-30 - nI 8, s.2.1) := (if_neg hnw).trans (if_pos hn)
              rw [e]
              refine Ex_mv rfl rfl ?_; refine Ex_mv rfl rfl ?_; refine Ex_getf rfl (by assumption) rfl ?_; refine Ex_mv rfl rfl ?_; refine Ex_mv rfl rfl ?_; refine Ex_invV rfl (by rfl) (by rfl) (by assumption) (by rfl) (c_PL_wrongN hP hn) ?_; refine Ex_mv rfl rfl ?_; refine Ex_mv rfl rfl ?_; refine Ex_mv rfl rfl ?_; refine Ex_iff (by decide) ?_; refine Ex_mv rfl rfl ?_; refine Ex_mv rfl rfl ?_; (first | refine Ex_subN rfl (by omega) ?_ | refine Ex_mv rfl rfl ?_)
              refine Ex_rt rfl rfl ?_
              exact ⟨rfl, hS, FC.rf⟩
            · have ek : (nI k).toNatClampNeg = k := nI_clamp hk
              have hwl := wrg_le (B := z.1) (S := z.2.1) (n := z.2.2.1) (i := k) (t := t)
              by_cases hwr : wrg z.1 z.2.1 z.2.2.1 k t = 0
              · have e : q_text z (nI k) w s.2.1 = shw (txF z (tof z.1 z.2.1 z.2.2.1 k 0)) := by
                  unfold q_text
                  rw [if_neg hnw, if_neg (nI_pos hk), ek, ← ht, if_neg (not_not_intro hwr)]
                rw [e]
                have hg1 := wrg0 hwr
                have htof := hGz.tofT hg1.2.1 htt
                have htl := tof_lt (S := z.2.1) (n := z.2.2.1) (CF.row hC).lt (i := k) (by have : z.2.2.1 ≤ 61 := hP.2.2.2.1; omega) 0
                obtain ⟨_, h3, e3, rfl, S3, F3⟩ := c_CP_showText (nb := nb) (sa := sa) hS hC h1 hGz.tv (p := tof z.1 z.2.1 z.2.2.1 k 0) (by omega) htof
                refine Ex_mv rfl rfl ?_; refine Ex_mv rfl rfl ?_; refine Ex_getf rfl (by assumption) rfl ?_; refine Ex_mv rfl rfl ?_; refine Ex_mv rfl rfl ?_; refine Ex_invV rfl (by rfl) (by rfl) (by assumption) (by rfl) (c_PL_wrong hP hk (by omega)) ?_; refine Ex_mv rfl rfl ?_; refine Ex_mv rfl rfl ?_; refine Ex_mv rfl rfl ?_; refine Ex_ift (by rw [hwr]; rfl) ?_; refine Ex_mv rfl rfl ?_; refine Ex_mv rfl rfl ?_; refine Ex_mv rfl rfl ?_; refine Ex_getf rfl (by assumption) rfl ?_; refine Ex_mv rfl rfl ?_; refine Ex_mv rfl rfl ?_; refine Ex_invV rfl (by rfl) (by rfl) (by assumption) (by rfl) (c_PL_textOf hP hk (by decide)) ?_; refine Ex_invV rfl (by rfl) (by rfl) (by assumption) (by rfl) (e3) ?_
                refine Ex_rt rfl rfl ?_
                exact ⟨rfl, S3, F3⟩
              · have e : q_text z (nI k) w s.2.1 = (-30 - nI (wrg z.1 z.2.1 z.2.2.1 k t), s.2.1) := by
                  unfold q_text
                  rw [if_neg hnw, if_neg (nI_pos hk), ek, ← ht, if_pos hwr]
                rw [e]
                refine Ex_mv rfl rfl ?_; refine Ex_mv rfl rfl ?_; refine Ex_getf rfl (by assumption) rfl ?_; refine Ex_mv rfl rfl ?_; refine Ex_mv rfl rfl ?_; refine Ex_invV rfl (by rfl) (by rfl) (by assumption) (by rfl) (c_PL_wrong hP hk (by omega)) ?_; refine Ex_mv rfl rfl ?_; refine Ex_mv rfl rfl ?_; refine Ex_mv rfl rfl ?_; refine Ex_iff (nI_nz hwr (by omega)) ?_; refine Ex_mv rfl rfl ?_; refine Ex_mv rfl rfl ?_; (first | refine Ex_subN rfl (by omega) ?_ | refine Ex_mv rfl rfl ?_)
                refine Ex_rt rfl rfl ?_
                exact ⟨rfl, hS, FC.rf⟩
          refine EvQ_of k_CP_text 7 [some (.ref c0), some (.int f), some (.int i), some (.int w), none, none, none] rfl (Nat.le_of_ble_eq_true rfl) rfl ?_
          rcases i32_02 hw1 hw2 with q | q | q
          · subst q
            have t1 : t = 1 := ht
            subst t1
            refine Ex_mv rfl rfl ?_; refine Ex_mv rfl rfl ?_; refine Ex_invV rfl (by rfl) (by rfl) (by assumption) (by rfl) (e1) ?_; refine Ex_mv rfl rfl ?_; refine Ex_mv rfl rfl ?_; refine Ex_mv rfl rfl ?_; refine Ex_mv rfl rfl ?_; refine Ex_mv rfl rfl ?_; refine Ex_iff hw1 ?_; refine Ex_mv rfl rfl ?_; refine Ex_mv rfl rfl ?_; refine Ex_mv rfl rfl ?_; refine Ex_ift hw2 ?_; refine Ex_mv rfl rfl ?_; refine Ex_mv rfl rfl ?_; refine Ex_iff (by decide) ?_; refine Ex_mv rfl rfl ?_; refine Ex_mv rfl rfl ?_
            exact tail
          · subst q
            have t1 : t = 7 := ht
            subst t1
            refine Ex_mv rfl rfl ?_; refine Ex_mv rfl rfl ?_; refine Ex_invV rfl (by rfl) (by rfl) (by assumption) (by rfl) (e1) ?_; refine Ex_mv rfl rfl ?_; refine Ex_mv rfl rfl ?_; refine Ex_mv rfl rfl ?_; refine Ex_mv rfl rfl ?_; refine Ex_mv rfl rfl ?_; refine Ex_iff hw1 ?_; refine Ex_mv rfl rfl ?_; refine Ex_mv rfl rfl ?_; refine Ex_mv rfl rfl ?_; refine Ex_ift hw2 ?_; refine Ex_mv rfl rfl ?_; refine Ex_mv rfl rfl ?_; refine Ex_ift (by decide) ?_; refine Ex_mv rfl rfl ?_; refine Ex_mv rfl rfl ?_; refine Ex_mv rfl rfl ?_; refine Ex_iff (by decide) ?_; refine Ex_mv rfl rfl ?_; refine Ex_mv rfl rfl ?_
            exact tail
          · subst q
            have t1 : t = 8 := ht
            subst t1
            refine Ex_mv rfl rfl ?_; refine Ex_mv rfl rfl ?_; refine Ex_invV rfl (by rfl) (by rfl) (by assumption) (by rfl) (e1) ?_; refine Ex_mv rfl rfl ?_; refine Ex_mv rfl rfl ?_; refine Ex_mv rfl rfl ?_; refine Ex_mv rfl rfl ?_; refine Ex_mv rfl rfl ?_; refine Ex_iff hw1 ?_; refine Ex_mv rfl rfl ?_; refine Ex_mv rfl rfl ?_; refine Ex_mv rfl rfl ?_; refine Ex_ift hw2 ?_; refine Ex_mv rfl rfl ?_; refine Ex_mv rfl rfl ?_; refine Ex_ift (by decide) ?_; refine Ex_mv rfl rfl ?_; refine Ex_mv rfl rfl ?_; refine Ex_mv rfl rfl ?_; refine Ex_ift (by decide) ?_; refine Ex_mv rfl rfl ?_
            exact tail
        exact main _ rfl
      · have h4 : nI 2 < w := by
          rcases Int32.le_total w (nI 2) with q | q
          · exact absurd q hw2
          · exact Int32.lt_of_le_of_ne q (fun y => hw2 (by rw [← y]; exact Int32.le_refl _))
        have e : q_text z i w s.2.1 = (-2, s.2.1) := if_pos (Or.inr h4)
        rw [e]
        refine EvQ_of k_CP_text 7 [some (.ref c0), some (.int f), some (.int i), some (.int w), none, none, none] rfl (Nat.le_of_ble_eq_true rfl) rfl ?_
        refine Ex_mv rfl rfl ?_; refine Ex_mv rfl rfl ?_; refine Ex_invV rfl (by rfl) (by rfl) (by assumption) (by rfl) (e1) ?_; refine Ex_mv rfl rfl ?_; refine Ex_mv rfl rfl ?_; refine Ex_mv rfl rfl ?_; refine Ex_mv rfl rfl ?_; refine Ex_mv rfl rfl ?_; refine Ex_iff hw1 ?_; refine Ex_mv rfl rfl ?_; refine Ex_mv rfl rfl ?_; refine Ex_mv rfl rfl ?_; refine Ex_iff hw2 ?_; refine Ex_mv rfl rfl ?_
        refine Ex_rt rfl rfl ?_
        exact ⟨rfl, hS, FC.rf⟩
theorem c_CF_classPlaceN {c n bh aa : Nat} {B M0 M1 : List Nat} {S : Nat → Nat} {TL : List (Nat × Nat)} (hC : CF h c B S n bh aa M0 M1 TL) {k : Int32} (hk : k < 0) : Ev (prog nb sa) m_CF_classPlace [.ref c, .int k] h (some (.int (nI 0))) h := by
  refine Ev_ofL k_CF_classPlace 2 [some (.ref c), some (.int k)] rfl (Nat.le_of_ble_eq_true rfl) rfl ?_
  refine Ex_mv rfl rfl ?_; refine Ex_mv rfl rfl ?_; refine Ex_ift hk ?_; refine Ex_mv rfl rfl ?_
  exact Ex_rt rfl rfl ⟨rfl, rfl⟩
theorem c_CP_clsP {c : Nat} {z : Fl} (hC : CFs h c z.1 z.2) (k : Int32) : Ev (prog nb sa) m_CF_classPlace [.ref c, .int k] h (some (.int (nI (q_clsP z k)))) h := by
  unfold q_clsP
  rcases i32_cases k with hn | ⟨j, hj, rfl⟩
  · rw [if_pos hn]; exact c_CF_classPlaceN hC hn
  · rw [if_neg (nI_pos hj), nI_clamp hj]; exact c_CF_classPlace hC hj
theorem q_clsP_7 {z : Fl} (hG : GG z.1 z.2) {k : Int32} (hne : q_clsP z k ≠ 0) : tg z.1 z.2.1 z.2.2.1 (q_clsP z k) = 7 := by
  unfold q_clsP at hne ⊢
  split at hne
  · exact absurd rfl hne
  · next hk =>
    rw [if_neg hk]
    unfold cP at hne ⊢
    split at hne
    · exact absurd rfl hne
    · next hk2 =>
      rw [if_neg hk2]
      rcases hG.1.cls (k := k.toNatClampNeg) (by omega) with ⟨q1, q2⟩ | q
      · rw [q1] at hne; exact absurd q2 hne
      · exact (wrg0 (hG.2.1 _ q)).2.1
theorem c_CP_member (hS : CPs h c0 s) (hG : SgG s) (f kd k w : Int32) : EvQ (prog nb sa) m_CP_member [.ref c0, .int f, .int kd, .int k, .int w] h (fun v h' => v = some (.int (match fA s.2.2.1 f with | none => (-1, s.2.1) | some z => q_member z kd k w s.2.1).1) ∧ CPs h' c0 (s.1, (match fA s.2.2.1 f with | none => (-1, s.2.1) | some z => q_member z kd k w s.2.1).2, s.2.2) ∧ FC c0 h h') := by
  obtain ⟨kr, kt, hc⟩ := hS.cell
  rcases c_CP_fileAt (nb := nb) (sa := sa) hS f with ⟨e0, e1⟩ | ⟨z, c, e0, e1, hC, h1, h2, hz⟩
  · rw [e0]
    refine EvQ_of k_CP_member 7 [some (.ref c0), some (.int f), some (.int kd), some (.int k), some (.int w), none, none] rfl (Nat.le_of_ble_eq_true rfl) rfl ?_
    refine Ex_mv rfl rfl ?_; refine Ex_mv rfl rfl ?_; refine Ex_invV rfl (by rfl) (by rfl) (by assumption) (by rfl) (e1) ?_; refine Ex_mv rfl rfl ?_; refine Ex_mv rfl rfl ?_; refine Ex_mv rfl rfl ?_; refine Ex_mv rfl rfl ?_
    refine Ex_rt rfl rfl ?_
    exact ⟨rfl, hS, FC.rf⟩
  · rw [e0]
    simp only
    have hGz := hG.1 z hz
    have hcc := hC.1
    have hP := CF.po hC
    have hpo := hP.1
    have hrow : RW h (c + 2) z.1 := CF.row hC
    obtain ⟨f2, hr2, -⟩ := id hrow
    by_cases k2 : kd = 2
    · subst k2
      have em : q_member z 2 k w s.2.1 = (if q_clsP z k = 0 then (-1, s.2.1) else if w = 0 then shw (txF z (tof z.1 z.2.1 z.2.2.1 (q_clsP z k) 0)) else (-2, s.2.1)) := if_pos rfl
      have hcl : q_clsP z k < 2 ^ 30 := by
        unfold q_clsP
        split
        · decide
        · unfold cP
          split
          · decide
          · exact Nat.lt_trans (b2_lt hrow.lt _) (by decide)
      have hsc : EvQ (prog nb sa) m_CP_showClass [.ref c0, .ref c, .int k, .int w] h (fun v h' => v = some (.int (q_member z 2 k w s.2.1).1) ∧ CPs h' c0 (s.1, (q_member z 2 k w s.2.1).2, s.2.2) ∧ FC c0 h h') := by
        rw [em]
        by_cases hz0 : q_clsP z k = 0
        · rw [if_pos hz0]
          refine EvQ_of k_CP_showClass 5 [some (.ref c0), some (.ref c), some (.int k), some (.int w), none] rfl (Nat.le_of_ble_eq_true rfl) rfl ?_
          refine Ex_mv rfl rfl ?_; refine Ex_mv rfl rfl ?_; refine Ex_invV rfl (by rfl) (by rfl) (by assumption) (by rfl) (c_CP_clsP hC k) ?_; refine Ex_mv rfl rfl ?_; refine Ex_mv rfl rfl ?_; refine Ex_mv rfl rfl ?_; refine Ex_iff (by rw [hz0]; decide) ?_; refine Ex_mv rfl rfl ?_
          refine Ex_rt rfl rfl ?_
          exact ⟨rfl, hS, FC.rf⟩
        · rw [if_neg hz0]
          have h7 := q_clsP_7 hGz hz0
          by_cases hw0 : w = 0
          · rw [if_pos hw0]
            have htof := hGz.tofT h7 (Or.inr (Or.inl rfl))
            have htl := tof_lt (S := z.2.1) (n := z.2.2.1) hrow.lt hcl 0
            obtain ⟨_, h3, e3, rfl, S3, F3⟩ := c_CP_showText (nb := nb) (sa := sa) hS hC h1 hGz.tv (p := tof z.1 z.2.1 z.2.2.1 (q_clsP z k) 0) (by omega) htof
            refine EvQ_of k_CP_showClass 5 [some (.ref c0), some (.ref c), some (.int k), some (.int w), none] rfl (Nat.le_of_ble_eq_true rfl) rfl ?_
            refine Ex_mv rfl rfl ?_; refine Ex_mv rfl rfl ?_; refine Ex_invV rfl (by rfl) (by rfl) (by assumption) (by rfl) (c_CP_clsP hC k) ?_; refine Ex_mv rfl rfl ?_; refine Ex_mv rfl rfl ?_; refine Ex_mv rfl rfl ?_; refine Ex_ift (nI_nz hz0 (by omega)) ?_; refine Ex_mv rfl rfl ?_; refine Ex_mv rfl rfl ?_; refine Ex_iff (not_not_intro hw0) ?_; refine Ex_mv rfl rfl ?_; refine Ex_mv rfl rfl ?_; refine Ex_mv rfl rfl ?_; refine Ex_getf rfl (by assumption) rfl ?_; refine Ex_mv rfl rfl ?_; refine Ex_mv rfl rfl ?_; refine Ex_invV rfl (by rfl) (by rfl) (by assumption) (by rfl) (c_PL_textOf hP (by omega) (by decide)) ?_; refine Ex_invV rfl (by rfl) (by rfl) (by assumption) (by rfl) (e3) ?_; refine Ex_mv rfl rfl ?_
            refine Ex_rt rfl rfl ?_
            exact ⟨rfl, S3, F3⟩
          · rw [if_neg hw0]
            refine EvQ_of k_CP_showClass 5 [some (.ref c0), some (.ref c), some (.int k), some (.int w), none] rfl (Nat.le_of_ble_eq_true rfl) rfl ?_
            refine Ex_mv rfl rfl ?_; refine Ex_mv rfl rfl ?_; refine Ex_invV rfl (by rfl) (by rfl) (by assumption) (by rfl) (c_CP_clsP hC k) ?_; refine Ex_mv rfl rfl ?_; refine Ex_mv rfl rfl ?_; refine Ex_mv rfl rfl ?_; refine Ex_ift (nI_nz hz0 (by omega)) ?_; refine Ex_mv rfl rfl ?_; refine Ex_mv rfl rfl ?_; refine Ex_ift hw0 ?_; refine Ex_mv rfl rfl ?_
            refine Ex_rt rfl rfl ?_
            exact ⟨rfl, hS, FC.rf⟩
      obtain ⟨_, h3, e3, rfl, S3, F3⟩ := hsc
      refine EvQ_of k_CP_member 7 [some (.ref c0), some (.int f), some (.int 2), some (.int k), some (.int w), none, none] rfl (Nat.le_of_ble_eq_true rfl) rfl ?_
      refine Ex_mv rfl rfl ?_; refine Ex_mv rfl rfl ?_; refine Ex_invV rfl (by rfl) (by rfl) (by assumption) (by rfl) (e1) ?_; refine Ex_mv rfl rfl ?_; refine Ex_mv rfl rfl ?_; refine Ex_mv rfl rfl ?_; refine Ex_mv rfl rfl ?_; refine Ex_mv rfl rfl ?_; refine Ex_mv rfl rfl ?_; refine Ex_iff (not_not_intro rfl) ?_; refine Ex_mv rfl rfl ?_; refine Ex_mv rfl rfl ?_; refine Ex_mv rfl rfl ?_; refine Ex_mv rfl rfl ?_; refine Ex_invV rfl (by rfl) (by rfl) (by assumption) (by rfl) (e3) ?_
      refine Ex_rt rfl rfl ?_
      exact ⟨rfl, S3, F3⟩
    · by_cases k01 : kd = 0 ∨ kd = 1
      · have em : q_member z kd k w s.2.1 = (match q_memA z kd.toNatClampNeg k with | none => (-1, s.2.1) | some m => if w = 0 then shw (txF z (b2 z.1 (m + 2))) else if w = 1 then shw (txF z (b2 z.1 (m + 4))) else (-2, s.2.1)) := (if_neg k2).trans (if_pos k01)
        rw [em]
        have hkn : ∃ j, j < 2 ∧ kd = nI j := by rcases k01 with q | q; exact ⟨0, by decide, q⟩; exact ⟨1, by decide, q⟩
        obtain ⟨j, hj, rfl⟩ := hkn
        have ej : (nI j).toNatClampNeg = j := nI_clamp (by omega)
        rw [ej]
        have hmA : Ev (prog nb sa) m_CF_memberAt [.ref c, .int (nI j), .int k] h (some (.int (oI 0 (q_memA z j k)))) h := by
          unfold q_memA
          rcases i32_cases k with hn | ⟨i, hi, rfl⟩
          · rw [if_pos hn]; exact c_CF_memberAtN hC hn
          · rw [if_neg (nI_pos hi), nI_clamp hi]; exact c_CF_memberAt hC hj hi
        have hstart : ∀ R : Option Value → Hp → Prop, Ex (prog nb sa) k_CP_member 41 [some (.ref c0), some (.int f), some (.int (nI j)), some (.int k), some (.int w), some (.ref c), none] [] h R → Ex (prog nb sa) k_CP_member 0 [some (.ref c0), some (.int f), some (.int (nI j)), some (.int k), some (.int w), none, none] [] h R := by
          intro R K
          have hj01 : j = 0 ∨ j = 1 := by omega
          rcases hj01 with rfl | rfl
          · refine Ex_mv rfl rfl ?_; refine Ex_mv rfl rfl ?_; refine Ex_invV rfl (by rfl) (by rfl) (by assumption) (by rfl) (e1) ?_; refine Ex_mv rfl rfl ?_; refine Ex_mv rfl rfl ?_; refine Ex_mv rfl rfl ?_; refine Ex_mv rfl rfl ?_; refine Ex_mv rfl rfl ?_; refine Ex_mv rfl rfl ?_; refine Ex_ift k2 ?_; refine Ex_mv rfl rfl ?_; refine Ex_mv rfl rfl ?_; refine Ex_ift rfl ?_
            exact K
          · refine Ex_mv rfl rfl ?_; refine Ex_mv rfl rfl ?_; refine Ex_invV rfl (by rfl) (by rfl) (by assumption) (by rfl) (e1) ?_; refine Ex_mv rfl rfl ?_; refine Ex_mv rfl rfl ?_; refine Ex_mv rfl rfl ?_; refine Ex_mv rfl rfl ?_; refine Ex_mv rfl rfl ?_; refine Ex_mv rfl rfl ?_; refine Ex_ift k2 ?_; refine Ex_mv rfl rfl ?_; refine Ex_mv rfl rfl ?_; refine Ex_iff (by decide) ?_; refine Ex_mv rfl rfl ?_; refine Ex_mv rfl rfl ?_; refine Ex_mv rfl rfl ?_; refine Ex_ift rfl ?_
            exact K
        cases hm : q_memA z j k with
        | none =>
          refine EvQ_of k_CP_member 7 [some (.ref c0), some (.int f), some (.int (nI j)), some (.int k), some (.int w), none, none] rfl (Nat.le_of_ble_eq_true rfl) rfl ?_
          refine hstart _ ?_
          refine Ex_mv rfl rfl ?_; refine Ex_mv rfl rfl ?_; refine Ex_mv rfl rfl ?_; refine Ex_invV rfl (by rfl) (by rfl) (by assumption) (by rfl) (hmA) ?_
          rw [hm]
          refine Ex_mv rfl rfl ?_; refine Ex_mv rfl rfl ?_; refine Ex_mv rfl rfl ?_; refine Ex_mv rfl rfl ?_; refine Ex_iff (not_not_intro rfl) ?_; refine Ex_mv rfl rfl ?_
          refine Ex_rt rfl rfl ?_
          exact ⟨rfl, hS, FC.rf⟩
        | some m =>
          have hmm : m ∈ z.2.2.2.2.2.1 ∨ m ∈ z.2.2.2.2.2.2.1 := by
            unfold q_memA at hm
            split at hm
            · cases hm
            · unfold mO at hm
              split at hm
              · next hlt =>
                simp only [Option.some.injEq] at hm
                have hmem : m ∈ mK z.2.2.2.2.2.1 z.2.2.2.2.2.2.1 j := by
                  rw [← hm, List.getD_eq_getElem?_getD, List.getElem?_eq_getElem hlt]; exact List.getElem_mem hlt
                unfold mK at hmem
                split at hmem
                · exact Or.inl hmem
                · exact Or.inr hmem
              · cases hm
          have hm4 : m ≤ 400 := by
            rcases hmm with q | q
            · exact hC.2.2.2.2.2.2.2.2.2.2.2.2.2.1 m q
            · exact hC.2.2.2.2.2.2.2.2.2.2.2.2.2.2.1 m q
          obtain ⟨t2, t4⟩ := hGz.mem hmm
          have b22 := b2_lt hrow.lt (m + 2)
          have b24 := b2_lt hrow.lt (m + 4)
          simp only
          by_cases hw0 : w = 0
          · rw [if_pos hw0]
            obtain ⟨_, h3, e3, rfl, S3, F3⟩ := c_CP_showText (nb := nb) (sa := sa) hS hC h1 hGz.tv (p := b2 z.1 (m + 2)) (by omega) t2
            have hw0' : w = nI 0 := hw0
            subst hw0'
            refine EvQ_of k_CP_member 7 [some (.ref c0), some (.int f), some (.int (nI j)), some (.int k), some (.int (nI 0)), none, none] rfl (Nat.le_of_ble_eq_true rfl) rfl ?_
            refine hstart _ ?_
            refine Ex_mv rfl rfl ?_; refine Ex_mv rfl rfl ?_; refine Ex_mv rfl rfl ?_; refine Ex_invV rfl (by rfl) (by rfl) (by assumption) (by rfl) (hmA) ?_
            rw [hm]
            simp only [oI, Nat.zero_add]
            refine Ex_mv rfl rfl ?_; refine Ex_mv rfl rfl ?_; refine Ex_mv rfl rfl ?_; refine Ex_mv rfl rfl ?_; refine Ex_ift (nI_nm1 (by omega)) ?_; refine Ex_mv rfl rfl ?_; refine Ex_mv rfl rfl ?_; refine Ex_ift rfl ?_; refine Ex_mv rfl rfl ?_; refine Ex_mv rfl rfl ?_; refine Ex_mv rfl rfl ?_; refine Ex_getf rfl (by assumption) rfl ?_; refine Ex_mv rfl rfl ?_; refine Ex_mv rfl rfl ?_; (first | refine Ex_addN rfl ?_ | refine Ex_mv rfl rfl ?_); refine Ex_mv rfl rfl ?_; refine Ex_mv rfl rfl ?_; (first | refine Ex_mulN rfl ?_ | refine Ex_mv rfl rfl ?_); (first | refine Ex_addN rfl ?_ | refine Ex_mv rfl rfl ?_); refine Ex_invV rfl (by rfl) (by rfl) (by assumption) (by rfl) (c_RW_two hrow (by omega)) ?_; refine Ex_invV rfl (by rfl) (by rfl) (by assumption) (by rfl) (e3) ?_
            refine Ex_rt rfl rfl ?_
            exact ⟨rfl, S3, F3⟩
          · rw [if_neg hw0]
            by_cases hw1 : w = 1
            · rw [if_pos hw1]
              obtain ⟨_, h3, e3, rfl, S3, F3⟩ := c_CP_showText (nb := nb) (sa := sa) hS hC h1 hGz.tv (p := b2 z.1 (m + 4)) (by omega) t4
              have hw1' : w = nI 1 := hw1
              subst hw1'
              refine EvQ_of k_CP_member 7 [some (.ref c0), some (.int f), some (.int (nI j)), some (.int k), some (.int (nI 1)), none, none] rfl (Nat.le_of_ble_eq_true rfl) rfl ?_
              refine hstart _ ?_
              refine Ex_mv rfl rfl ?_; refine Ex_mv rfl rfl ?_; refine Ex_mv rfl rfl ?_; refine Ex_invV rfl (by rfl) (by rfl) (by assumption) (by rfl) (hmA) ?_
              rw [hm]
              simp only [oI, Nat.zero_add]
              refine Ex_mv rfl rfl ?_; refine Ex_mv rfl rfl ?_; refine Ex_mv rfl rfl ?_; refine Ex_mv rfl rfl ?_; refine Ex_ift (nI_nm1 (by omega)) ?_; refine Ex_mv rfl rfl ?_; refine Ex_mv rfl rfl ?_; refine Ex_iff (by decide) ?_; refine Ex_mv rfl rfl ?_; refine Ex_mv rfl rfl ?_; refine Ex_mv rfl rfl ?_; refine Ex_ift rfl ?_; refine Ex_mv rfl rfl ?_; refine Ex_mv rfl rfl ?_; refine Ex_mv rfl rfl ?_; refine Ex_getf rfl (by assumption) rfl ?_; refine Ex_mv rfl rfl ?_; refine Ex_mv rfl rfl ?_; (first | refine Ex_addN rfl ?_ | refine Ex_mv rfl rfl ?_); refine Ex_mv rfl rfl ?_; refine Ex_mv rfl rfl ?_; (first | refine Ex_mulN rfl ?_ | refine Ex_mv rfl rfl ?_); (first | refine Ex_addN rfl ?_ | refine Ex_mv rfl rfl ?_); refine Ex_invV rfl (by rfl) (by rfl) (by assumption) (by rfl) (c_RW_two hrow (by omega)) ?_; refine Ex_invV rfl (by rfl) (by rfl) (by assumption) (by rfl) (e3) ?_
              refine Ex_rt rfl rfl ?_
              exact ⟨rfl, S3, F3⟩
            · rw [if_neg hw1]
              refine EvQ_of k_CP_member 7 [some (.ref c0), some (.int f), some (.int (nI j)), some (.int k), some (.int w), none, none] rfl (Nat.le_of_ble_eq_true rfl) rfl ?_
              refine hstart _ ?_
              refine Ex_mv rfl rfl ?_; refine Ex_mv rfl rfl ?_; refine Ex_mv rfl rfl ?_; refine Ex_invV rfl (by rfl) (by rfl) (by assumption) (by rfl) (hmA) ?_
              rw [hm]
              simp only [oI, Nat.zero_add]
              refine Ex_mv rfl rfl ?_; refine Ex_mv rfl rfl ?_; refine Ex_mv rfl rfl ?_; refine Ex_mv rfl rfl ?_; refine Ex_ift (nI_nm1 (by omega)) ?_; refine Ex_mv rfl rfl ?_; refine Ex_mv rfl rfl ?_; refine Ex_iff hw0 ?_; refine Ex_mv rfl rfl ?_; refine Ex_mv rfl rfl ?_; refine Ex_mv rfl rfl ?_; refine Ex_iff hw1 ?_; refine Ex_mv rfl rfl ?_
              refine Ex_rt rfl rfl ?_
              exact ⟨rfl, hS, FC.rf⟩
      · have em : q_member z kd k w s.2.1 = (-2, s.2.1) := (if_neg k2).trans (if_neg k01)
        rw [em]
        refine EvQ_of k_CP_member 7 [some (.ref c0), some (.int f), some (.int kd), some (.int k), some (.int w), none, none] rfl (Nat.le_of_ble_eq_true rfl) rfl ?_
        refine Ex_mv rfl rfl ?_; refine Ex_mv rfl rfl ?_; refine Ex_invV rfl (by rfl) (by rfl) (by assumption) (by rfl) (e1) ?_; refine Ex_mv rfl rfl ?_; refine Ex_mv rfl rfl ?_; refine Ex_mv rfl rfl ?_; refine Ex_mv rfl rfl ?_; refine Ex_mv rfl rfl ?_; refine Ex_mv rfl rfl ?_; refine Ex_ift k2 ?_; refine Ex_mv rfl rfl ?_; refine Ex_mv rfl rfl ?_; refine Ex_iff (fun q => k01 (Or.inl q)) ?_; refine Ex_mv rfl rfl ?_; refine Ex_mv rfl rfl ?_; refine Ex_mv rfl rfl ?_; refine Ex_iff (fun q => k01 (Or.inr q)) ?_; refine Ex_mv rfl rfl ?_
        refine Ex_rt rfl rfl ?_
        exact ⟨rfl, hS, FC.rf⟩
end TELL2
