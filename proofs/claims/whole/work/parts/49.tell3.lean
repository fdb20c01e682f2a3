/-! told, attribute -/
section TELL3
variable {nb sa : Nat} {h : Hp} {c0 : Nat} {s : Sg}
theorem q_memA_ev {c : Nat} {z : Fl} (hC : CFs h c z.1 z.2) {j : Nat} (hj : j < 2) (k : Int32) : Ev (prog nb sa) m_CF_memberAt [.ref c, .int (nI j), .int k] h (some (.int (oI 0 (q_memA z j k)))) h := by
  unfold q_memA
  rcases i32_cases k with hn | ⟨i, hi, rfl⟩
  · rw [if_pos hn]; exact c_CF_memberAtN hC hn
  · rw [if_neg (nI_pos hi), nI_clamp hi]; exact c_CF_memberAt hC hj hi
theorem q_memA_in {z : Fl} {j : Nat} {k : Int32} {m : Nat} (hm : q_memA z j k = some m) : m ∈ mK z.2.2.2.2.2.1 z.2.2.2.2.2.2.1 j := by
  unfold q_memA at hm
  split at hm
  · cases hm
  · unfold mO at hm
    split at hm
    · next hlt =>
      simp only [Option.some.injEq] at hm
      rw [← hm, List.getD_eq_getElem?_getD, List.getElem?_eq_getElem hlt]; exact List.getElem_mem hlt
    · cases hm
theorem mK_or {A B : List Nat} {j m : Nat} (h : m ∈ mK A B j) : m ∈ A ∨ m ∈ B := by
  unfold mK at h
  split at h
  · exact Or.inl h
  · exact Or.inr h
theorem c_CP_told (hS : CPs h c0 s) (hG : SgG s) (f kd k w : Int32) : Ev (prog nb sa) m_CP_told [.ref c0, .int f, .int kd, .int k, .int w] h (some (.int (match fA s.2.2.1 f with | none => -1 | some z => q_told z kd k w))) h := by
  obtain ⟨kr, kt, hc⟩ := hS.cell
  rcases c_CP_fileAt (nb := nb) (sa := sa) hS f with ⟨e0, e1⟩ | ⟨z, c, e0, e1, hC, h1, h2, hz⟩
  · rw [e0]
    refine Ev_ofL k_CP_told 10 [some (.ref c0), some (.int f), some (.int kd), some (.int k), some (.int w), none, none, none, none, none] rfl (Nat.le_of_ble_eq_true rfl) rfl ?_
    refine Ex_mv rfl rfl ?_; refine Ex_mv rfl rfl ?_; refine Ex_invV rfl (by rfl) (by rfl) (by assumption) (by rfl) (e1) ?_; refine Ex_mv rfl rfl ?_; refine Ex_mv rfl rfl ?_; refine Ex_mv rfl rfl ?_; refine Ex_mv rfl rfl ?_
    exact Ex_rt rfl rfl ⟨rfl, rfl⟩
  · rw [e0]
    simp only
    have hGz := hG.1 z hz
    have hcc := hC.1
    have hP := CF.po hC
    have hpo := hP.1
    have hrow : RW h (c + 2) z.1 := CF.row hC
    obtain ⟨f2, hr2, -⟩ := id hrow
    by_cases k01 : kd = 0 ∨ kd = 1
    · have hkn : ∃ j, j < 2 ∧ kd = nI j := by rcases k01 with q | q; exact ⟨0, by decide, q⟩; exact ⟨1, by decide, q⟩
      obtain ⟨j, hj, rfl⟩ := hkn
      have ej : (nI j).toNatClampNeg = j := nI_clamp (by omega)
      unfold q_told
      rw [if_pos k01, ej]
      have hmA : Ev (prog nb sa) m_CF_memberAt [.ref c, .int (nI j), .int k] h (some (.int (oI 0 (q_memA z j k)))) h := q_memA_ev hC hj k
      have hstart : ∀ R : Option Value → Hp → Prop, Ex (prog nb sa) k_CP_told 26 [some (.ref c0), some (.int f), some (.int (nI j)), some (.int k), some (.int w), some (.ref c), none, none, none, none] [] h R → Ex (prog nb sa) k_CP_told 0 [some (.ref c0), some (.int f), some (.int (nI j)), some (.int k), some (.int w), none, none, none, none, none] [] h R := by
        intro R K
        have hj01 : j = 0 ∨ j = 1 := by omega
        rcases hj01 with rfl | rfl
        · refine Ex_mv rfl rfl ?_; refine Ex_mv rfl rfl ?_; refine Ex_invV rfl (by rfl) (by rfl) (by assumption) (by rfl) (e1) ?_; refine Ex_mv rfl rfl ?_; refine Ex_mv rfl rfl ?_; refine Ex_mv rfl rfl ?_; refine Ex_mv rfl rfl ?_; refine Ex_mv rfl rfl ?_; refine Ex_ift rfl ?_
          exact K
        · refine Ex_mv rfl rfl ?_; refine Ex_mv rfl rfl ?_; refine Ex_invV rfl (by rfl) (by rfl) (by assumption) (by rfl) (e1) ?_; refine Ex_mv rfl rfl ?_; refine Ex_mv rfl rfl ?_; refine Ex_mv rfl rfl ?_; refine Ex_mv rfl rfl ?_; refine Ex_mv rfl rfl ?_; refine Ex_iff (by decide) ?_; refine Ex_mv rfl rfl ?_; refine Ex_mv rfl rfl ?_; refine Ex_mv rfl rfl ?_; refine Ex_ift rfl ?_
          exact K
      cases hm : q_memA z j k with
      | none =>
        refine Ev_ofL k_CP_told 10 [some (.ref c0), some (.int f), some (.int (nI j)), some (.int k), some (.int w), none, none, none, none, none] rfl (Nat.le_of_ble_eq_true rfl) rfl ?_
        refine hstart _ ?_
        refine Ex_mv rfl rfl ?_; refine Ex_mv rfl rfl ?_; refine Ex_mv rfl rfl ?_; refine Ex_invV rfl (by rfl) (by rfl) (by assumption) (by rfl) (hmA) ?_
        rw [hm]
        refine Ex_mv rfl rfl ?_; refine Ex_mv rfl rfl ?_; refine Ex_mv rfl rfl ?_; refine Ex_mv rfl rfl ?_; refine Ex_iff (not_not_intro rfl) ?_; refine Ex_mv rfl rfl ?_
        exact Ex_rt rfl rfl ⟨rfl, rfl⟩
      | some m =>
        have hmj := q_memA_in hm
        have hmm := mK_or hmj
        have hm4 : m ≤ 400 := by
          rcases hmm with q | q
          · exact hC.2.2.2.2.2.2.2.2.2.2.2.2.2.1 m q
          · exact hC.2.2.2.2.2.2.2.2.2.2.2.2.2.2.1 m q
        obtain ⟨t2, t4⟩ := hGz.mem hmm
        have b24 := b2_lt hrow.lt (m + 4)
        obtain ⟨tI, tl⟩ := TI.of hrow hGz.tv t4
        have hok : okS j (txF z (b2 z.1 (m + 4))) = true := by
          have hj01 : j = 0 ∨ j = 1 := by omega
          rcases hj01 with rfl | rfl
          · exact hGz.2.2.1 m hmj
          · exact hGz.2.2.2 m hmj
        have hst := st_le (n := z.2.2.1) hP.2.2.2.2 (b2 z.1 (m + 4))
        have hpre : ∀ R : Option Value → Hp → Prop, Ex (prog nb sa) k_CP_told 84 [some (.ref c0), some (.int f), some (.int (nI j)), some (.int k), some (.int w), some (.ref c), some (.int (nI m)), some (.int (nI (b2 z.1 (m + 4)))), some (.int (nI (st z.2.1 z.2.2.1 (b2 z.1 (m + 4)) + 3))), some (.int (nI (st z.2.1 z.2.2.1 (b2 z.1 (m + 4)) + 3 + (tx z.1 z.2.1 z.2.2.1 (b2 z.1 (m + 4))).length)))] [] h R → Ex (prog nb sa) k_CP_told 26 [some (.ref c0), some (.int f), some (.int (nI j)), some (.int k), some (.int w), some (.ref c), none, none, none, none] [] h R := by
          intro R K
          rw [tl] at K
          refine Ex_mv rfl rfl ?_; refine Ex_mv rfl rfl ?_; refine Ex_mv rfl rfl ?_; refine Ex_invV rfl (by rfl) (by rfl) (by assumption) (by rfl) (hmA) ?_
          rw [hm]
          simp only [oI, Nat.zero_add]
          refine Ex_mv rfl rfl ?_; refine Ex_mv rfl rfl ?_; refine Ex_mv rfl rfl ?_; refine Ex_mv rfl rfl ?_; refine Ex_ift (nI_nm1 (by omega)) ?_; refine Ex_mv rfl rfl ?_; refine Ex_getf rfl (by assumption) rfl ?_; refine Ex_mv rfl rfl ?_; refine Ex_mv rfl rfl ?_; (first | refine Ex_addN rfl ?_ | refine Ex_mv rfl rfl ?_); refine Ex_invV rfl (by rfl) (by rfl) (by assumption) (by rfl) (c_RW_two hrow (by omega)) ?_; refine Ex_mv rfl rfl ?_; refine Ex_mv rfl rfl ?_; refine Ex_getf rfl (by assumption) rfl ?_; refine Ex_mv rfl rfl ?_; refine Ex_invV rfl (by rfl) (by rfl) (by assumption) (by rfl) (c_PL_textAt hP (by omega)) ?_; refine Ex_mv rfl rfl ?_; refine Ex_mv rfl rfl ?_; refine Ex_mv rfl rfl ?_; refine Ex_getf rfl (by assumption) rfl ?_; refine Ex_mv rfl rfl ?_; refine Ex_invV rfl (by rfl) (by rfl) (by assumption) (by rfl) (c_PL_textSize hP (by omega)) ?_; (first | refine Ex_addN rfl ?_ | refine Ex_mv rfl rfl ?_); refine Ex_mv rfl rfl ?_
          exact K
        simp only
        have hj01 : j = 0 ∨ j = 1 := by omega
        rcases hj01 with rfl | rfl
        · have hty : tyE (txF z (b2 z.1 (m + 4))) 0 = some (txF z (b2 z.1 (m + 4))).length := by
            have := hok
            unfold okS at this
            rw [if_pos rfl] at this
            exact of_decide_eq_true this
          have hpos := (tyE_b hty).1
          have hwd := c_SO_width (nb := nb) (sa := sa) tI (p := 0) hpos
          refine Ev_ofL k_CP_told 10 [some (.ref c0), some (.int f), some (.int (nI 0)), some (.int k), some (.int w), none, none, none, none, none] rfl (Nat.le_of_ble_eq_true rfl) rfl ?_
          refine hstart _ (hpre _ ?_)
          refine Ex_mv rfl rfl ?_; refine Ex_mv rfl rfl ?_
          (first | refine Ex_swN (k := 0) rfl (by omega) (by omega) (fun b86 => ?_) (fun b86_0 => ?_) | refine Ex_sw (fun b86 => ?_) (fun b86_0 => ?_))
          · refine Ex_mv rfl rfl ?_; refine Ex_getf rfl (by assumption) rfl ?_; refine Ex_mv rfl rfl ?_; refine Ex_invV rfl (by rfl) (by rfl) (by assumption) (by rfl) (c_RW_two hrow (by omega)) ?_
            refine Ex_rt rfl rfl ⟨?_, rfl⟩
            rw [b86]; rfl
          (first | refine Ex_swN (k := 1) rfl (by omega) (by omega) (fun b86 => ?_) (fun b86_1 => ?_) | refine Ex_sw (fun b86 => ?_) (fun b86_1 => ?_))
          · refine Ex_mv rfl rfl ?_; refine Ex_getf rfl (by assumption) rfl ?_; refine Ex_mv rfl rfl ?_; refine Ex_mv rfl rfl ?_; (first | refine Ex_addN rfl ?_ | refine Ex_mv rfl rfl ?_); refine Ex_invV rfl (by rfl) (by rfl) (by assumption) (by rfl) (c_RW_two hrow (by omega)) ?_
            refine Ex_rt rfl rfl ⟨?_, rfl⟩
            rw [b86]; rfl
          (first | refine Ex_swN (k := 2) rfl (by omega) (by omega) (fun b86 => ?_) (fun b86_2 => ?_) | refine Ex_sw (fun b86 => ?_) (fun b86_2 => ?_))
          · refine Ex_mv rfl rfl ?_; refine Ex_mv rfl rfl ?_; refine Ex_iff (by decide) ?_; refine Ex_mv rfl rfl ?_; refine Ex_getf rfl (by assumption) rfl ?_; refine Ex_mv rfl rfl ?_; refine Ex_inv rfl (by rfl) (by rfl) (by rfl) (hwd) ?_; refine Ex_mv rfl rfl ?_
            refine Ex_rt rfl rfl ⟨?_, rfl⟩
            rw [b86]; rfl
          (first | refine Ex_swN (k := 3) rfl (by omega) (by omega) (fun b86 => ?_) (fun b86_3 => ?_) | refine Ex_sw (fun b86 => ?_) (fun b86_3 => ?_))
          · refine Ex_mv rfl rfl ?_; refine Ex_mv rfl rfl ?_; refine Ex_iff (by decide) ?_; refine Ex_mv rfl rfl ?_; refine Ex_mv rfl rfl ?_
            refine Ex_rt rfl rfl ⟨?_, rfl⟩
            rw [b86]; rfl
          refine Ex_sw0 ?_
          refine Ex_mv rfl rfl ?_
          refine Ex_rt rfl rfl ⟨?_, rfl⟩
          rw [if_neg b86_0, if_neg b86_1, if_neg b86_2, if_neg b86_3]
        · have hmt : mthT (txF z (b2 z.1 (m + 4))) = true := by
            have := hok
            unfold okS at this
            rw [if_neg (by decide)] at this
            exact this
          have hcl : ∃ q, cloT (tx z.1 z.2.1 z.2.2.1 (b2 z.1 (m + 4))) = some q := by
            unfold mthT at hmt
            split at hmt
            · cases hmt
            · next q hq => exact ⟨q, hq⟩
          obtain ⟨q, hq⟩ := hcl
          have hs1 := c_SO_sum (nb := nb) (sa := sa) tI (w := true) hq
          have hs0 := c_SO_sum (nb := nb) (sa := sa) tI (w := false) hq
          have n10 : ¬ nI 1 = (0 : Int32) := by decide
          refine Ev_ofL k_CP_told 10 [some (.ref c0), some (.int f), some (.int (nI 1)), some (.int k), some (.int w), none, none, none, none, none] rfl (Nat.le_of_ble_eq_true rfl) rfl ?_
          refine hstart _ (hpre _ ?_)
          refine Ex_mv rfl rfl ?_; refine Ex_mv rfl rfl ?_
          (first | refine Ex_swN (k := 0) rfl (by omega) (by omega) (fun b86 => ?_) (fun b86_0 => ?_) | refine Ex_sw (fun b86 => ?_) (fun b86_0 => ?_))
          · refine Ex_mv rfl rfl ?_; refine Ex_getf rfl (by assumption) rfl ?_; refine Ex_mv rfl rfl ?_; refine Ex_invV rfl (by rfl) (by rfl) (by assumption) (by rfl) (c_RW_two hrow (by omega)) ?_
            refine Ex_rt rfl rfl ⟨?_, rfl⟩
            rw [b86]; rfl
          (first | refine Ex_swN (k := 1) rfl (by omega) (by omega) (fun b86 => ?_) (fun b86_1 => ?_) | refine Ex_sw (fun b86 => ?_) (fun b86_1 => ?_))
          · refine Ex_mv rfl rfl ?_; refine Ex_getf rfl (by assumption) rfl ?_; refine Ex_mv rfl rfl ?_; refine Ex_mv rfl rfl ?_; (first | refine Ex_addN rfl ?_ | refine Ex_mv rfl rfl ?_); refine Ex_invV rfl (by rfl) (by rfl) (by assumption) (by rfl) (c_RW_two hrow (by omega)) ?_
            refine Ex_rt rfl rfl ⟨?_, rfl⟩
            rw [b86]; rfl
          (first | refine Ex_swN (k := 2) rfl (by omega) (by omega) (fun b86 => ?_) (fun b86_2 => ?_) | refine Ex_sw (fun b86 => ?_) (fun b86_2 => ?_))
          · refine Ex_mv rfl rfl ?_; refine Ex_mv rfl rfl ?_; refine Ex_ift (by decide) ?_; refine Ex_mv rfl rfl ?_; refine Ex_getf rfl (by assumption) rfl ?_; refine Ex_mv rfl rfl ?_; refine Ex_mv rfl rfl ?_; refine Ex_mv rfl rfl ?_; refine Ex_inv rfl (by rfl) (by rfl) (by rfl) (hs1) ?_
            refine Ex_rt rfl rfl ⟨?_, rfl⟩
            rw [b86]; rw [if_neg (by decide), if_neg (by decide), if_pos rfl, if_neg n10]; rfl
          (first | refine Ex_swN (k := 3) rfl (by omega) (by omega) (fun b86 => ?_) (fun b86_3 => ?_) | refine Ex_sw (fun b86 => ?_) (fun b86_3 => ?_))
          · refine Ex_mv rfl rfl ?_; refine Ex_mv rfl rfl ?_; refine Ex_ift (by decide) ?_; refine Ex_mv rfl rfl ?_; refine Ex_getf rfl (by assumption) rfl ?_; refine Ex_mv rfl rfl ?_; refine Ex_mv rfl rfl ?_; refine Ex_mv rfl rfl ?_; refine Ex_inv rfl (by rfl) (by rfl) (by rfl) (hs0) ?_
            refine Ex_rt rfl rfl ⟨?_, rfl⟩
            rw [b86]; rw [if_neg (by decide), if_neg (by decide), if_neg (by decide), if_pos rfl, if_neg n10]; rfl
          refine Ex_sw0 ?_
          refine Ex_mv rfl rfl ?_
          refine Ex_rt rfl rfl ⟨?_, rfl⟩
          rw [if_neg b86_0, if_neg b86_1, if_neg b86_2, if_neg b86_3]
    · have em : q_told z kd k w = -2 := if_neg k01
      rw [em]
      refine Ev_ofL k_CP_told 10 [some (.ref c0), some (.int f), some (.int kd), some (.int k), some (.int w), none, none, none, none, none] rfl (Nat.le_of_ble_eq_true rfl) rfl ?_
      refine Ex_mv rfl rfl ?_; refine Ex_mv rfl rfl ?_; refine Ex_invV rfl (by rfl) (by rfl) (by assumption) (by rfl) (e1) ?_; refine Ex_mv rfl rfl ?_; refine Ex_mv rfl rfl ?_; refine Ex_mv rfl rfl ?_; refine Ex_mv rfl rfl ?_; refine Ex_mv rfl rfl ?_; refine Ex_iff (fun q => k01 (Or.inl q)) ?_; refine Ex_mv rfl rfl ?_; refine Ex_mv rfl rfl ?_; refine Ex_mv rfl rfl ?_; refine Ex_iff (fun q => k01 (Or.inr q)) ?_; refine Ex_mv rfl rfl ?_
      exact Ex_rt rfl rfl ⟨rfl, rfl⟩
theorem q_attA_ev {c : Nat} {z : Fl} (hC : CFs h c z.1 z.2) (hG : GG z.1 z.2) {j : Nat} (hj : j < 3) (k a : Int32) : Ev (prog nb sa) m_CF_attributeAt [.ref c, .int (nI j), .int k, .int a] h (some (.int (oI 0 (q_attA z j k a)))) h := by
  have hl := (CF.row hC).len
  unfold q_attA
  rcases i32_cases k with hn | ⟨i, hi, rfl⟩
  · rw [if_pos (Or.inl hn)]; exact c_CF_attributeAtN hC hj hn
  · rcases i32_cases a with hn | ⟨b, hb, rfl⟩
    · rw [if_pos (Or.inr hn)]; exact c_CF_attributeAtN2 hC hj hi hn
    · rw [if_neg (fun q => q.elim (nI_pos hi) (nI_pos hb)), nI_clamp hi, nI_clamp hb]
      exact c_CF_attributeAt hC hj hi hb (hG.attV hl)
theorem q_attA_ok {z : Fl} (hG : GG z.1 z.2) {j : Nat} {k a : Int32} {p : Nat} (e : q_attA z j k a = some p) : tg z.1 z.2.1 z.2.2.1 (b2 z.1 p) = 1 ∧ p + 6 + b4 z.1 (p + 2) ≤ z.1.length ∧ b4 z.1 (p + 2) < 2 ^ 31 := by
  unfold q_attA at e
  split at e
  · cases e
  · unfold aT at e
    split at e
    · cases e
    · next q hq =>
      split at e
      · next ha =>
        simp only [Option.some.injEq] at e
        rw [← e]
        exact hG.attN hq ha
      · cases e
theorem c_CP_attribute (hS : CPs h c0 s) (hG : SgG s) (f kd k a w : Int32) : EvQ (prog nb sa) m_CP_attribute [.ref c0, .int f, .int kd, .int k, .int a, .int w] h (fun v h' => v = some (.int (match fA s.2.2.1 f with | none => (-1, s.2.1) | some z => q_attr z kd k a w s.2.1).1) ∧ CPs h' c0 (s.1, (match fA s.2.2.1 f with | none => (-1, s.2.1) | some z => q_attr z kd k a w s.2.1).2, s.2.2) ∧ FC c0 h h') := by
  obtain ⟨kr, kt, hc⟩ := hS.cell
  obtain ⟨hT, hO⟩ := hS.rows
  obtain ⟨f3, hr3, -⟩ := id hO
  rcases c_CP_fileAt (nb := nb) (sa := sa) hS f with ⟨e0, e1⟩ | ⟨z, c, e0, e1, hC, h1, h2, hz⟩
  · rw [e0]
    refine EvQ_of k_CP_attribute 8 [some (.ref c0), some (.int f), some (.int kd), some (.int k), some (.int a), some (.int w), none, none] rfl (Nat.le_of_ble_eq_true rfl) rfl ?_
    refine Ex_mv rfl rfl ?_; refine Ex_mv rfl rfl ?_; refine Ex_invV rfl (by rfl) (by rfl) (by assumption) (by rfl) (e1) ?_; refine Ex_mv rfl rfl ?_; refine Ex_mv rfl rfl ?_; refine Ex_mv rfl rfl ?_; refine Ex_mv rfl rfl ?_
    refine Ex_rt rfl rfl ?_
    exact ⟨rfl, hS, FC.rf⟩
  · rw [e0]
    simp only
    have hGz := hG.1 z hz
    have hcc := hC.1
    have hP := CF.po hC
    have hpo := hP.1
    have hrow : RW h (c + 2) z.1 := CF.row hC
    have hl := hrow.len
    obtain ⟨f2, hr2, -⟩ := id hrow
    by_cases k01 : kd = 0 ∨ kd = 1 ∨ kd = 2
    · have hkn : ∃ j, j < 3 ∧ kd = nI j := by rcases k01 with q | q | q; exact ⟨0, by decide, q⟩; exact ⟨1, by decide, q⟩; exact ⟨2, by decide, q⟩
      obtain ⟨j, hj, rfl⟩ := hkn
      have ej : (nI j).toNatClampNeg = j := nI_clamp (by omega)
      have em : q_attr z (nI j) k a w s.2.1 = (match q_attA z (nI j).toNatClampNeg k a with | none => (-1, s.2.1) | some p => if w = 0 then shw (txF z (b2 z.1 p)) else if w = 1 then shw (sl z.1 (p + 6) (b4 z.1 (p + 2))) else (-2, s.2.1)) := if_pos k01
      rw [em, ej]
      have hmA : Ev (prog nb sa) m_CF_attributeAt [.ref c, .int (nI j), .int k, .int a] h (some (.int (oI 0 (q_attA z j k a)))) h := q_attA_ev hC hGz hj k a
      have hstart : ∀ R : Option Value → Hp → Prop, Ex (prog nb sa) k_CP_attribute 31 [some (.ref c0), some (.int f), some (.int (nI j)), some (.int k), some (.int a), some (.int w), some (.ref c), none] [] h R → Ex (prog nb sa) k_CP_attribute 0 [some (.ref c0), some (.int f), some (.int (nI j)), some (.int k), some (.int a), some (.int w), none, none] [] h R := by
        intro R K
        have hj01 : j = 0 ∨ j = 1 ∨ j = 2 := by omega
        rcases hj01 with rfl | rfl | rfl
        · refine Ex_mv rfl rfl ?_; refine Ex_mv rfl rfl ?_; refine Ex_invV rfl (by rfl) (by rfl) (by assumption) (by rfl) (e1) ?_; refine Ex_mv rfl rfl ?_; refine Ex_mv rfl rfl ?_; refine Ex_mv rfl rfl ?_; refine Ex_mv rfl rfl ?_; refine Ex_mv rfl rfl ?_; refine Ex_ift rfl ?_
          exact K
        · refine Ex_mv rfl rfl ?_; refine Ex_mv rfl rfl ?_; refine Ex_invV rfl (by rfl) (by rfl) (by assumption) (by rfl) (e1) ?_; refine Ex_mv rfl rfl ?_; refine Ex_mv rfl rfl ?_; refine Ex_mv rfl rfl ?_; refine Ex_mv rfl rfl ?_; refine Ex_mv rfl rfl ?_; refine Ex_iff (by decide) ?_; refine Ex_mv rfl rfl ?_; refine Ex_mv rfl rfl ?_; refine Ex_mv rfl rfl ?_; refine Ex_ift rfl ?_
          exact K
        · refine Ex_mv rfl rfl ?_; refine Ex_mv rfl rfl ?_; refine Ex_invV rfl (by rfl) (by rfl) (by assumption) (by rfl) (e1) ?_; refine Ex_mv rfl rfl ?_; refine Ex_mv rfl rfl ?_; refine Ex_mv rfl rfl ?_; refine Ex_mv rfl rfl ?_; refine Ex_mv rfl rfl ?_; refine Ex_iff (by decide) ?_; refine Ex_mv rfl rfl ?_; refine Ex_mv rfl rfl ?_; refine Ex_mv rfl rfl ?_; refine Ex_iff (by decide) ?_; refine Ex_mv rfl rfl ?_; refine Ex_mv rfl rfl ?_; refine Ex_mv rfl rfl ?_; refine Ex_ift rfl ?_
          exact K
      cases hm : q_attA z j k a with
      | none =>
        refine EvQ_of k_CP_attribute 8 [some (.ref c0), some (.int f), some (.int (nI j)), some (.int k), some (.int a), some (.int w), none, none] rfl (Nat.le_of_ble_eq_true rfl) rfl ?_
        refine hstart _ ?_
        refine Ex_mv rfl rfl ?_; refine Ex_mv rfl rfl ?_; refine Ex_mv rfl rfl ?_; refine Ex_mv rfl rfl ?_; refine Ex_invV rfl (by rfl) (by rfl) (by assumption) (by rfl) (hmA) ?_
        rw [hm]
        refine Ex_mv rfl rfl ?_; refine Ex_mv rfl rfl ?_; refine Ex_mv rfl rfl ?_; refine Ex_mv rfl rfl ?_; refine Ex_iff (not_not_intro rfl) ?_; refine Ex_mv rfl rfl ?_
        refine Ex_rt rfl rfl ?_
        exact ⟨rfl, hS, FC.rf⟩
      | some p =>
        obtain ⟨t1, t2, t3⟩ := q_attA_ok hGz hm
        have b22 := b2_lt hrow.lt p
        simp only
        by_cases hw0 : w = 0
        · rw [if_pos hw0]
          obtain ⟨_, h3, e3, rfl, S3, F3⟩ := c_CP_showText (nb := nb) (sa := sa) hS hC h1 hGz.tv (p := b2 z.1 p) (by omega) t1
          subst hw0
          refine EvQ_of k_CP_attribute 8 [some (.ref c0), some (.int f), some (.int (nI j)), some (.int k), some (.int a), some (.int 0), none, none] rfl (Nat.le_of_ble_eq_true rfl) rfl ?_
          refine hstart _ ?_
          refine Ex_mv rfl rfl ?_; refine Ex_mv rfl rfl ?_; refine Ex_mv rfl rfl ?_; refine Ex_mv rfl rfl ?_; refine Ex_invV rfl (by rfl) (by rfl) (by assumption) (by rfl) (hmA) ?_
          rw [hm]
          simp only [oI, Nat.zero_add]
          refine Ex_mv rfl rfl ?_; refine Ex_mv rfl rfl ?_; refine Ex_mv rfl rfl ?_; refine Ex_mv rfl rfl ?_; refine Ex_ift (nI_nm1 (by omega)) ?_; refine Ex_mv rfl rfl ?_; refine Ex_mv rfl rfl ?_
          refine Ex_sw (fun _ => ?_) (fun q => absurd rfl q)
          refine Ex_mv rfl rfl ?_; refine Ex_mv rfl rfl ?_; refine Ex_mv rfl rfl ?_; refine Ex_getf rfl (by assumption) rfl ?_; refine Ex_mv rfl rfl ?_; refine Ex_invV rfl (by rfl) (by rfl) (by assumption) (by rfl) (c_RW_two hrow (by omega)) ?_; refine Ex_invV rfl (by rfl) (by rfl) (by assumption) (by rfl) (e3) ?_
          refine Ex_rt rfl rfl ?_
          exact ⟨rfl, S3, F3⟩
        · rw [if_neg hw0]
          by_cases hw1 : w = 1
          · rw [if_pos hw1]
            obtain ⟨_, h3, e3, rfl, R3, F3⟩ := c_RW_take (nb := nb) (sa := sa) hO hrow (by omega) (k := p + 6) (n := b4 z.1 (p + 2)) t2
            have hlen : (sl z.1 (p + 6) (b4 z.1 (p + 2))).length = b4 z.1 (p + 2) := sl_len t2
            subst hw1
            refine EvQ_of k_CP_attribute 8 [some (.ref c0), some (.int f), some (.int (nI j)), some (.int k), some (.int a), some (.int 1), none, none] rfl (Nat.le_of_ble_eq_true rfl) rfl ?_
            refine hstart _ ?_
            refine Ex_mv rfl rfl ?_; refine Ex_mv rfl rfl ?_; refine Ex_mv rfl rfl ?_; refine Ex_mv rfl rfl ?_; refine Ex_invV rfl (by rfl) (by rfl) (by assumption) (by rfl) (hmA) ?_
            rw [hm]
            simp only [oI, Nat.zero_add]
            refine Ex_mv rfl rfl ?_; refine Ex_mv rfl rfl ?_; refine Ex_mv rfl rfl ?_; refine Ex_mv rfl rfl ?_; refine Ex_ift (nI_nm1 (by omega)) ?_; refine Ex_mv rfl rfl ?_; refine Ex_mv rfl rfl ?_
            refine Ex_sw (fun q => absurd q (by decide)) (fun _ => ?_)
            refine Ex_sw (fun _ => ?_) (fun q => absurd rfl q)
            refine Ex_mv rfl rfl ?_; refine Ex_getf rfl (by assumption) rfl ?_; refine Ex_mv rfl rfl ?_; refine Ex_getf rfl (by assumption) rfl ?_; refine Ex_mv rfl rfl ?_; refine Ex_mv rfl rfl ?_; (first | refine Ex_addN rfl ?_ | refine Ex_mv rfl rfl ?_); refine Ex_mv rfl rfl ?_; refine Ex_getf rfl (by assumption) rfl ?_; refine Ex_mv rfl rfl ?_; refine Ex_mv rfl rfl ?_; (first | refine Ex_addN rfl ?_ | refine Ex_mv rfl rfl ?_); refine Ex_invV rfl (by rfl) (by rfl) (by assumption) (by rfl) (c_RW_four hrow (by omega)) ?_; refine Ex_invV rfl (by rfl) (by rfl) (by assumption) (by rfl) (e3) ?_
            refine Ex_rt rfl rfl ?_
            exact ⟨by rw [shw, hlen], hS.shown R3 F3, FC.of F3 (by omega) (by omega)⟩
          · rw [if_neg hw1]
            refine EvQ_of k_CP_attribute 8 [some (.ref c0), some (.int f), some (.int (nI j)), some (.int k), some (.int a), some (.int w), none, none] rfl (Nat.le_of_ble_eq_true rfl) rfl ?_
            refine hstart _ ?_
            refine Ex_mv rfl rfl ?_; refine Ex_mv rfl rfl ?_; refine Ex_mv rfl rfl ?_; refine Ex_mv rfl rfl ?_; refine Ex_invV rfl (by rfl) (by rfl) (by assumption) (by rfl) (hmA) ?_
            rw [hm]
            simp only [oI, Nat.zero_add]
            refine Ex_mv rfl rfl ?_; refine Ex_mv rfl rfl ?_; refine Ex_mv rfl rfl ?_; refine Ex_mv rfl rfl ?_; refine Ex_ift (nI_nm1 (by omega)) ?_; refine Ex_mv rfl rfl ?_; refine Ex_mv rfl rfl ?_
            refine Ex_sw (fun q => absurd q hw0) (fun _ => ?_)
            refine Ex_sw (fun q => absurd q hw1) (fun _ => ?_)
            refine Ex_sw0 ?_
            refine Ex_mv rfl rfl ?_
            refine Ex_rt rfl rfl ?_
            exact ⟨rfl, hS, FC.rf⟩
    · have em : q_attr z kd k a w s.2.1 = (-2, s.2.1) := if_neg k01
      rw [em]
      refine EvQ_of k_CP_attribute 8 [some (.ref c0), some (.int f), some (.int kd), some (.int k), some (.int a), some (.int w), none, none] rfl (Nat.le_of_ble_eq_true rfl) rfl ?_
      refine Ex_mv rfl rfl ?_; refine Ex_mv rfl rfl ?_; refine Ex_invV rfl (by rfl) (by rfl) (by assumption) (by rfl) (e1) ?_; refine Ex_mv rfl rfl ?_; refine Ex_mv rfl rfl ?_; refine Ex_mv rfl rfl ?_; refine Ex_mv rfl rfl ?_; refine Ex_mv rfl rfl ?_; refine Ex_iff (fun q => k01 (Or.inl q)) ?_; refine Ex_mv rfl rfl ?_; refine Ex_mv rfl rfl ?_; refine Ex_mv rfl rfl ?_; refine Ex_iff (fun q => k01 (Or.inr (Or.inl q))) ?_; refine Ex_mv rfl rfl ?_; refine Ex_mv rfl rfl ?_; refine Ex_mv rfl rfl ?_; refine Ex_iff (fun q => k01 (Or.inr (Or.inr q))) ?_; refine Ex_mv rfl rfl ?_
      refine Ex_rt rfl rfl ?_
      exact ⟨rfl, hS, FC.rf⟩
end TELL3
