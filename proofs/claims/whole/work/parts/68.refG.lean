/-! the other side: sorts of members -/
section REFG
variable {nb sa : Nat} {h : Hp} {t : Nat} {T : List Nat}
theorem c_MO_slotsOf (hT : BA h t T) {p : Nat} (hp : p < T.length) : Ev (prog nb sa) m_MO_slotsOf [.ref t, .int (nI p)] h (some (.int (nI (wdT (b1 T p))))) h := by
  obtain ⟨w, g, h1, h2, h3, h4⟩ := hT
  have eg := BA.get (T := T) h2 h4 hp
  have hb := b1_lt h3 p
  refine Ev_ofL k_MO_slotsOf 2 [some (.ref t), some (.int (nI p))] rfl (Nat.le_of_ble_eq_true rfl) rfl ?_
  unfold wdT
  by_cases c1 : b1 T p = 74
  · rw [if_pos (Or.inl c1)]
    refine Ex_mv rfl rfl ?_; refine Ex_mv rfl rfl ?_; refine Ex_iald rfl (by assumption) (vp_in_nI (by omega) (by omega)) ?_
    rw [eg]
    refine Ex_mv rfl rfl ?_; refine Ex_mv rfl rfl ?_; refine Ex_ift ((sb_eq hb (by decide)).mpr c1) ?_; refine Ex_mv rfl rfl ?_; refine Ex_mv rfl rfl ?_
    exact Ex_rt rfl rfl ⟨rfl, rfl⟩
  · by_cases c2 : b1 T p = 68
    · rw [if_pos (Or.inr c2)]
      refine Ex_mv rfl rfl ?_; refine Ex_mv rfl rfl ?_; refine Ex_iald rfl (by assumption) (vp_in_nI (by omega) (by omega)) ?_
      rw [eg]
      refine Ex_mv rfl rfl ?_; refine Ex_mv rfl rfl ?_; refine Ex_iff (fun z => c1 ((sb_eq hb (by decide)).mp z)) ?_; refine Ex_mv rfl rfl ?_; refine Ex_mv rfl rfl ?_; refine Ex_iald rfl (by assumption) (vp_in_nI (by omega) (by omega)) ?_
      rw [eg]
      refine Ex_mv rfl rfl ?_; refine Ex_mv rfl rfl ?_; refine Ex_iff (not_not_intro ((sb_eq hb (by decide)).mpr c2)) ?_; refine Ex_mv rfl rfl ?_; refine Ex_mv rfl rfl ?_
      exact Ex_rt rfl rfl ⟨rfl, rfl⟩
    · rw [if_neg (by omega)]
      refine Ex_mv rfl rfl ?_; refine Ex_mv rfl rfl ?_; refine Ex_iald rfl (by assumption) (vp_in_nI (by omega) (by omega)) ?_
      rw [eg]
      refine Ex_mv rfl rfl ?_; refine Ex_mv rfl rfl ?_; refine Ex_iff (fun z => c1 ((sb_eq hb (by decide)).mp z)) ?_; refine Ex_mv rfl rfl ?_; refine Ex_mv rfl rfl ?_; refine Ex_iald rfl (by assumption) (vp_in_nI (by omega) (by omega)) ?_
      rw [eg]
      refine Ex_mv rfl rfl ?_; refine Ex_mv rfl rfl ?_; refine Ex_ift (fun z => c2 ((sb_eq hb (by decide)).mp z)) ?_; refine Ex_mv rfl rfl ?_
      exact Ex_rt rfl rfl ⟨rfl, rfl⟩
theorem oI0 {q : Nat} : oI 0 (some q) = nI q := by simp [oI]
theorem tyE_le {p : Nat} (hT : T.length ≤ 400) : (tyE T p = some T.length ∧ oI 0 (tyE T p) = nI T.length) ∨ (tyE T p ≠ some T.length ∧ ¬ oI 0 (tyE T p) = nI T.length) := by
  cases e : tyE T p with
  | none => exact Or.inr ⟨fun z => (by cases z), fun z => nI_nm1 (by omega) z.symm⟩
  | some q =>
    rw [oI0]
    have := tyE_b e
    by_cases hq : q = T.length
    · exact Or.inl ⟨by rw [hq], by rw [hq]⟩
    · exact Or.inr ⟨fun z => hq (Option.some.inj z), fun z => hq ((nI_eq (by omega) (by omega)).mp z)⟩
theorem MO_isSort_loop (hS : SA h sa) (hT : BA h t T) {kk : Int32} {R : Option Value → Hp → Prop} : ∀ (f p : Nat), p ≤ T.length → T.length + 1 ≤ p + f → (∀ c, clo T f p = some c → Ex (prog nb sa) k_MO_isSort 65 [some (.ref t), some (.int kk), some (.int (nI c)), none] [] h R) → (clo T f p = none → R (some (.int (nI 0))) h) → Ex (prog nb sa) k_MO_isSort 37 [some (.ref t), some (.int kk), some (.int (nI p)), none] [] h R
  | 0, p, hp, hf, K, N => by omega
  | f + 1, p, hp, hf, K, N => by
    obtain ⟨w, g, h1, h2, h3, h4⟩ := id hT
    have hb := b1_lt h3 p
    unfold clo at K N
    by_cases e1 : p < T.length
    · rw [if_pos e1] at K N
      have eg := BA.get (T := T) h2 h4 e1
      by_cases e2 : b1 T p = 41
      · rw [if_pos e2] at K N
        have K' := K p rfl
        refine Ex_mv rfl rfl ?_; refine Ex_mv rfl rfl ?_; refine Ex_mv rfl rfl ?_; refine Ex_iff (nI_nm1 (by omega)) ?_; refine Ex_mv rfl rfl ?_; refine Ex_mv rfl rfl ?_; refine Ex_alen rfl (by assumption) rfl ?_; refine Ex_mv rfl rfl ?_; refine Ex_iff (nI_ge (by omega) (by omega)) ?_; refine Ex_mv rfl rfl ?_; refine Ex_mv rfl rfl ?_; refine Ex_iald rfl (by assumption) (vp_in_nI (by omega) (by omega)) ?_
        rw [eg]
        refine Ex_mv rfl rfl ?_; refine Ex_mv rfl rfl ?_; refine Ex_ift ((sb_eq hb (by decide)).mpr e2) ?_
        exact K'
      · rw [if_neg e2] at K N
        have ty := c_MO_type (nb := nb) hS hT hp
        cases e3 : tyE T p with
        | none =>
          rw [e3] at N ty
          have N' := N rfl
          have last : Ex (prog nb sa) k_MO_isSort 37 [some (.ref t), some (.int kk), some (.int (-1)), none] [] h R := by
            refine Ex_mv rfl rfl ?_; refine Ex_mv rfl rfl ?_; refine Ex_mv rfl rfl ?_; refine Ex_ift rfl ?_; refine Ex_mv rfl rfl ?_; refine Ex_mv rfl rfl ?_; refine Ex_mv rfl rfl ?_; refine Ex_ift rfl ?_; refine Ex_mv rfl rfl ?_
            refine Ex_rt rfl rfl ?_
            exact N'
          refine Ex_mv rfl rfl ?_; refine Ex_mv rfl rfl ?_; refine Ex_mv rfl rfl ?_; refine Ex_iff (nI_nm1 (by omega)) ?_; refine Ex_mv rfl rfl ?_; refine Ex_mv rfl rfl ?_; refine Ex_alen rfl (by assumption) rfl ?_; refine Ex_mv rfl rfl ?_; refine Ex_iff (nI_ge (by omega) (by omega)) ?_; refine Ex_mv rfl rfl ?_; refine Ex_mv rfl rfl ?_; refine Ex_iald rfl (by assumption) (vp_in_nI (by omega) (by omega)) ?_
          rw [eg]
          refine Ex_mv rfl rfl ?_; refine Ex_mv rfl rfl ?_; refine Ex_iff (fun z => e2 ((sb_eq hb (by decide)).mp z)) ?_; refine Ex_mv rfl rfl ?_; refine Ex_mv rfl rfl ?_; refine Ex_inv rfl (by rfl) (by rfl) (by rfl) (ty) ?_; refine Ex_mv rfl rfl ?_; refine Ex_mv rfl rfl ?_
          exact last
        | some q =>
          rw [e3] at N K ty
          rw [oI0] at ty
          have := tyE_b e3
          have last := MO_isSort_loop hS hT (kk := kk) f q (by omega) (by omega) K N
          refine Ex_mv rfl rfl ?_; refine Ex_mv rfl rfl ?_; refine Ex_mv rfl rfl ?_; refine Ex_iff (nI_nm1 (by omega)) ?_; refine Ex_mv rfl rfl ?_; refine Ex_mv rfl rfl ?_; refine Ex_alen rfl (by assumption) rfl ?_; refine Ex_mv rfl rfl ?_; refine Ex_iff (nI_ge (by omega) (by omega)) ?_; refine Ex_mv rfl rfl ?_; refine Ex_mv rfl rfl ?_; refine Ex_iald rfl (by assumption) (vp_in_nI (by omega) (by omega)) ?_
          rw [eg]
          refine Ex_mv rfl rfl ?_; refine Ex_mv rfl rfl ?_; refine Ex_iff (fun z => e2 ((sb_eq hb (by decide)).mp z)) ?_; refine Ex_mv rfl rfl ?_; refine Ex_mv rfl rfl ?_; refine Ex_inv rfl (by rfl) (by rfl) (by rfl) (ty) ?_; refine Ex_mv rfl rfl ?_; refine Ex_mv rfl rfl ?_
          exact last
    · rw [if_neg e1] at N
      have N' := N rfl
      refine Ex_mv rfl rfl ?_; refine Ex_mv rfl rfl ?_; refine Ex_mv rfl rfl ?_; refine Ex_iff (nI_nm1 (by omega)) ?_; refine Ex_mv rfl rfl ?_; refine Ex_mv rfl rfl ?_; refine Ex_alen rfl (by assumption) rfl ?_; refine Ex_mv rfl rfl ?_; refine Ex_ift (nI_le (by omega) (by omega)) ?_; refine Ex_mv rfl rfl ?_; refine Ex_mv rfl rfl ?_; refine Ex_mv rfl rfl ?_; refine Ex_iff (nI_nm1 (by omega)) ?_; refine Ex_mv rfl rfl ?_; refine Ex_mv rfl rfl ?_; refine Ex_alen rfl (by assumption) rfl ?_; refine Ex_mv rfl rfl ?_; refine Ex_iff (nI_nlt (by omega) (by omega)) ?_; refine Ex_mv rfl rfl ?_
      refine Ex_rt rfl rfl ?_
      exact N'
theorem c_MO_isSort (hS : SA h sa) (hT : BA h t T) {kk : Nat} (hk : kk < 2) : Ev (prog nb sa) m_MO_isSort [.ref t, .int (nI kk)] h (some (.int (nI (if okS kk T = true then 1 else 0)))) h := by
  obtain ⟨w, g, h1, h2, h3, h4⟩ := id hT
  have hk' : kk = 0 ∨ kk = 1 := by omega
  rcases hk' with rfl | rfl
  · have ty := c_MO_type (nb := nb) hS hT (p := 0) (Nat.zero_le _)
    refine Ev_ofL k_MO_isSort 4 [some (.ref t), some (.int (nI 0)), none, none] rfl (Nat.le_of_ble_eq_true rfl) rfl ?_
    have eo : okS 0 T = decide (tyE T 0 = some T.length) := rfl
    rw [eo]
    rcases tyE_le (p := 0) h4 with ⟨q1, q2⟩ | ⟨q1, q2⟩
    · rw [if_pos (decide_eq_true q1)]
      refine Ex_mv rfl rfl ?_; refine Ex_mv rfl rfl ?_; refine Ex_iff (not_not_intro (show nI 0 = 0 from rfl)) ?_; refine Ex_mv rfl rfl ?_; refine Ex_mv rfl rfl ?_; refine Ex_inv rfl (by rfl) (by rfl) (by rfl) (ty) ?_; refine Ex_mv rfl rfl ?_; refine Ex_alen rfl (by assumption) rfl ?_; refine Ex_mv rfl rfl ?_; refine Ex_iff (not_not_intro q2) ?_; refine Ex_mv rfl rfl ?_; refine Ex_mv rfl rfl ?_
      exact Ex_rt rfl rfl ⟨rfl, rfl⟩
    · rw [if_neg (fun z => q1 (of_decide_eq_true z))]
      refine Ex_mv rfl rfl ?_; refine Ex_mv rfl rfl ?_; refine Ex_iff (not_not_intro (show nI 0 = 0 from rfl)) ?_; refine Ex_mv rfl rfl ?_; refine Ex_mv rfl rfl ?_; refine Ex_inv rfl (by rfl) (by rfl) (by rfl) (ty) ?_; refine Ex_mv rfl rfl ?_; refine Ex_alen rfl (by assumption) rfl ?_; refine Ex_mv rfl rfl ?_; refine Ex_ift q2 ?_; refine Ex_mv rfl rfl ?_
      exact Ex_rt rfl rfl ⟨rfl, rfl⟩
  · refine Ev_ofL k_MO_isSort 4 [some (.ref t), some (.int (nI 1)), none, none] rfl (Nat.le_of_ble_eq_true rfl) rfl ?_
    have eo : okS 1 T = mthT T := rfl
    rw [eo]
    unfold mthT cloT
    by_cases h0 : 0 < T.length ∧ b1 T 0 = 40
    · rw [if_pos h0]
      have eg := BA.get (T := T) h2 h4 h0.1
      have hb := b1_lt h3 0
      have KS : ∀ c, clo T T.length 1 = some c → Ex (prog nb sa) k_MO_isSort 65 [some (.ref t), some (.int (nI 1)), some (.int (nI c)), none] [] h (fun v h' => v = some (.int (nI (if (match clo T T.length 1 with
        | none => false
        | some c => (decide (c + 2 = T.length) && decide (b1 T (c + 1) = 86)) || decide (tyE T (c + 1) = some T.length)) = true then 1 else 0))) ∧ h' = h) := by
          intro c hc
          rw [hc]
          obtain ⟨y1, y2, y3⟩ := clo_b T _ _ _ hc
          have ty := c_MO_type (nb := nb) hS hT (p := c + 1) (by omega)
          have hbc := b1_lt h3 (c + 1)
          have tail : ∀ z : Nat, z < 2 → (z = 1 ↔ (c + 2 = T.length ∧ b1 T (c + 1) = 86)) → Ex (prog nb sa) k_MO_isSort 101 [some (.ref t), some (.int (nI 1)), some (.int (nI c)), none] [.int (nI z)] h (fun v h' => v = some (.int (nI (if ((decide (c + 2 = T.length) && decide (b1 T (c + 1) = 86)) || decide (tyE T (c + 1) = some T.length)) = true then 1 else 0))) ∧ h' = h) := by
            intro z hz hz2
            by_cases z1 : z = 1
            · subst z1
              obtain ⟨q1, q2⟩ := hz2.mp rfl
              rw [if_pos (by simp [q1, q2])]
              refine Ex_mv rfl rfl ?_; refine Ex_mv rfl rfl ?_; refine Ex_mv rfl rfl ?_; refine Ex_ift (show ¬ nI 1 = 0 by decide) ?_; refine Ex_mv rfl rfl ?_; refine Ex_mv rfl rfl ?_
              exact Ex_rt rfl rfl ⟨rfl, rfl⟩
            · have z0 : z = 0 := by omega
              subst z0
              have nz : ¬ (c + 2 = T.length ∧ b1 T (c + 1) = 86) := fun q => by have := hz2.mpr q; omega
              rcases tyE_le (p := c + 1) h4 with ⟨q1, q2⟩ | ⟨q1, q2⟩
              · rw [if_pos (by simp [q1])]
                refine Ex_mv rfl rfl ?_; refine Ex_mv rfl rfl ?_; refine Ex_mv rfl rfl ?_; refine Ex_iff (not_not_intro (show nI 0 = 0 from rfl)) ?_; refine Ex_mv rfl rfl ?_; refine Ex_mv rfl rfl ?_; refine Ex_mv rfl rfl ?_; (first | refine Ex_addN rfl ?_ | refine Ex_mv rfl rfl ?_); refine Ex_inv rfl (by rfl) (by rfl) (by rfl) (ty) ?_; refine Ex_mv rfl rfl ?_; refine Ex_alen rfl (by assumption) rfl ?_; refine Ex_mv rfl rfl ?_; refine Ex_iff (not_not_intro q2) ?_; refine Ex_mv rfl rfl ?_; refine Ex_mv rfl rfl ?_
                exact Ex_rt rfl rfl ⟨rfl, rfl⟩
              · rw [if_neg (by simp only [Bool.or_eq_true, Bool.and_eq_true, decide_eq_true_eq]; exact fun q => q.elim nz q1)]
                refine Ex_mv rfl rfl ?_; refine Ex_mv rfl rfl ?_; refine Ex_mv rfl rfl ?_; refine Ex_iff (not_not_intro (show nI 0 = 0 from rfl)) ?_; refine Ex_mv rfl rfl ?_; refine Ex_mv rfl rfl ?_; refine Ex_mv rfl rfl ?_; (first | refine Ex_addN rfl ?_ | refine Ex_mv rfl rfl ?_); refine Ex_inv rfl (by rfl) (by rfl) (by rfl) (ty) ?_; refine Ex_mv rfl rfl ?_; refine Ex_alen rfl (by assumption) rfl ?_; refine Ex_mv rfl rfl ?_; refine Ex_ift q2 ?_; refine Ex_mv rfl rfl ?_
                exact Ex_rt rfl rfl ⟨rfl, rfl⟩
          by_cases c2 : c + 2 = T.length
          · have egc := BA.get (T := T) h2 h4 (k := c + 1) (by omega)
            by_cases c3 : b1 T (c + 1) = 86
            · have tl := tail 1 (by decide) ⟨fun _ => ⟨c2, c3⟩, fun _ => rfl⟩
              refine Ex_mv rfl rfl ?_; refine Ex_mv rfl rfl ?_; refine Ex_mv rfl rfl ?_; refine Ex_iff (nI_nm1 (by omega)) ?_; refine Ex_mv rfl rfl ?_; refine Ex_mv rfl rfl ?_; refine Ex_alen rfl (by assumption) rfl ?_; refine Ex_mv rfl rfl ?_; refine Ex_ift (nI_lt (by omega) (by omega)) ?_; refine Ex_mv rfl rfl ?_; refine Ex_mv rfl rfl ?_; (first | refine Ex_addN rfl ?_ | refine Ex_mv rfl rfl ?_); refine Ex_mv rfl rfl ?_; refine Ex_alen rfl (by assumption) rfl ?_; refine Ex_mv rfl rfl ?_; refine Ex_iff (by rw [c2]; exact not_not_intro rfl) ?_; refine Ex_mv rfl rfl ?_; refine Ex_mv rfl rfl ?_; refine Ex_mv rfl rfl ?_; (first | refine Ex_addN rfl ?_ | refine Ex_mv rfl rfl ?_); refine Ex_iald rfl (by assumption) (vp_in_nI (by omega) (by omega)) ?_
              rw [egc]
              refine Ex_mv rfl rfl ?_; refine Ex_mv rfl rfl ?_; refine Ex_iff (not_not_intro ((sb_eq hbc (by decide)).mpr c3)) ?_; refine Ex_mv rfl rfl ?_; refine Ex_mv rfl rfl ?_
              exact tl
            · have tl := tail 0 (by decide) ⟨fun z => (by cases z), fun z => absurd z.2 c3⟩
              refine Ex_mv rfl rfl ?_; refine Ex_mv rfl rfl ?_; refine Ex_mv rfl rfl ?_; refine Ex_iff (nI_nm1 (by omega)) ?_; refine Ex_mv rfl rfl ?_; refine Ex_mv rfl rfl ?_; refine Ex_alen rfl (by assumption) rfl ?_; refine Ex_mv rfl rfl ?_; refine Ex_ift (nI_lt (by omega) (by omega)) ?_; refine Ex_mv rfl rfl ?_; refine Ex_mv rfl rfl ?_; (first | refine Ex_addN rfl ?_ | refine Ex_mv rfl rfl ?_); refine Ex_mv rfl rfl ?_; refine Ex_alen rfl (by assumption) rfl ?_; refine Ex_mv rfl rfl ?_; refine Ex_iff (by rw [c2]; exact not_not_intro rfl) ?_; refine Ex_mv rfl rfl ?_; refine Ex_mv rfl rfl ?_; refine Ex_mv rfl rfl ?_; (first | refine Ex_addN rfl ?_ | refine Ex_mv rfl rfl ?_); refine Ex_iald rfl (by assumption) (vp_in_nI (by omega) (by omega)) ?_
              rw [egc]
              refine Ex_mv rfl rfl ?_; refine Ex_mv rfl rfl ?_; refine Ex_ift (fun z => c3 ((sb_eq hbc (by decide)).mp z)) ?_; refine Ex_mv rfl rfl ?_
              exact tl
          · have tl := tail 0 (by decide) ⟨fun z => (by cases z), fun z => absurd z.1 c2⟩
            refine Ex_mv rfl rfl ?_; refine Ex_mv rfl rfl ?_; refine Ex_mv rfl rfl ?_; refine Ex_iff (nI_nm1 (by omega)) ?_; refine Ex_mv rfl rfl ?_; refine Ex_mv rfl rfl ?_; refine Ex_alen rfl (by assumption) rfl ?_; refine Ex_mv rfl rfl ?_; refine Ex_ift (nI_lt (by omega) (by omega)) ?_; refine Ex_mv rfl rfl ?_; refine Ex_mv rfl rfl ?_; (first | refine Ex_addN rfl ?_ | refine Ex_mv rfl rfl ?_); refine Ex_mv rfl rfl ?_; refine Ex_alen rfl (by assumption) rfl ?_; refine Ex_mv rfl rfl ?_; refine Ex_ift (fun z => c2 ((nI_eq (by omega) (by omega)).mp z)) ?_; refine Ex_mv rfl rfl ?_
            exact tl
      have lp := MO_isSort_loop (nb := nb) hS hT (kk := nI 1) (R := fun v h' => v = some (.int (nI (if (match clo T T.length 1 with
        | none => false
        | some c => (decide (c + 2 = T.length) && decide (b1 T (c + 1) = 86)) || decide (tyE T (c + 1) = some T.length)) = true then 1 else 0))) ∧ h' = h) T.length 1 (by omega) (by omega) KS (fun hc => by rw [hc]; exact ⟨rfl, rfl⟩)
      refine Ex_mv rfl rfl ?_; refine Ex_mv rfl rfl ?_; refine Ex_ift (show ¬ nI 1 = 0 by decide) ?_; refine Ex_mv rfl rfl ?_; refine Ex_alen rfl (by assumption) rfl ?_; refine Ex_mv rfl rfl ?_; refine Ex_iff (nI_nz (by omega) (by omega)) ?_; refine Ex_mv rfl rfl ?_; refine Ex_mv rfl rfl ?_; refine Ex_iald rfl (by assumption) (vp_in_nI (by omega) (by omega)) ?_
      rw [eg]
      refine Ex_mv rfl rfl ?_; refine Ex_mv rfl rfl ?_; refine Ex_ift ((sb_eq hb (by decide)).mpr h0.2) ?_; refine Ex_mv rfl rfl ?_; refine Ex_mv rfl rfl ?_
      exact lp
    · rw [if_neg h0]
      by_cases hl : T.length = 0
      · refine Ex_mv rfl rfl ?_; refine Ex_mv rfl rfl ?_; refine Ex_ift (show ¬ nI 1 = 0 by decide) ?_; refine Ex_mv rfl rfl ?_; refine Ex_alen rfl (by assumption) rfl ?_
        rw [hl]
        refine Ex_mv rfl rfl ?_; refine Ex_ift (show nI 0 = 0 from rfl) ?_; refine Ex_mv rfl rfl ?_
        exact Ex_rt rfl rfl ⟨rfl, rfl⟩
      · have eg := BA.get (T := T) h2 h4 (k := 0) (by omega)
        have hb := b1_lt h3 0
        refine Ex_mv rfl rfl ?_; refine Ex_mv rfl rfl ?_; refine Ex_ift (show ¬ nI 1 = 0 by decide) ?_; refine Ex_mv rfl rfl ?_; refine Ex_alen rfl (by assumption) rfl ?_; refine Ex_mv rfl rfl ?_; refine Ex_iff (nI_nz (by omega) (by omega)) ?_; refine Ex_mv rfl rfl ?_; refine Ex_mv rfl rfl ?_; refine Ex_iald rfl (by assumption) (vp_in_nI (by omega) (by omega)) ?_
        rw [eg]
        refine Ex_mv rfl rfl ?_; refine Ex_mv rfl rfl ?_; refine Ex_iff (fun z => h0 ⟨by omega, (sb_eq hb (by decide)).mp z⟩) ?_; refine Ex_mv rfl rfl ?_
        exact Ex_rt rfl rfl ⟨rfl, rfl⟩
variable {m0 f : Nat} {B : List Nat} {x : Fs} {mu : Nat → Prop}
/-- a text that is there -/
theorem HF.tx {h : Hp} (hF : HF mu h f (B, x)) {j : Nat} (hj : j < 61) (ht : tg B x.1 x.2.1 j = 1) : ∃ b t1 t2 t3 t7 t8 ow gx t, h.2.2 f = some (true, .inr (8, [.ref b, .int (nI x.2.1), .ref t1, .ref t2, .ref t3, .int (nI x.2.2.1), .int (nI (b2 B (x.2.2.1 + 6))), .ref t7, .ref t8, .ref ow])) ∧ h.2.2 t3 = some (true, .inl (4, 61, .inr (.inr (.inr (.inr gx))))) ∧ gx j = some t ∧ BAk mu h t (tx B x.1 x.2.1 j) := by
  simp only [HF] at hF
  obtain ⟨b, t1, t2, t3, t7, a5, a6, t8, ow, gt, ga, gc, gx, gm, c1, c2, c3, d, e, ⟨g1, g2, g3⟩, -⟩ := hF
  obtain ⟨t, q1, q2⟩ := g3 j hj ht
  exact ⟨b, t1, t2, t3, t7, t8, ow, gx, t, c1, g1, q1, q2⟩
theorem c_MO_sortOf (hF : HF mu h f (B, x)) (hn : x.2.1 ≤ 61) {kk k m : Nat} (hk : kk < 2) (hkl : k < (mK x.2.2.2.2.1 x.2.2.2.2.2.1 kk).length) (hm : (mK x.2.2.2.2.1 x.2.2.2.2.2.1 kk).getD k 0 = m) (hm4 : m + 5 < B.length) (ht : tg B x.1 x.2.1 (b2 B (m + 4)) = 1) : ∃ t, Ev (prog nb sa) m_MO_sortOf [.ref m0, .ref f, .int (nI kk), .int (nI k)] h (some (.ref t)) h ∧ BAk mu h t (tx B x.1 x.2.1 (b2 B (m + 4))) := by
  obtain ⟨b, t1, t2, t3, t7, t8, ow, ak, gm, gc, c1, c2, c3, ⟨g, c4, c4', c4'', c4'''⟩, c5, c6⟩ := hF.kd hk
  obtain ⟨u, u1, w, u2, u3, u4⟩ := c4' k hkl
  have hj := (tg_at ht (by decide)).1
  obtain ⟨b', t1', t2', t3', t7', t8', ow', gx, t, d1, d2, d3, d4⟩ := hF.tx (j := b2 B (m + 4)) (by omega) ht
  obtain ⟨bb, hb2, -⟩ := hF.hb
  have e2 : gm (nI kk).toNatClampNeg = some ak := by rw [nI_clamp (by omega), c3]
  have e3 : g (nI k).toNatClampNeg = some u := by rw [nI_clamp (by omega), u1]
  have e4 : gx (nI (b2 B (m + 4))).toNatClampNeg = some t := by rw [nI_clamp (by omega), d3]
  rw [hm] at u2
  refine ⟨t, ?_, d4⟩
  refine Ev_ofL k_MO_sortOf 4 [some (.ref m0), some (.ref f), some (.int (nI kk)), some (.int (nI k))] rfl (Nat.le_of_ble_eq_true rfl) rfl ?_
  refine Ex_mv rfl rfl ?_; refine Ex_getf rfl d1 rfl ?_; refine Ex_mv rfl rfl ?_; refine Ex_mv rfl rfl ?_; refine Ex_getf rfl c1 rfl ?_; refine Ex_mv rfl rfl ?_; refine Ex_aald rfl c2 rfl (vp_in_nI (by omega) (by decide)) e2 ?_; refine Ex_mv rfl rfl ?_; refine Ex_aald rfl c4 rfl (vp_in_nI (by omega) (by omega)) e3 ?_; refine Ex_getf rfl u2 rfl ?_; refine Ex_mv rfl rfl ?_; (first | refine Ex_addN rfl ?_ | refine Ex_mv rfl rfl ?_); refine Ex_invV rfl (by rfl) (by rfl) (by assumption) (by rfl) (c_MH_two hb2 hm4) ?_; refine Ex_aald rfl d2 rfl (vp_in_nI (by omega) (by omega)) e4 ?_
  exact Ex_rt rfl rfl ⟨rfl, rfl⟩
end REFG
