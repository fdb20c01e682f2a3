/-! the other side: sorts -/
theorem sb_pos : ∀ k, k < 128 → sb_b k = nI k := by decide +kernel
theorem sb_neg : ∀ k, k < 256 → 128 ≤ k → sb_b k < 0 := by decide +kernel
theorem sb_eq {c k : Nat} (hc : c < 256) (hk : k < 128) : sb_b c = nI k ↔ c = k := by
  constructor
  · intro e
    rw [← sb_pos k hk] at e
    have h1 := sb_and hc
    rw [e, sb_and (by omega)] at h1
    exact ((nI_eq (by omega) (by omega)).mp h1).symm
  · intro e
    rw [e, sb_pos k hk]
def LB (j : Nat) : Nat := ([66, 67, 68, 70, 73, 74, 83, 90] : List Nat).getD j 0
/-- the letters -/
def SA (h : Hp) (sa : Nat) : Prop := ∃ w sv r w' g, h.2.2 sa = some (w, .inr (12, .ref sv :: .int (nI 0) :: r)) ∧ h.2.2 sv = some (w', .inl (0, 8, .inl g)) ∧ ∀ j, j < 8 → g j = nI (LB j)
theorem isB_LB (c : Nat) : isB c = true ↔ ∃ j, j < 8 ∧ LB j = c := by
  constructor
  · intro h
    simp only [isB, Bool.or_eq_true, decide_eq_true_eq] at h
    rcases h with ((((((h | h) | h) | h) | h) | h) | h) | h
    · exact ⟨0, by decide, by rw [h]; rfl⟩
    · exact ⟨1, by decide, by rw [h]; rfl⟩
    · exact ⟨2, by decide, by rw [h]; rfl⟩
    · exact ⟨3, by decide, by rw [h]; rfl⟩
    · exact ⟨4, by decide, by rw [h]; rfl⟩
    · exact ⟨5, by decide, by rw [h]; rfl⟩
    · exact ⟨6, by decide, by rw [h]; rfl⟩
    · exact ⟨7, by decide, by rw [h]; rfl⟩
  · rintro ⟨j, hj, rfl⟩
    have : j = 0 ∨ j = 1 ∨ j = 2 ∨ j = 3 ∨ j = 4 ∨ j = 5 ∨ j = 6 ∨ j = 7 := by omega
    rcases this with rfl | rfl | rfl | rfl | rfl | rfl | rfl | rfl <;> decide
theorem LB_lt {j : Nat} (hj : j < 8) : LB j < 128 := by
  have : j = 0 ∨ j = 1 ∨ j = 2 ∨ j = 3 ∨ j = 4 ∨ j = 5 ∨ j = 6 ∨ j = 7 := by omega
  rcases this with rfl | rfl | rfl | rfl | rfl | rfl | rfl | rfl <;> decide
section REFF
variable {nb sa : Nat} {h : Hp}
theorem JT_loop {sv : Nat} {w' : Bool} {g : Nat → Int32} {c : Nat} {v1 : Int32} (hv : h.2.2 sv = some (w', .inl (0, 8, .inl g))) (hg : ∀ j, j < 8 → g j = nI (LB j)) (hc : c < 128) : ∀ (d k : Nat), k + d = 8 → Ex (prog nb sa) k_JT_indexOfChar 7 [some (.ref sv), some (.int v1), some (.int (nI 0)), some (.int (nI 8)), some (.int (nI c)), some (.int (nI k))] [] h (fun r h' => ((∃ j, k ≤ j ∧ j < 8 ∧ LB j = c ∧ r = some (.int (nI j))) ∨ ((∀ j, k ≤ j → j < 8 → LB j ≠ c) ∧ r = some (.int (-1)))) ∧ h' = h)
  | 0, k, hk => by
    refine Ex_mv rfl rfl ?_; refine Ex_mv rfl rfl ?_; refine Ex_mv rfl rfl ?_; refine Ex_ift (nI_le (by omega) (by omega)) ?_; refine Ex_mv rfl rfl ?_
    refine Ex_rt rfl rfl ?_
    exact ⟨Or.inr ⟨fun j h1 h2 => by omega, rfl⟩, rfl⟩
  | d + 1, k, hk => by
    have eg : g (nI k).toNatClampNeg = nI (LB k) := by rw [nI_clamp (by omega)]; exact hg k (by omega)
    have hl := LB_lt (j := k) (by omega)
    by_cases e : LB k = c
    · refine Ex_mv rfl rfl ?_; refine Ex_mv rfl rfl ?_; refine Ex_mv rfl rfl ?_; refine Ex_iff (nI_ge (by omega) (by omega)) ?_; refine Ex_mv rfl rfl ?_; refine Ex_mv rfl rfl ?_; refine Ex_iald rfl (by assumption) (vp_in_nI (by omega) (by decide)) ?_
      rw [eg]
      refine Ex_mv rfl rfl ?_; refine Ex_mv rfl rfl ?_; refine Ex_iff (by rw [e]; exact not_not_intro rfl) ?_; refine Ex_mv rfl rfl ?_
      refine Ex_rt rfl rfl ?_
      exact ⟨Or.inl ⟨k, Nat.le_refl _, by omega, e, rfl⟩, rfl⟩
    · have ih := JT_loop (v1 := v1) hv hg hc d (k + 1) (by omega)
      refine Ex_mv rfl rfl ?_; refine Ex_mv rfl rfl ?_; refine Ex_mv rfl rfl ?_; refine Ex_iff (nI_ge (by omega) (by omega)) ?_; refine Ex_mv rfl rfl ?_; refine Ex_mv rfl rfl ?_; refine Ex_iald rfl (by assumption) (vp_in_nI (by omega) (by decide)) ?_
      rw [eg]
      refine Ex_mv rfl rfl ?_; refine Ex_mv rfl rfl ?_; refine Ex_ift (fun z => e ((nI_eq (by omega) (by omega)).mp z)) ?_; (first | refine Ex_incN rfl rfl ?_ | refine Ex_mv rfl rfl ?_); refine Ex_mv rfl rfl ?_
      refine Ex_mono ih (fun r h' z => ⟨?_, z.2⟩)
      rcases z.1 with ⟨j, h1, h2, h3, h4⟩ | ⟨h1, h2⟩
      · exact Or.inl ⟨j, by omega, h2, h3, h4⟩
      · refine Or.inr ⟨fun j g1 g2 => ?_, h2⟩
        by_cases ek : j = k
        · rw [ek]; exact e
        · exact h1 j (by omega) g2
theorem c_JT_canEncode {v : Int32} : Ev (prog nb sa) m_JT_canEncode [.int v] h (some (.int (nI (if v < 0 ∨ nI 255 < v then 0 else 1)))) h := by
  refine Ev_ofL k_JT_canEncode 1 [some (.int v)] rfl (Nat.le_of_ble_eq_true rfl) rfl ?_
  by_cases h1 : v < 0
  · rw [if_pos (Or.inl h1)]
    refine Ex_mv rfl rfl ?_; refine Ex_mv rfl rfl ?_; refine Ex_ift h1 ?_; refine Ex_mv rfl rfl ?_
    exact Ex_rt rfl rfl ⟨rfl, rfl⟩
  · by_cases h2 : nI 255 < v
    · rw [if_pos (Or.inr h2)]
      refine Ex_mv rfl rfl ?_; refine Ex_mv rfl rfl ?_; refine Ex_iff h1 ?_; refine Ex_mv rfl rfl ?_; refine Ex_mv rfl rfl ?_; refine Ex_mv rfl rfl ?_; refine Ex_ift h2 ?_; refine Ex_mv rfl rfl ?_
      exact Ex_rt rfl rfl ⟨rfl, rfl⟩
    · rw [if_neg (fun q => q.elim h1 h2)]
      refine Ex_mv rfl rfl ?_; refine Ex_mv rfl rfl ?_; refine Ex_iff h1 ?_; refine Ex_mv rfl rfl ?_; refine Ex_mv rfl rfl ?_; refine Ex_mv rfl rfl ?_; refine Ex_iff h2 ?_; refine Ex_mv rfl rfl ?_; refine Ex_mv rfl rfl ?_
      exact Ex_rt rfl rfl ⟨rfl, rfl⟩
theorem c_JT_indexOf {sv : Nat} {w' : Bool} {g : Nat → Int32} {c : Nat} (hv : h.2.2 sv = some (w', .inl (0, 8, .inl g))) (hg : ∀ j, j < 8 → g j = nI (LB j)) (hc : c < 256) : ∃ v, Ev (prog nb sa) m_JT_indexOf [.ref sv, .int (sb_b c), .int (nI 0), .int (nI 8)] h (some (.int v)) h ∧ (isB c = true ↔ ¬ v < 0) := by
  have ce := c_JT_canEncode (nb := nb) (sa := sa) (h := h) (v := sb_b c)
  by_cases h1 : c < 128
  · have hs := sb_pos c h1
    rw [hs] at ce ⊢
    rw [if_neg (fun q => q.elim (nI_pos (by omega)) (nI_nlt (by omega) (by omega)))] at ce
    have mx : Ev (prog nb sa) m_JM_max [.int (nI 0), .int (nI 0)] h (some (.int (nI 0))) h := by
      refine Ev_ofL k_JM_max 2 [some (.int (nI 0)), some (.int (nI 0))] rfl (Nat.le_of_ble_eq_true rfl) rfl ?_
      refine Ex_mv rfl rfl ?_; refine Ex_mv rfl rfl ?_; refine Ex_mv rfl rfl ?_; refine Ex_iff (by decide) ?_; refine Ex_mv rfl rfl ?_; refine Ex_mv rfl rfl ?_
      exact Ex_rt rfl rfl ⟨rfl, rfl⟩
    have mn : Ev (prog nb sa) m_JM_min [.int (nI 8), .int (nI 8)] h (some (.int (nI 8))) h := by
      refine Ev_ofL k_JM_min 2 [some (.int (nI 8)), some (.int (nI 8))] rfl (Nat.le_of_ble_eq_true rfl) rfl ?_
      refine Ex_mv rfl rfl ?_; refine Ex_mv rfl rfl ?_; refine Ex_mv rfl rfl ?_; refine Ex_iff (by decide) ?_; refine Ex_mv rfl rfl ?_; refine Ex_mv rfl rfl ?_
      exact Ex_rt rfl rfl ⟨rfl, rfl⟩
    have ic : EvQ (prog nb sa) m_JT_indexOfChar [.ref sv, .int (nI c), .int (nI 0), .int (nI 8)] h (fun r h' => ((∃ j, 0 ≤ j ∧ j < 8 ∧ LB j = c ∧ r = some (.int (nI j))) ∨ ((∀ j, 0 ≤ j → j < 8 → LB j ≠ c) ∧ r = some (.int (-1)))) ∧ h' = h) := by
      refine EvQ_of k_JT_indexOfChar 6 [some (.ref sv), some (.int (nI c)), some (.int (nI 0)), some (.int (nI 8)), none, none] rfl (Nat.le_of_ble_eq_true rfl) rfl ?_
      have e2 : (nI c).toInt8.toInt32 = nI c := by rw [sb_low, lowb_nI, Nat.mod_eq_of_lt (by omega), hs]
      have lp := JT_loop (nb := nb) (sa := sa) (v1 := nI c) hv hg h1 8 0 rfl
      refine Ex_mv rfl rfl ?_; refine Ex_mv rfl rfl ?_; rw [e2]
      refine Ex_mv rfl rfl ?_; refine Ex_mv rfl rfl ?_; refine Ex_mv rfl rfl ?_
      exact lp
    obtain ⟨r, h', e1, hr, rfl⟩ := ic
    rcases hr with ⟨j, -, h2, h3, rfl⟩ | ⟨h2, rfl⟩
    · refine ⟨nI j, ?_, ?_⟩
      · refine Ev_ofL k_JT_indexOf 4 [some (.ref sv), some (.int (nI c)), some (.int (nI 0)), some (.int (nI 8))] rfl (Nat.le_of_ble_eq_true rfl) rfl ?_
        refine Ex_mv rfl rfl ?_; refine Ex_inv rfl (by rfl) (by rfl) (by rfl) (ce) ?_; refine Ex_mv rfl rfl ?_; refine Ex_ift (show ¬ nI 1 = 0 by decide) ?_; refine Ex_mv rfl rfl ?_; refine Ex_mv rfl rfl ?_; refine Ex_inv rfl (by rfl) (by rfl) (by rfl) (mx) ?_; refine Ex_mv rfl rfl ?_; refine Ex_mv rfl rfl ?_; refine Ex_mv rfl rfl ?_; refine Ex_alen rfl (by assumption) rfl ?_; refine Ex_inv rfl (by rfl) (by rfl) (by rfl) (mn) ?_; refine Ex_mv rfl rfl ?_; refine Ex_mv rfl rfl ?_; refine Ex_mv rfl rfl ?_; refine Ex_mv rfl rfl ?_; refine Ex_ift (by decide) ?_; refine Ex_mv rfl rfl ?_; refine Ex_mv rfl rfl ?_; refine Ex_mv rfl rfl ?_; refine Ex_mv rfl rfl ?_; refine Ex_inv rfl (by rfl) (by rfl) (by rfl) (e1) ?_
        exact Ex_rt rfl rfl ⟨rfl, rfl⟩
      · constructor
        · intro _; exact nI_pos (by omega)
        · intro _; exact (isB_LB c).mpr ⟨j, h2, h3⟩
    · refine ⟨-1, ?_, ?_⟩
      · refine Ev_ofL k_JT_indexOf 4 [some (.ref sv), some (.int (nI c)), some (.int (nI 0)), some (.int (nI 8))] rfl (Nat.le_of_ble_eq_true rfl) rfl ?_
        refine Ex_mv rfl rfl ?_; refine Ex_inv rfl (by rfl) (by rfl) (by rfl) (ce) ?_; refine Ex_mv rfl rfl ?_; refine Ex_ift (show ¬ nI 1 = 0 by decide) ?_; refine Ex_mv rfl rfl ?_; refine Ex_mv rfl rfl ?_; refine Ex_inv rfl (by rfl) (by rfl) (by rfl) (mx) ?_; refine Ex_mv rfl rfl ?_; refine Ex_mv rfl rfl ?_; refine Ex_mv rfl rfl ?_; refine Ex_alen rfl (by assumption) rfl ?_; refine Ex_inv rfl (by rfl) (by rfl) (by rfl) (mn) ?_; refine Ex_mv rfl rfl ?_; refine Ex_mv rfl rfl ?_; refine Ex_mv rfl rfl ?_; refine Ex_mv rfl rfl ?_; refine Ex_ift (by decide) ?_; refine Ex_mv rfl rfl ?_; refine Ex_mv rfl rfl ?_; refine Ex_mv rfl rfl ?_; refine Ex_mv rfl rfl ?_; refine Ex_inv rfl (by rfl) (by rfl) (by rfl) (e1) ?_
        exact Ex_rt rfl rfl ⟨rfl, rfl⟩
      · constructor
        · intro hb
          obtain ⟨j, g1, g2⟩ := (isB_LB c).mp hb
          exact absurd g2 (h2 j (Nat.zero_le _) g1)
        · intro hn; exact absurd (by decide) hn
  · rw [if_pos (Or.inl (sb_neg c hc (by omega)))] at ce
    refine ⟨-1, ?_, ?_⟩
    · refine Ev_ofL k_JT_indexOf 4 [some (.ref sv), some (.int (sb_b c)), some (.int (nI 0)), some (.int (nI 8))] rfl (Nat.le_of_ble_eq_true rfl) rfl ?_
      refine Ex_mv rfl rfl ?_; refine Ex_inv rfl (by rfl) (by rfl) (by rfl) (ce) ?_; refine Ex_mv rfl rfl ?_; refine Ex_iff (not_not_intro (show nI 0 = 0 from rfl)) ?_; refine Ex_mv rfl rfl ?_
      exact Ex_rt rfl rfl ⟨rfl, rfl⟩
    · constructor
      · intro hb
        obtain ⟨j, g1, g2⟩ := (isB_LB c).mp hb
        have := LB_lt g1
        omega
      · intro hn; exact absurd (by decide) hn
theorem c_JS_indexOf {c : Nat} (hS : SA h sa) (hc : c < 256) : ∃ v, Ev (prog nb sa) m_JS_indexOf [.ref sa, .int (sb_b c)] h (some (.int v)) h ∧ (isB c = true ↔ ¬ v < 0) := by
  obtain ⟨w, sv, r, w', g, h1, h2, h3⟩ := hS
  obtain ⟨v, e1, hv⟩ := c_JT_indexOf (nb := nb) (sa := sa) h2 h3 hc
  have il : Ev (prog nb sa) m_JS_isLatin1 [.ref sa] h (some (.int (nI 1))) h := by
    refine Ev_ofL k_JS_isLatin1 1 [some (.ref sa)] rfl (Nat.le_of_ble_eq_true rfl) rfl ?_
    refine Ex_mv rfl rfl ?_; refine Ex_mv rfl rfl ?_; refine Ex_iff (by decide) ?_; refine Ex_mv rfl rfl ?_; refine Ex_getf rfl (by assumption) rfl ?_; refine Ex_mv rfl rfl ?_; refine Ex_iff (not_not_intro (show nI 0 = 0 from rfl)) ?_; refine Ex_mv rfl rfl ?_; refine Ex_mv rfl rfl ?_
    exact Ex_rt rfl rfl ⟨rfl, rfl⟩
  have co : Ev (prog nb sa) m_JS_coder [.ref sa] h (some (.int (nI 0))) h := by
    refine Ev_ofL k_JS_coder 1 [some (.ref sa)] rfl (Nat.le_of_ble_eq_true rfl) rfl ?_
    refine Ex_mv rfl rfl ?_; refine Ex_mv rfl rfl ?_; refine Ex_iff (by decide) ?_; refine Ex_mv rfl rfl ?_; refine Ex_getf rfl (by assumption) rfl ?_; refine Ex_mv rfl rfl ?_
    exact Ex_rt rfl rfl ⟨rfl, rfl⟩
  have le : Ev (prog nb sa) m_JS_length [.ref sa] h (some (.int (nI 8))) h := by
    refine Ev_ofL k_JS_length 1 [some (.ref sa)] rfl (Nat.le_of_ble_eq_true rfl) rfl ?_
    refine Ex_mv rfl rfl ?_; refine Ex_getf rfl (by assumption) rfl ?_; refine Ex_alen rfl (by assumption) rfl ?_; refine Ex_mv rfl rfl ?_; refine Ex_invV rfl (by rfl) (by rfl) (by assumption) (by rfl) (co) ?_; refine Ex_ishr rfl ?_
    refine Ex_rt rfl rfl ⟨?_, rfl⟩
    decide
  have i2 : Ev (prog nb sa) m_JS_indexOf_ [.ref sa, .int (sb_b c), .int (nI 0)] h (some (.int v)) h := by
    refine Ev_ofL k_JS_indexOf_ 3 [some (.ref sa), some (.int (sb_b c)), some (.int (nI 0))] rfl (Nat.le_of_ble_eq_true rfl) rfl ?_
    refine Ex_mv rfl rfl ?_; refine Ex_invV rfl (by rfl) (by rfl) (by assumption) (by rfl) (il) ?_; refine Ex_mv rfl rfl ?_; refine Ex_iff (show ¬ nI 1 = 0 by decide) ?_; refine Ex_mv rfl rfl ?_; refine Ex_getf rfl (by assumption) rfl ?_; refine Ex_mv rfl rfl ?_; refine Ex_mv rfl rfl ?_; refine Ex_mv rfl rfl ?_; refine Ex_invV rfl (by rfl) (by rfl) (by assumption) (by rfl) (le) ?_; refine Ex_inv rfl (by rfl) (by rfl) (by rfl) (e1) ?_; refine Ex_mv rfl rfl ?_
    exact Ex_rt rfl rfl ⟨rfl, rfl⟩
  refine ⟨v, ?_, hv⟩
  refine Ev_ofL k_JS_indexOf 2 [some (.ref sa), some (.int (sb_b c))] rfl (Nat.le_of_ble_eq_true rfl) rfl ?_
  refine Ex_mv rfl rfl ?_; refine Ex_mv rfl rfl ?_; refine Ex_mv rfl rfl ?_; refine Ex_invV rfl (by rfl) (by rfl) (by assumption) (by rfl) (i2) ?_
  exact Ex_rt rfl rfl ⟨rfl, rfl⟩
variable {t : Nat} {T : List Nat}
theorem BA.get {g : Nat → Int32} (h2 : ∀ j, j < T.length → g j = sb_b (T.getD j 0)) (hl : T.length ≤ 400) {k : Nat} (hk : k < T.length) : g (nI k).toNatClampNeg = sb_b (b1 T k) := by rw [nI_clamp (by omega)]; exact h2 k hk
theorem MO_type_br {w : Bool} {g : Nat → Int32} (h1 : h.2.2 t = some (w, .inl (0, T.length, .inl g))) (h2 : ∀ j, j < T.length → g j = sb_b (T.getD j 0)) (h3 : ∀ x ∈ T, x < 256) (h4 : T.length ≤ 400) {p : Nat} {R : Option Value → Hp → Prop} : ∀ (d q : Nat), q + d = T.length → Ex (prog nb sa) (k_MO_type nb sa) 22 [some (.ref t), some (.int (nI p)), some (.int (nI (sbr T d q))), none] [] h R → Ex (prog nb sa) (k_MO_type nb sa) 2 [some (.ref t), some (.int (nI p)), some (.int (nI q)), none] [] h R
  | 0, q, hd, K => by
    refine Ex_mv rfl rfl ?_; refine Ex_mv rfl rfl ?_; refine Ex_alen rfl (by assumption) rfl ?_; refine Ex_mv rfl rfl ?_; refine Ex_ift (nI_le (by omega) (by omega)) ?_
    exact K
  | d + 1, q, hd, K => by
    have eg := BA.get (T := T) h2 h4 (k := q) (by omega)
    have hb := b1_lt h3 q
    unfold sbr at K
    by_cases e : b1 T q = 91
    · rw [if_pos e] at K
      have ih := MO_type_br h1 h2 h3 h4 d (q + 1) (by omega) K
      refine Ex_mv rfl rfl ?_; refine Ex_mv rfl rfl ?_; refine Ex_alen rfl (by assumption) rfl ?_; refine Ex_mv rfl rfl ?_; refine Ex_iff (nI_ge (by omega) (by omega)) ?_; refine Ex_mv rfl rfl ?_; refine Ex_mv rfl rfl ?_; refine Ex_iald rfl (by assumption) (vp_in_nI (by omega) (by omega)) ?_
      rw [eg]
      refine Ex_mv rfl rfl ?_; refine Ex_mv rfl rfl ?_; refine Ex_iff (not_not_intro ((sb_eq hb (by decide)).mpr e)) ?_; (first | refine Ex_incN rfl rfl ?_ | refine Ex_mv rfl rfl ?_); refine Ex_mv rfl rfl ?_
      exact ih
    · rw [if_neg e] at K
      refine Ex_mv rfl rfl ?_; refine Ex_mv rfl rfl ?_; refine Ex_alen rfl (by assumption) rfl ?_; refine Ex_mv rfl rfl ?_; refine Ex_iff (nI_ge (by omega) (by omega)) ?_; refine Ex_mv rfl rfl ?_; refine Ex_mv rfl rfl ?_; refine Ex_iald rfl (by assumption) (vp_in_nI (by omega) (by omega)) ?_
      rw [eg]
      refine Ex_mv rfl rfl ?_; refine Ex_mv rfl rfl ?_; refine Ex_ift (fun z => e ((sb_eq hb (by decide)).mp z)) ?_
      exact K
theorem MO_type_nm {w : Bool} {g : Nat → Int32} (h1 : h.2.2 t = some (w, .inl (0, T.length, .inl g))) (h2 : ∀ j, j < T.length → g j = sb_b (T.getD j 0)) (h3 : ∀ x ∈ T, x < 256) (h4 : T.length ≤ 400) {p q : Nat} : ∀ (d e : Nat), e + d = T.length → q + 1 ≤ e → Ex (prog nb sa) (k_MO_type nb sa) 68 [some (.ref t), some (.int (nI p)), some (.int (nI q)), some (.int (nI e))] [] h (fun v h' => v = some (.int (oI 0 (match snm T d e with
    | none => none
    | some e' => if e' = q + 1 then none else some (e' + 1)))) ∧ h' = h)
  | 0, e, hd, he => by
    refine Ex_mv rfl rfl ?_; refine Ex_mv rfl rfl ?_; refine Ex_alen rfl (by assumption) rfl ?_; refine Ex_mv rfl rfl ?_; refine Ex_ift (nI_le (by omega) (by omega)) ?_; refine Ex_mv rfl rfl ?_; refine Ex_mv rfl rfl ?_; refine Ex_alen rfl (by assumption) rfl ?_; refine Ex_mv rfl rfl ?_; refine Ex_ift (by rw [show e = T.length by omega]) ?_; refine Ex_mv rfl rfl ?_; refine Ex_mv rfl rfl ?_
    exact Ex_rt rfl rfl ⟨rfl, rfl⟩
  | d + 1, e, hd, he => by
    have eg := BA.get (T := T) h2 h4 (k := e) (by omega)
    have hb := b1_lt h3 e
    unfold snm
    by_cases e1 : b1 T e = 59
    · rw [if_pos e1]
      by_cases e2 : e = q + 1
      · refine Ex_mv rfl rfl ?_; refine Ex_mv rfl rfl ?_; refine Ex_alen rfl (by assumption) rfl ?_; refine Ex_mv rfl rfl ?_; refine Ex_iff (nI_ge (by omega) (by omega)) ?_; refine Ex_mv rfl rfl ?_; refine Ex_mv rfl rfl ?_; refine Ex_iald rfl (by assumption) (vp_in_nI (by omega) (by omega)) ?_
        rw [eg]
        refine Ex_mv rfl rfl ?_; refine Ex_mv rfl rfl ?_; refine Ex_ift ((sb_eq hb (by decide)).mpr e1) ?_; refine Ex_mv rfl rfl ?_; refine Ex_mv rfl rfl ?_; refine Ex_alen rfl (by assumption) rfl ?_; refine Ex_mv rfl rfl ?_; refine Ex_iff (fun z => absurd ((nI_eq (by omega) (by omega)).mp z) (by omega)) ?_; refine Ex_mv rfl rfl ?_; refine Ex_mv rfl rfl ?_; refine Ex_mv rfl rfl ?_; (first | refine Ex_addN rfl ?_ | refine Ex_mv rfl rfl ?_); refine Ex_mv rfl rfl ?_; refine Ex_iff (by rw [e2]; exact not_not_intro rfl) ?_; refine Ex_mv rfl rfl ?_; refine Ex_mv rfl rfl ?_
        refine Ex_rt rfl rfl ⟨?_, rfl⟩
        simp [e2, oI]
      · refine Ex_mv rfl rfl ?_; refine Ex_mv rfl rfl ?_; refine Ex_alen rfl (by assumption) rfl ?_; refine Ex_mv rfl rfl ?_; refine Ex_iff (nI_ge (by omega) (by omega)) ?_; refine Ex_mv rfl rfl ?_; refine Ex_mv rfl rfl ?_; refine Ex_iald rfl (by assumption) (vp_in_nI (by omega) (by omega)) ?_
        rw [eg]
        refine Ex_mv rfl rfl ?_; refine Ex_mv rfl rfl ?_; refine Ex_ift ((sb_eq hb (by decide)).mpr e1) ?_; refine Ex_mv rfl rfl ?_; refine Ex_mv rfl rfl ?_; refine Ex_alen rfl (by assumption) rfl ?_; refine Ex_mv rfl rfl ?_; refine Ex_iff (fun z => absurd ((nI_eq (by omega) (by omega)).mp z) (by omega)) ?_; refine Ex_mv rfl rfl ?_; refine Ex_mv rfl rfl ?_; refine Ex_mv rfl rfl ?_; (first | refine Ex_addN rfl ?_ | refine Ex_mv rfl rfl ?_); refine Ex_mv rfl rfl ?_; refine Ex_ift (fun z => e2 ((nI_eq (by omega) (by omega)).mp z)) ?_; refine Ex_mv rfl rfl ?_; refine Ex_mv rfl rfl ?_; (first | refine Ex_addN rfl ?_ | refine Ex_mv rfl rfl ?_)
        refine Ex_rt rfl rfl ⟨?_, rfl⟩
        simp [e2, oI]
    · rw [if_neg e1]
      have ih := MO_type_nm h1 h2 h3 h4 (p := p) (q := q) d (e + 1) (by omega) (by omega)
      refine Ex_mv rfl rfl ?_; refine Ex_mv rfl rfl ?_; refine Ex_alen rfl (by assumption) rfl ?_; refine Ex_mv rfl rfl ?_; refine Ex_iff (nI_ge (by omega) (by omega)) ?_; refine Ex_mv rfl rfl ?_; refine Ex_mv rfl rfl ?_; refine Ex_iald rfl (by assumption) (vp_in_nI (by omega) (by omega)) ?_
      rw [eg]
      refine Ex_mv rfl rfl ?_; refine Ex_mv rfl rfl ?_; refine Ex_iff (fun z => e1 ((sb_eq hb (by decide)).mp z)) ?_; (first | refine Ex_incN rfl rfl ?_ | refine Ex_mv rfl rfl ?_); refine Ex_mv rfl rfl ?_
      exact ih
theorem c_MO_type (hS : SA h sa) (hT : BA h t T) {p : Nat} (hp : p ≤ T.length) : Ev (prog nb sa) m_MO_type [.ref t, .int (nI p)] h (some (.int (oI 0 (tyE T p)))) h := by
  obtain ⟨w, g, h1, h2, h3, h4⟩ := hT
  have g1 := sbr_ge T (T.length - p) p
  have g2 := sbr_le T (T.length - p) p
  refine Ev_ofL (k_MO_type nb sa) 4 [some (.ref t), some (.int (nI p)), none, none] rfl (Nat.le_of_ble_eq_true rfl) rfl ?_
  refine Ex_mv rfl rfl ?_; refine Ex_mv rfl rfl ?_
  refine MO_type_br h1 h2 h3 h4 (T.length - p) p (by omega) ?_
  unfold tyE
  generalize sbr T (T.length - p) p = q at g1 g2 ⊢
  by_cases c1 : T.length ≤ q ∨ 255 < q - p
  · rw [if_pos c1]
    by_cases c2 : q = T.length
    · refine Ex_mv rfl rfl ?_; refine Ex_mv rfl rfl ?_; refine Ex_alen rfl (by assumption) rfl ?_; refine Ex_mv rfl rfl ?_; refine Ex_ift (by rw [c2]) ?_; refine Ex_mv rfl rfl ?_
      exact Ex_rt rfl rfl ⟨rfl, rfl⟩
    · refine Ex_mv rfl rfl ?_; refine Ex_mv rfl rfl ?_; refine Ex_alen rfl (by assumption) rfl ?_; refine Ex_mv rfl rfl ?_; refine Ex_iff (fun z => c2 ((nI_eq (by omega) (by omega)).mp z)) ?_; refine Ex_mv rfl rfl ?_; refine Ex_mv rfl rfl ?_; (first | refine Ex_subN rfl (by omega) ?_ | refine Ex_mv rfl rfl ?_); refine Ex_mv rfl rfl ?_; refine Ex_mv rfl rfl ?_; refine Ex_iff (nI_ge (by omega) (by omega)) ?_; refine Ex_mv rfl rfl ?_
      exact Ex_rt rfl rfl ⟨rfl, rfl⟩
  · rw [if_neg c1]
    have eg := BA.get (T := T) h2 h4 (k := q) (by omega)
    have hb := b1_lt h3 q
    obtain ⟨v, e1, hv⟩ := c_JS_indexOf (nb := nb) hS hb
    obtain ⟨ws, sv, rs, -, -, hsa, -⟩ := hS
    cases hi : isB (b1 T q) with
    | true =>
      have hv' := hv.mp hi
      refine Ex_mv rfl rfl ?_; refine Ex_mv rfl rfl ?_; refine Ex_alen rfl (by assumption) rfl ?_; refine Ex_mv rfl rfl ?_; refine Ex_iff (fun z => absurd ((nI_eq (by omega) (by omega)).mp z) (by omega)) ?_; refine Ex_mv rfl rfl ?_; refine Ex_mv rfl rfl ?_; (first | refine Ex_subN rfl (by omega) ?_ | refine Ex_mv rfl rfl ?_); refine Ex_mv rfl rfl ?_; refine Ex_mv rfl rfl ?_; refine Ex_ift (nI_le (by omega) (by omega)) ?_; refine Ex_mv rfl rfl ?_; refine Ex_mv rfl rfl ?_; refine Ex_mv rfl rfl ?_; refine Ex_iald rfl h1 (vp_in_nI (by omega) (by omega)) ?_
      rw [eg]
      refine Ex_invV rfl (by rfl) (by rfl) hsa (by rfl) (e1) ?_; refine Ex_mv rfl rfl ?_; refine Ex_iff hv' ?_; refine Ex_mv rfl rfl ?_; refine Ex_mv rfl rfl ?_; (first | refine Ex_addN rfl ?_ | refine Ex_mv rfl rfl ?_)
      refine Ex_rt rfl rfl ⟨?_, rfl⟩
      simp [oI]
    | false =>
      have hv' : v < 0 := Classical.byContradiction (fun z => by have := hv.mpr z; rw [hi] at this; cases this)
      by_cases c3 : b1 T q = 76
      · have ih := MO_type_nm (nb := nb) (sa := sa) h1 h2 h3 h4 (p := p) (q := q) (T.length - (q + 1)) (q + 1) (by omega) (Nat.le_refl _)
        refine Ex_mv rfl rfl ?_; refine Ex_mv rfl rfl ?_; refine Ex_alen rfl (by assumption) rfl ?_; refine Ex_mv rfl rfl ?_; refine Ex_iff (fun z => absurd ((nI_eq (by omega) (by omega)).mp z) (by omega)) ?_; refine Ex_mv rfl rfl ?_; refine Ex_mv rfl rfl ?_; (first | refine Ex_subN rfl (by omega) ?_ | refine Ex_mv rfl rfl ?_); refine Ex_mv rfl rfl ?_; refine Ex_mv rfl rfl ?_; refine Ex_ift (nI_le (by omega) (by omega)) ?_; refine Ex_mv rfl rfl ?_; refine Ex_mv rfl rfl ?_; refine Ex_mv rfl rfl ?_; refine Ex_iald rfl h1 (vp_in_nI (by omega) (by omega)) ?_
        rw [eg]
        refine Ex_invV rfl (by rfl) (by rfl) hsa (by rfl) (e1) ?_; refine Ex_mv rfl rfl ?_; refine Ex_ift hv' ?_; refine Ex_mv rfl rfl ?_; refine Ex_mv rfl rfl ?_; refine Ex_iald rfl h1 (vp_in_nI (by omega) (by omega)) ?_
        rw [eg]
        refine Ex_mv rfl rfl ?_; refine Ex_mv rfl rfl ?_; refine Ex_ift ((sb_eq hb (by decide)).mpr c3) ?_; refine Ex_mv rfl rfl ?_; refine Ex_mv rfl rfl ?_; (first | refine Ex_addN rfl ?_ | refine Ex_mv rfl rfl ?_); refine Ex_mv rfl rfl ?_
        rw [if_neg (by decide), if_pos c3]; exact ih
      · refine Ex_mv rfl rfl ?_; refine Ex_mv rfl rfl ?_; refine Ex_alen rfl (by assumption) rfl ?_; refine Ex_mv rfl rfl ?_; refine Ex_iff (fun z => absurd ((nI_eq (by omega) (by omega)).mp z) (by omega)) ?_; refine Ex_mv rfl rfl ?_; refine Ex_mv rfl rfl ?_; (first | refine Ex_subN rfl (by omega) ?_ | refine Ex_mv rfl rfl ?_); refine Ex_mv rfl rfl ?_; refine Ex_mv rfl rfl ?_; refine Ex_ift (nI_le (by omega) (by omega)) ?_; refine Ex_mv rfl rfl ?_; refine Ex_mv rfl rfl ?_; refine Ex_mv rfl rfl ?_; refine Ex_iald rfl h1 (vp_in_nI (by omega) (by omega)) ?_
        rw [eg]
        refine Ex_invV rfl (by rfl) (by rfl) hsa (by rfl) (e1) ?_; refine Ex_mv rfl rfl ?_; refine Ex_ift hv' ?_; refine Ex_mv rfl rfl ?_; refine Ex_mv rfl rfl ?_; refine Ex_iald rfl h1 (vp_in_nI (by omega) (by omega)) ?_
        rw [eg]
        refine Ex_mv rfl rfl ?_; refine Ex_mv rfl rfl ?_; refine Ex_iff (fun z => c3 ((sb_eq hb (by decide)).mp z)) ?_; refine Ex_mv rfl rfl ?_
        refine Ex_rt rfl rfl ⟨?_, rfl⟩
        simp [c3, oI]
end REFF
