/-! Ranking -/
abbrev Fp : Type := List Nat × (Nat → Nat) × Nat
def mg (Q : Nat → Fp) (o : Nat × Nat) : Mng := mng (Q o.1).1 (Q o.1).2.1 (Q o.1).2.2 o.2
def RK (h : Hp) (k : Nat) (Q : Nat → Fp) (pc : Nat) (L : List (Nat × Nat)) : Prop :=
  h.2.2 k = some (true, .inr (2, [.ref (k + 1), .int (nI pc), .ref (k + 2), .ref (k + 3), .int (nI L.length)])) ∧ (∃ g, h.2.2 (k + 1) = some (true, .inl (6, 6, .inr (.inr (.inr (.inr g))))) ∧ ∀ i, i < 6 → g i = some (k + 4 + 4 * i)) ∧ AI h (k + 2) 150 (L.map (·.1)) ∧ AI h (k + 3) 150 (L.map (·.2)) ∧ (∀ i, i < 6 → PO h (k + 4 + 4 * i) (Q i).1 (Q i).2.1 (Q i).2.2) ∧ pc ≤ 6 ∧ L.length ≤ 150 ∧ (∀ o ∈ L, o.1 < pc ∧ o.2 < 61) ∧ ∀ i, i < pc → TV (Q i).1 (Q i).2.1 (Q i).2.2
section RANK
variable {nb sa : Nat} {h : Hp} {k pc : Nat} {Q : Nat → Fp} {L : List (Nat × Nat)}
theorem RK.fr {h' : Hp} {lo hi : Nat} (h1 : RK h k Q pc L) (f : FrI lo hi h h') (hq : k + 28 ≤ lo ∨ hi ≤ k) : RK h' k Q pc L := by
  obtain ⟨a1, ⟨g, a2, a3⟩, a4, a5, a6, a7⟩ := h1
  exact ⟨f.at a1 (by omega), ⟨g, f.at a2 (by omega), a3⟩, a4.fr f (by omega), a5.fr f (by omega), fun i hi => (a6 i hi).fr f (by omega), a7⟩
theorem pr1 {L : List (Nat × Nat)} {r : Nat} : (L.map (·.1)).getD r 0 = (L.getD r (0, 0)).1 := by
  simp only [List.getD_eq_getElem?_getD, List.getElem?_map]
  cases L[r]? <;> rfl
theorem pr2 {L : List (Nat × Nat)} {r : Nat} : (L.map (·.2)).getD r 0 = (L.getD r (0, 0)).2 := by
  simp only [List.getD_eq_getElem?_getD, List.getElem?_map]
  cases L[r]? <;> rfl
theorem RK.el (hK : RK h k Q pc L) {r : Nat} (hr : r < L.length) : (L.getD r (0, 0)).1 < pc ∧ (L.getD r (0, 0)).2 < 61 := by
  obtain ⟨a1, a2, a4, a5, a6, a7, a8, a9, a10⟩ := hK
  refine a9 _ ?_
  rw [List.getD_eq_getElem?_getD, List.getElem?_eq_getElem hr]
  exact List.getElem_mem hr
theorem c_RK_size (hK : RK h k Q pc L) : Ev (prog nb sa) m_RK_size [.ref k] h (some (.int (nI L.length))) h := by
  have hc := hK.1
  refine Ev_ofL k_RK_size 1 [some (.ref k)] rfl (Nat.le_of_ble_eq_true rfl) rfl ?_
  refine Ex_mv rfl rfl ?_; refine Ex_getf rfl (by assumption) rfl ?_
  exact Ex_rt rfl rfl ⟨rfl, rfl⟩
theorem c_RK_clear (hK : RK h k Q pc L) : EvQ (prog nb sa) m_RK_clear [.ref k] h (fun v h' => v = none ∧ RK h' k Q 0 [] ∧ FrI k (k + 28) h h') := by
  obtain ⟨a1, ⟨g, a2, a3⟩, ⟨g2, b1, b2⟩, ⟨g3, b3, b4⟩, a6, a7, a8, a9, a10⟩ := id hK
  refine EvQ_of k_RK_clear 1 [some (.ref k)] rfl (Nat.le_of_ble_eq_true rfl) rfl ?_
  refine Ex_mv rfl rfl ?_; refine Ex_mv rfl rfl ?_; refine Ex_putf rfl (by assumption) rfl rfl ?_; refine Ex_mv rfl rfl ?_; refine Ex_mv rfl rfl ?_; refine Ex_putf rfl hs_at rfl rfl ?_
  refine Ex_rt rfl rfl ?_
  refine ⟨rfl, ⟨hs_at, ⟨g, hs_ne (by omega) (hs_ne (by omega) a2), a3⟩, ⟨g2, hs_ne (by omega) (hs_ne (by omega) b1), by simp⟩, ⟨g3, hs_ne (by omega) (hs_ne (by omega) b3), by simp⟩, fun i hi => (a6 i hi).fr ((FrI.set (lo := k) (hi := k + 1) FrI.rf (by omega) (by omega)).set (by omega) (by omega)) (by omega), by omega, by simp, by simp, fun i hi => by omega⟩, (FrI.rf.set (by omega) (by omega)).set (by omega) (by omega)⟩
theorem c_RK_poolOf (hK : RK h k Q pc L) {r : Nat} (hr : r < L.length) : Ev (prog nb sa) m_RK_poolOf [.ref k, .int (nI r)] h (some (.ref (k + 4 + 4 * (L.getD r (0, 0)).1))) h := by
  have he := hK.el hr
  obtain ⟨a1, ⟨g, a2, a3⟩, ⟨g2, b1, b2⟩, ⟨g3, b3, b4⟩, a6, a7, a8, a9, a10⟩ := id hK
  have e1 : g2 (nI r).toNatClampNeg = nI (L.getD r (0, 0)).1 := by
    rw [AI.get (h := h) (a := k) (n := k) b2 (by simpa using hr) (by omega), pr1]
  have e2 : g (nI (L.getD r (0, 0)).1).toNatClampNeg = some (k + 4 + 4 * (L.getD r (0, 0)).1) := by
    rw [nI_clamp (by omega)]; exact a3 _ (by omega)
  refine Ev_ofL k_RK_poolOf 3 [some (.ref k), some (.int (nI r)), none] rfl (Nat.le_of_ble_eq_true rfl) rfl ?_
  refine Ex_mv rfl rfl ?_; refine Ex_mv rfl rfl ?_; refine Ex_lt0 (by omega) ?_; refine Ex_mv rfl rfl ?_; refine Ex_mv rfl rfl ?_; refine Ex_getf rfl (by assumption) rfl ?_; refine Ex_mv rfl rfl ?_; refine Ex_iff (nI_ge (by omega) (by omega)) ?_; refine Ex_mv rfl rfl ?_; refine Ex_mv rfl rfl ?_; refine Ex_mv rfl rfl ?_; refine Ex_ift (nI_lt (by omega) (by omega)) ?_; refine Ex_mv rfl rfl ?_; refine Ex_getf rfl (by assumption) rfl ?_; refine Ex_mv rfl rfl ?_; refine Ex_iald rfl (by assumption) (vp_in_nI (by omega) (by decide)) ?_
  rw [e1]
  refine Ex_mv rfl rfl ?_; refine Ex_mv rfl rfl ?_; refine Ex_mv rfl rfl ?_; refine Ex_lt0 (by omega) ?_; refine Ex_mv rfl rfl ?_; refine Ex_mv rfl rfl ?_; refine Ex_getf rfl (by assumption) rfl ?_; refine Ex_alen rfl (by assumption) rfl ?_; refine Ex_mv rfl rfl ?_; refine Ex_iff (nI_ge (by omega) (by omega)) ?_; refine Ex_mv rfl rfl ?_; refine Ex_getf rfl (by assumption) rfl ?_; refine Ex_mv rfl rfl ?_; refine Ex_aald rfl (by assumption) rfl (vp_in_nI (by omega) (by decide)) e2 ?_; refine Ex_mv rfl rfl ?_
  exact Ex_rt rfl rfl ⟨rfl, rfl⟩
theorem c_RK_poolOfN (hK : RK h k Q pc L) {r : Nat} (hr : L.length ≤ r) (hr2 : r < 2 ^ 31) : Ev (prog nb sa) m_RK_poolOf [.ref k, .int (nI r)] h (some .null) h := by
  have hc := hK.1
  obtain ⟨a1, ⟨g, a2, a3⟩, ⟨g2, b1, b2⟩, ⟨g3, b3, b4⟩, a6, a7, a8, a9, a10⟩ := id hK
  refine Ev_ofL k_RK_poolOf 3 [some (.ref k), some (.int (nI r)), none] rfl (Nat.le_of_ble_eq_true rfl) rfl ?_
  refine Ex_mv rfl rfl ?_; refine Ex_mv rfl rfl ?_; refine Ex_lt0 (by omega) ?_; refine Ex_mv rfl rfl ?_; refine Ex_mv rfl rfl ?_; refine Ex_getf rfl (by assumption) rfl ?_; refine Ex_mv rfl rfl ?_; refine Ex_ift (nI_le (by omega) (by omega)) ?_; refine Ex_mv rfl rfl ?_
  exact Ex_rt rfl rfl ⟨rfl, rfl⟩
theorem c_RK_placeOf (hK : RK h k Q pc L) {r : Nat} (hr : r < L.length) : Ev (prog nb sa) m_RK_placeOf [.ref k, .int (nI r)] h (some (.int (nI (L.getD r (0, 0)).2))) h := by
  have he := hK.el hr
  obtain ⟨a1, ⟨g, a2, a3⟩, ⟨g2, b1, b2⟩, ⟨g3, b3, b4⟩, a6, a7, a8, a9, a10⟩ := id hK
  have e1 : g3 (nI r).toNatClampNeg = nI (L.getD r (0, 0)).2 := by
    rw [AI.get (h := h) (a := k) (n := k) b4 (by simpa using hr) (by omega), pr2]
  refine Ev_ofL k_RK_placeOf 2 [some (.ref k), some (.int (nI r))] rfl (Nat.le_of_ble_eq_true rfl) rfl ?_
  refine Ex_mv rfl rfl ?_; refine Ex_mv rfl rfl ?_; refine Ex_lt0 (by omega) ?_; refine Ex_mv rfl rfl ?_; refine Ex_mv rfl rfl ?_; refine Ex_getf rfl (by assumption) rfl ?_; refine Ex_mv rfl rfl ?_; refine Ex_iff (nI_ge (by omega) (by omega)) ?_; refine Ex_mv rfl rfl ?_; refine Ex_mv rfl rfl ?_; refine Ex_mv rfl rfl ?_; refine Ex_iff (nI_ge (by omega) (by omega)) ?_; refine Ex_mv rfl rfl ?_; refine Ex_getf rfl (by assumption) rfl ?_; refine Ex_mv rfl rfl ?_; refine Ex_iald rfl (by assumption) (vp_in_nI (by omega) (by decide)) ?_
  rw [e1]
  refine Ex_mv rfl rfl ?_
  exact Ex_rt rfl rfl ⟨rfl, rfl⟩
theorem RK.pool (hK : RK h k Q pc L) {r : Nat} (hr : r < L.length) : PO h (k + 4 + 4 * (L.getD r (0, 0)).1) (Q (L.getD r (0, 0)).1).1 (Q (L.getD r (0, 0)).1).2.1 (Q (L.getD r (0, 0)).1).2.2 ∧ TV (Q (L.getD r (0, 0)).1).1 (Q (L.getD r (0, 0)).1).2.1 (Q (L.getD r (0, 0)).1).2.2 := by
  have he := hK.el hr
  obtain ⟨a1, a2, a4, a5, a6, a7, a8, a9, a10⟩ := hK
  exact ⟨a6 _ (by omega), a10 _ he.1⟩
theorem c_RK_orderOf {q n' i : Nat} {B' : List Nat} {S' : Nat → Nat} (hK : RK h k Q pc L) (hP : PO h q B' S' n') (hV : TV B' S' n') (hi : i < 2 ^ 30) {r : Nat} (hr : r < L.length) : Ev (prog nb sa) m_RK_orderOf [.ref k, .int (nI r), .ref q, .int (nI i)] h (some (.int (cmpM (mg Q (L.getD r (0, 0))) (mng B' S' n' i)))) h := by
  have hc := hK.1
  have he := hK.el hr
  obtain ⟨p1, p2⟩ := hK.pool hr
  have hp1 := p1.1
  refine Ev_ofL k_RK_orderOf 5 [some (.ref k), some (.int (nI r)), some (.ref q), some (.int (nI i)), none] rfl (Nat.le_of_ble_eq_true rfl) rfl ?_
  refine Ex_mv rfl rfl ?_; refine Ex_mv rfl rfl ?_; refine Ex_invV rfl (by rfl) (by rfl) (by assumption) (by rfl) (c_RK_poolOf hK hr) ?_; refine Ex_mv rfl rfl ?_; refine Ex_mv rfl rfl ?_; refine Ex_mv rfl rfl ?_; refine Ex_mv rfl rfl ?_; refine Ex_mv rfl rfl ?_; refine Ex_mv rfl rfl ?_; refine Ex_invV rfl (by rfl) (by rfl) (by assumption) (by rfl) (c_RK_placeOf hK hr) ?_; refine Ex_mv rfl rfl ?_; refine Ex_mv rfl rfl ?_; refine Ex_invV rfl (by rfl) (by rfl) (by assumption) (by rfl) (c_PL_order p1 hP p2 hV (by omega) hi) ?_
  exact Ex_rt rfl rfl ⟨rfl, rfl⟩
theorem c_RK_orderOfN {q : Nat} {i : Int32} (hK : RK h k Q pc L) {r : Nat} (hr : L.length ≤ r) (hr2 : r < 2 ^ 31) : Ev (prog nb sa) m_RK_orderOf [.ref k, .int (nI r), .ref q, .int i] h (some (.int (nI 1))) h := by
  have hc := hK.1
  refine Ev_ofL k_RK_orderOf 5 [some (.ref k), some (.int (nI r)), some (.ref q), some (.int i), none] rfl (Nat.le_of_ble_eq_true rfl) rfl ?_
  refine Ex_mv rfl rfl ?_; refine Ex_mv rfl rfl ?_; refine Ex_invV rfl (by rfl) (by rfl) (by assumption) (by rfl) (c_RK_poolOfN hK hr hr2) ?_; refine Ex_mv rfl rfl ?_; refine Ex_mv rfl rfl ?_; refine Ex_mv rfl rfl ?_; refine Ex_mv rfl rfl ?_; refine Ex_mv rfl rfl ?_
  exact Ex_rt rfl rfl ⟨rfl, rfl⟩
theorem c_RK_tag (hK : RK h k Q pc L) {r : Nat} (hr : r < L.length) : Ev (prog nb sa) m_RK_tag [.ref k, .int (nI r)] h (some (.int (nI (mg Q (L.getD r (0, 0))).1))) h := by
  have hc := hK.1
  have he := hK.el hr
  obtain ⟨p1, p2⟩ := hK.pool hr
  have hp1 := p1.1
  refine Ev_ofL k_RK_tag 3 [some (.ref k), some (.int (nI r)), none] rfl (Nat.le_of_ble_eq_true rfl) rfl ?_
  refine Ex_mv rfl rfl ?_; refine Ex_mv rfl rfl ?_; refine Ex_invV rfl (by rfl) (by rfl) (by assumption) (by rfl) (c_RK_poolOf hK hr) ?_; refine Ex_mv rfl rfl ?_; refine Ex_mv rfl rfl ?_; refine Ex_mv rfl rfl ?_; refine Ex_mv rfl rfl ?_; refine Ex_mv rfl rfl ?_; refine Ex_mv rfl rfl ?_; refine Ex_invV rfl (by rfl) (by rfl) (by assumption) (by rfl) (c_RK_placeOf hK hr) ?_; refine Ex_invV rfl (by rfl) (by rfl) (by assumption) (by rfl) (c_PL_tag p1 (by omega)) ?_
  exact Ex_rt rfl rfl ⟨rfl, rfl⟩
/-- the list of meanings -/
def mgs (Q : Nat → Fp) (L : List (Nat × Nat)) : List Mng := L.map (mg Q)
theorem mgs_at {r : Nat} (hr : r < L.length) : (mgs Q L)[r]'(by simpa [mgs] using hr) = mg Q (L.getD r (0, 0)) := by
  simp [mgs, List.getD_eq_getElem?_getD, hr]
theorem half_lt {a b : Nat} (h : a < b) : a ≤ (a + b) / 2 ∧ (a + b) / 2 < b := by omega
theorem shr1 {a : Nat} (h : a < 2 ^ 31) : nI a >>> (nI 1 &&& 31) = nI (a / 2) := pk_shrN h _ 1 (by decide)
theorem RK_fnb_loop {q n' i : Nat} {B' : List Nat} {S' : Nat → Nat} (hK : RK h k Q pc L) (hP : PO h q B' S' n') (hV : TV B' S' n') (hi : i < 2 ^ 30) (hso : SoM (mgs Q L)) : ∀ (d lo hi' s : Nat) (x6 x7 : Option Value), hi' - lo ≤ d → s + d ≤ 150 → lo ≤ lowM (mgs Q L) (mng B' S' n' i) → lowM (mgs Q L) (mng B' S' n' i) ≤ hi' → hi' ≤ L.length → Ex (prog nb sa) k_RK_firstNotBelow 11 [some (.ref k), some (.ref q), some (.int (nI i)), some (.int (nI lo)), some (.int (nI hi')), some (.int (nI s)), x6, x7] [] h (fun v h' => v = some (.int (nI (lowM (mgs Q L) (mng B' S' n' i)))) ∧ h' = h)
  | 0, lo, hi', s, x6, x7, h1, h2, h3, h4, h5 => by
    have hl : L.length ≤ 150 := hK.2.2.2.2.2.2.1
    have e : lo = lowM (mgs Q L) (mng B' S' n' i) := by omega
    refine Ex_mv rfl rfl ?_; refine Ex_mv rfl rfl ?_; refine Ex_mv rfl rfl ?_; refine Ex_iff (nI_nlt (by omega) (by omega)) ?_; refine Ex_mv rfl rfl ?_; refine Ex_mv rfl rfl ?_; refine Ex_mv rfl rfl ?_; refine Ex_ift (nI_le (by omega) (by omega)) ?_; refine Ex_mv rfl rfl ?_
    refine Ex_rt rfl rfl ⟨?_, rfl⟩
    rw [e]
  | d + 1, lo, hi', s, x6, x7, h1, h2, h3, h4, h5 => by
    have hl : L.length ≤ 150 := hK.2.2.2.2.2.2.1
    have hc := hK.1
    by_cases hlt : lo < hi'
    · have hh := half_lt hlt
      have hr : (lo + hi') / 2 < L.length := by omega
      have he := hK.el hr
      obtain ⟨p1, p2⟩ := hK.pool hr
      have hp1 := p1.1
      by_cases e : cmpM (mg Q (L.getD ((lo + hi') / 2) (0, 0))) (mng B' S' n' i) = -1
      · have hn : (lo + hi') / 2 + 1 ≤ lowM (mgs Q L) (mng B' S' n' i) := Nat.not_lt.mp fun z => lowM_ge (m := mng B' S' n' i) (mgs Q L) ((lo + hi') / 2) (by simpa [mgs] using hr) hso (by omega) (by rw [mgs_at hr]; exact e)
        refine Ex_mv rfl rfl ?_; refine Ex_mv rfl rfl ?_; refine Ex_mv rfl rfl ?_; refine Ex_iff (nI_nlt (by omega) (by omega)) ?_; refine Ex_mv rfl rfl ?_; refine Ex_mv rfl rfl ?_; refine Ex_mv rfl rfl ?_; refine Ex_iff (nI_ge (by omega) (by omega)) ?_; refine Ex_mv rfl rfl ?_; refine Ex_mv rfl rfl ?_; (first | refine Ex_addN rfl ?_ | refine Ex_mv rfl rfl ?_); refine Ex_mv rfl rfl ?_; refine Ex_ishr rfl ?_
        rw [shr1 (by omega)]
        refine Ex_mv rfl rfl ?_; refine Ex_mv rfl rfl ?_; refine Ex_mv rfl rfl ?_; refine Ex_invV rfl (by rfl) (by rfl) (by assumption) (by rfl) (c_RK_poolOf hK hr) ?_; refine Ex_mv rfl rfl ?_; refine Ex_mv rfl rfl ?_; refine Ex_mv rfl rfl ?_; refine Ex_mv rfl rfl ?_; refine Ex_mv rfl rfl ?_; refine Ex_mv rfl rfl ?_; refine Ex_invV rfl (by rfl) (by rfl) (by assumption) (by rfl) (c_RK_placeOf hK hr) ?_; refine Ex_mv rfl rfl ?_; refine Ex_mv rfl rfl ?_; refine Ex_invV rfl (by rfl) (by rfl) (by assumption) (by rfl) (c_PL_order p1 hP p2 hV (by omega) hi) ?_; refine Ex_mv rfl rfl ?_; refine Ex_iff (by rw [show mng (Q (L.getD ((lo + hi') / 2) (0, 0)).1).1 (Q (L.getD ((lo + hi') / 2) (0, 0)).1).2.1 (Q (L.getD ((lo + hi') / 2) (0, 0)).1).2.2 (L.getD ((lo + hi') / 2) (0, 0)).2 = mg Q (L.getD ((lo + hi') / 2) (0, 0)) from rfl, e]; decide) ?_; refine Ex_mv rfl rfl ?_; refine Ex_mv rfl rfl ?_; (first | refine Ex_addN rfl ?_ | refine Ex_mv rfl rfl ?_); refine Ex_mv rfl rfl ?_; refine Ex_mv rfl rfl ?_; (first | refine Ex_incN rfl rfl ?_ | refine Ex_mv rfl rfl ?_); refine Ex_mv rfl rfl ?_
        exact RK_fnb_loop hK hP hV hi hso d _ _ (s + 1) _ _ (by omega) (by omega) hn h4 h5
      · have hn : lowM (mgs Q L) (mng B' S' n' i) ≤ (lo + hi') / 2 := Nat.not_lt.mp fun z => e (by rw [← mgs_at hr]; exact lowM_lt (m := mng B' S' n' i) (mgs Q L) ((lo + hi') / 2) (by simpa [mgs] using hr) z)
        have hge : (0 : Int32) ≤ cmpM (mg Q (L.getD ((lo + hi') / 2) (0, 0))) (mng B' S' n' i) := by
          rcases cmpM_good.1 (mg Q (L.getD ((lo + hi') / 2) (0, 0))) (mng B' S' n' i) with z | z | z
          · exact absurd z e
          · rw [z]; decide
          · rw [z]; decide
        refine Ex_mv rfl rfl ?_; refine Ex_mv rfl rfl ?_; refine Ex_mv rfl rfl ?_; refine Ex_iff (nI_nlt (by omega) (by omega)) ?_; refine Ex_mv rfl rfl ?_; refine Ex_mv rfl rfl ?_; refine Ex_mv rfl rfl ?_; refine Ex_iff (nI_ge (by omega) (by omega)) ?_; refine Ex_mv rfl rfl ?_; refine Ex_mv rfl rfl ?_; (first | refine Ex_addN rfl ?_ | refine Ex_mv rfl rfl ?_); refine Ex_mv rfl rfl ?_; refine Ex_ishr rfl ?_
        rw [shr1 (by omega)]
        refine Ex_mv rfl rfl ?_; refine Ex_mv rfl rfl ?_; refine Ex_mv rfl rfl ?_; refine Ex_invV rfl (by rfl) (by rfl) (by assumption) (by rfl) (c_RK_poolOf hK hr) ?_; refine Ex_mv rfl rfl ?_; refine Ex_mv rfl rfl ?_; refine Ex_mv rfl rfl ?_; refine Ex_mv rfl rfl ?_; refine Ex_mv rfl rfl ?_; refine Ex_mv rfl rfl ?_; refine Ex_invV rfl (by rfl) (by rfl) (by assumption) (by rfl) (c_RK_placeOf hK hr) ?_; refine Ex_mv rfl rfl ?_; refine Ex_mv rfl rfl ?_; refine Ex_invV rfl (by rfl) (by rfl) (by assumption) (by rfl) (c_PL_order p1 hP p2 hV (by omega) hi) ?_; refine Ex_mv rfl rfl ?_; refine Ex_ift hge ?_; refine Ex_mv rfl rfl ?_; refine Ex_mv rfl rfl ?_; (first | refine Ex_incN rfl rfl ?_ | refine Ex_mv rfl rfl ?_); refine Ex_mv rfl rfl ?_
        exact RK_fnb_loop hK hP hV hi hso d _ _ (s + 1) _ _ (by omega) (by omega) h3 hn (by omega)
    · have e : lo = lowM (mgs Q L) (mng B' S' n' i) := by omega
      refine Ex_mv rfl rfl ?_; refine Ex_mv rfl rfl ?_; refine Ex_mv rfl rfl ?_; refine Ex_iff (nI_nlt (by omega) (by omega)) ?_; refine Ex_mv rfl rfl ?_; refine Ex_mv rfl rfl ?_; refine Ex_mv rfl rfl ?_; refine Ex_ift (nI_le (by omega) (by omega)) ?_; refine Ex_mv rfl rfl ?_
      refine Ex_rt rfl rfl ⟨?_, rfl⟩
      rw [e]
theorem mgs_len : (mgs Q L).length = L.length := by simp [mgs]
theorem c_RK_firstNotBelow {q n' i : Nat} {B' : List Nat} {S' : Nat → Nat} (hK : RK h k Q pc L) (hP : PO h q B' S' n') (hV : TV B' S' n') (hi : i < 2 ^ 30) (hso : SoM (mgs Q L)) : Ev (prog nb sa) m_RK_firstNotBelow [.ref k, .ref q, .int (nI i)] h (some (.int (nI (lowM (mgs Q L) (mng B' S' n' i))))) h := by
  have hl : L.length ≤ 150 := hK.2.2.2.2.2.2.1
  have hc := hK.1
  have hle := lowM_le (mgs Q L) (mng B' S' n' i)
  rw [mgs_len] at hle
  refine Ev_ofL k_RK_firstNotBelow 8 [some (.ref k), some (.ref q), some (.int (nI i)), none, none, none, none, none] rfl (Nat.le_of_ble_eq_true rfl) rfl ?_
  refine Ex_mv rfl rfl ?_; refine Ex_mv rfl rfl ?_; refine Ex_mv rfl rfl ?_; refine Ex_getf rfl (by assumption) rfl ?_; refine Ex_mv rfl rfl ?_; refine Ex_mv rfl rfl ?_; refine Ex_mv rfl rfl ?_
  exact RK_fnb_loop hK hP hV hi hso 150 0 L.length 0 _ _ (by omega) (by omega) (by omega) hle (Nat.le_refl _)
/-- where a meaning is; none -/
noncomputable def fndM (L : List Mng) (m : Mng) : Option Nat := if m ∈ L then some (lowM L m) else none
theorem c_RK_find {q n' i : Nat} {B' : List Nat} {S' : Nat → Nat} (hK : RK h k Q pc L) (hP : PO h q B' S' n') (hV : TV B' S' n') (hi : i < 2 ^ 30) (hso : SoM (mgs Q L)) : Ev (prog nb sa) m_RK_find [.ref k, .ref q, .int (nI i)] h (some (.int (oI 0 (fndM (mgs Q L) (mng B' S' n' i))))) h := by
  have hl : L.length ≤ 150 := hK.2.2.2.2.2.2.1
  have hc := hK.1
  have hle := lowM_le (mgs Q L) (mng B' S' n' i)
  rw [mgs_len] at hle
  refine Ev_ofL k_RK_find 4 [some (.ref k), some (.ref q), some (.int (nI i)), none] rfl (Nat.le_of_ble_eq_true rfl) rfl ?_
  by_cases hm : mng B' S' n' i ∈ mgs Q L
  · have h1 := lowM_has (mgs Q L) hso hm
    have hlt : lowM (mgs Q L) (mng B' S' n' i) < L.length := by
      rcases Nat.lt_or_ge (lowM (mgs Q L) (mng B' S' n' i)) L.length with z | z
      · exact z
      · rw [List.getElem?_eq_none (by rw [mgs_len]; exact z)] at h1; cases h1
    have h2 : mg Q (L.getD (lowM (mgs Q L) (mng B' S' n' i)) (0, 0)) = mng B' S' n' i := by
      rw [← mgs_at hlt]
      rw [List.getElem?_eq_getElem (by rw [mgs_len]; exact hlt)] at h1
      exact Option.some.inj h1
    have hf : fndM (mgs Q L) (mng B' S' n' i) = some (lowM (mgs Q L) (mng B' S' n' i)) := if_pos hm
    refine Ex_mv rfl rfl ?_; refine Ex_mv rfl rfl ?_; refine Ex_mv rfl rfl ?_; refine Ex_invV rfl (by rfl) (by rfl) (by assumption) (by rfl) (c_RK_firstNotBelow hK hP hV hi hso) ?_; refine Ex_mv rfl rfl ?_; refine Ex_mv rfl rfl ?_; refine Ex_mv rfl rfl ?_; refine Ex_mv rfl rfl ?_; refine Ex_mv rfl rfl ?_; refine Ex_invV rfl (by rfl) (by rfl) (by assumption) (by rfl) (c_RK_orderOf hK hP hV hi hlt) ?_
    rw [h2, cmpM_eq.mpr rfl]
    refine Ex_mv rfl rfl ?_; refine Ex_iff (not_not_intro rfl) ?_; refine Ex_mv rfl rfl ?_; refine Ex_mv rfl rfl ?_
    refine Ex_rt rfl rfl ⟨?_, rfl⟩
    rw [hf, oI, Nat.zero_add]
  · have hf : fndM (mgs Q L) (mng B' S' n' i) = none := if_neg hm
    rw [hf]
    rcases Nat.lt_or_ge (lowM (mgs Q L) (mng B' S' n' i)) L.length with hlt | hge
    · have hne : ¬ cmpM (mg Q (L.getD (lowM (mgs Q L) (mng B' S' n' i)) (0, 0))) (mng B' S' n' i) = nI 0 := fun z => hm (by
        rw [← cmpM_eq.mp z, ← mgs_at hlt]
        exact List.getElem_mem _)
      refine Ex_mv rfl rfl ?_; refine Ex_mv rfl rfl ?_; refine Ex_mv rfl rfl ?_; refine Ex_invV rfl (by rfl) (by rfl) (by assumption) (by rfl) (c_RK_firstNotBelow hK hP hV hi hso) ?_; refine Ex_mv rfl rfl ?_; refine Ex_mv rfl rfl ?_; refine Ex_mv rfl rfl ?_; refine Ex_mv rfl rfl ?_; refine Ex_mv rfl rfl ?_; refine Ex_invV rfl (by rfl) (by rfl) (by assumption) (by rfl) (c_RK_orderOf hK hP hV hi hlt) ?_; refine Ex_mv rfl rfl ?_; refine Ex_ift (ne_nI0 hne) ?_; refine Ex_mv rfl rfl ?_
      exact Ex_rt rfl rfl ⟨rfl, rfl⟩
    · refine Ex_mv rfl rfl ?_; refine Ex_mv rfl rfl ?_; refine Ex_mv rfl rfl ?_; refine Ex_invV rfl (by rfl) (by rfl) (by assumption) (by rfl) (c_RK_firstNotBelow hK hP hV hi hso) ?_; refine Ex_mv rfl rfl ?_; refine Ex_mv rfl rfl ?_; refine Ex_mv rfl rfl ?_; refine Ex_mv rfl rfl ?_; refine Ex_mv rfl rfl ?_; refine Ex_invV rfl (by rfl) (by rfl) (by assumption) (by rfl) (c_RK_orderOfN hK hge (by omega)) ?_; refine Ex_mv rfl rfl ?_; refine Ex_ift (by decide) ?_; refine Ex_mv rfl rfl ?_
      exact Ex_rt rfl rfl ⟨rfl, rfl⟩
end RANK
