/-! how Ranking and ClassPools are made -/
section INIT2
variable {nb sa : Nat}
theorem RK_init_loop {k : Nat} {cell : List Value} (hcl : cell[0]? = some (.ref (k + 1))) : ∀ (d i : Nat) (h : Hp) (g : Nat → Option Nat), i + d = 6 → h.1 = k + 4 + 4 * i → h.2.2 k = some (true, .inr (2, cell)) → h.2.2 (k + 1) = some (true, .inl (6, 6, .inr (.inr (.inr (.inr g))))) → (∀ j, j < i → g j = some (k + 4 + 4 * j) ∧ PO h (k + 4 + 4 * j) [] (fun _ => 0) 0) → Ex (prog nb sa) k_RK_init 43 [some (.ref k), some (.int (nI i))] [] h (fun v h' => v = none ∧ h'.1 = k + 28 ∧ h'.2.1 = h.2.1 + 466 * d ∧ (∀ q, q < k + 4 → q ≠ k + 1 → h'.2.2 q = h.2.2 q) ∧ ∃ g', h'.2.2 (k + 1) = some (true, .inl (6, 6, .inr (.inr (.inr (.inr g'))))) ∧ ∀ j, j < 6 → g' j = some (k + 4 + 4 * j) ∧ PO h' (k + 4 + 4 * j) [] (fun _ => 0) 0)
  | 0, i, h, g, hd, hs, hc, hA, hg => by
    have : i = 6 := by omega
    subst this
    refine Ex_mv rfl rfl ?_; refine Ex_mv rfl rfl ?_; refine Ex_getf rfl hc hcl ?_; refine Ex_alen rfl hA rfl ?_; refine Ex_mv rfl rfl ?_; refine Ex_ift (nI_le (by omega) (by omega)) ?_
    exact Ex_rt rfl rfl ⟨rfl, by omega, rfl, fun _ _ _ => rfl, g, hA, hg⟩
  | d + 1, i, h, g, hd, hs, hc, hA, hg => by
    obtain ⟨_, h1, e1, rfl, P1, F1⟩ := c_PL_init (nb := nb) (sa := sa) (h := hnew h 3 (.inr (1, [.null, .null, .int 0]))) (a := h.1) hn_at rfl
    have old : ∀ q, q < h.1 → h1.2.2 q = h.2.2 q := fun q hq => (F1.2.2 q (show q < h.1 + 1 by omega) (by omega)).trans (if_neg (by omega))
    have hs1 : h1.1 = k + 4 + 4 * (i + 1) := by rw [F1.1]; show h.1 + 1 + 3 = _; omega
    have hA1 := (old (k + 1) (by omega)).trans hA
    have F2 : ∀ z, FrI (k + 1) (k + 2) h1 (hset h1 (k + 1) z) := fun z => FrI.rf.set (by omega) (by omega)
    have ih := RK_init_loop hcl d (i + 1) (hset h1 (k + 1) (.inl (6, 6, .inr (.inr (.inr (.inr (va_up g (nI i).toNatClampNeg (some h.1)))))))) _ (by omega) hs1 (hs_ne (by omega) ((old k (by omega)).trans hc)) hs_at (fun j hj => by
      rw [nI_clamp (by omega)]
      by_cases e : j = i
      · subst e
        refine ⟨by simp [va_up, hs], ?_⟩
        rw [← hs]
        exact P1.fr (F2 _) (by omega)
      · obtain ⟨q1, q2⟩ := hg j (by omega)
        exact ⟨by simp [va_up, e, q1], (q2.eq (h' := h1) (fun q z1 z2 => old q (by omega))).fr (F2 _) (by omega)⟩)
    refine Ex_mv rfl rfl ?_; refine Ex_mv rfl rfl ?_; refine Ex_getf rfl hc hcl ?_; refine Ex_alen rfl hA rfl ?_; refine Ex_mv rfl rfl ?_; refine Ex_iff (nI_ge (by omega) (by omega)) ?_
    refine Ex_mv rfl rfl ?_; refine Ex_getf rfl hc hcl ?_; refine Ex_mv rfl rfl ?_; refine Ex_new rfl ?_; refine Ex_mv rfl rfl ?_; refine Ex_invI rfl (by rfl) (by rfl) (by rfl) e1 ?_
    refine Ex_aast rfl hA1 P1.1 rfl (vp_in_nI (by omega) (by decide)) ?_
    refine Ex_incN rfl rfl ?_; refine Ex_mv rfl rfl ?_
    refine Ex_mono ih ?_
    rintro v h' ⟨rfl, q1, q2, q3, q4⟩
    refine ⟨rfl, q1, ?_, fun q z1 z2 => ?_, q4⟩
    · rw [q2]; show h1.2.1 + _ = _; rw [F1.2.1]; show h.2.1 + 3 + 463 + _ = _; omega
    · rw [q3 q z1 z2, (F2 _).2.2 q (by omega), old q (by omega)]
theorem c_RK_init {h : Hp} {k : Nat} {z0 z1 z2 z3 z4 : Value} (hA : h.2.2 k = some (true, .inr (2, [z0, z1, z2, z3, z4]))) (ha : h.1 = k + 1) : EvQ (prog nb sa) m_RK_init [.ref k] h (fun v h' => v = none ∧ (∃ Q, RK h' k Q 0 []) ∧ FN k h h' 27 3102) := by
  have h1 : ∀ c c', (hnew h c c').2.2 k = _ := fun c c' => hn_ne (by omega) hA
  refine EvQ_of k_RK_init 2 [some (.ref k), none] rfl (Nat.le_of_ble_eq_true rfl) rfl ?_
  refine Ex_mv rfl rfl ?_; refine Ex_mv rfl rfl ?_; refine Ex_mv rfl rfl ?_; refine Ex_mv rfl rfl ?_; refine Ex_newq rfl (vin (by decide)) ?_; refine Ex_putf rfl (h1 _ _) rfl rfl ?_; refine Ex_mv rfl rfl ?_; refine Ex_mv rfl rfl ?_; refine Ex_putf rfl hs_at rfl rfl ?_
  generalize hg : hset (hset (hnew h _ _) k _) k _ = h2
  have g1 : h2.1 = k + 2 := by rw [← hg]; show h.1 + 1 = _; omega
  have g2 : h2.2.1 = h.2.1 + 6 := by rw [← hg]; rfl
  have g3 : h2.2.2 k = some (true, .inr (2, [.ref (k + 1), .int (nI 0), z2, z3, z4])) := by rw [← hg, hs_at, ← ha]; rfl
  have g4 : h2.2.2 (k + 1) = some (true, .inl (6, 6, .inr (.inr (.inr (.inr (fun _ => none)))))) := by
    rw [← hg]; refine hs_ne (by omega) (hs_ne (by omega) ?_)
    rw [← ha]; exact if_pos rfl
  have g5 : ∀ q, q < h.1 → q ≠ k → h2.2.2 q = h.2.2 q := fun q q1 q2 => by rw [← hg]; exact (if_neg q2).trans ((if_neg q2).trans (if_neg (by omega)))
  clear hg
  have n1 : ∀ c c', (hnew h2 c c').2.2 k = _ := fun c c' => hn_ne (by omega) g3
  have n2 : ∀ c c' x d d', (hnew (hset (hnew h2 c c') k x) d d').2.2 k = some (true, x) := fun c c' x d d' => hn_ne (show k ≠ h2.1 + 1 by omega) hs_at
  refine Ex_mv rfl rfl ?_; refine Ex_mv rfl rfl ?_; refine Ex_newi rfl (vin (by decide)) ?_; refine Ex_putf rfl (n1 _ _) rfl rfl ?_
  refine Ex_mv rfl rfl ?_; refine Ex_mv rfl rfl ?_; refine Ex_newi rfl (vin (by decide)) ?_; refine Ex_putf rfl (n2 _ _ _ _ _) rfl rfl ?_
  refine Ex_mv rfl rfl ?_; refine Ex_mv rfl rfl ?_; refine Ex_putf rfl hs_at rfl rfl ?_
  refine Ex_mv rfl rfl ?_; refine Ex_mv rfl rfl ?_
  generalize hg3 : hset (hset (hnew (hset (hnew h2 _ _) k _) _ _) k _) k _ = h3
  have k1 : h3.1 = k + 4 := by rw [← hg3]; show h2.1 + 1 + 1 = _; omega
  have k2 : h3.2.1 = h.2.1 + 306 := by rw [← hg3]; show h2.2.1 + 150 + 150 = _; omega
  have k3 : h3.2.2 k = some (true, .inr (2, [.ref (k + 1), .int (nI 0), .ref (k + 2), .ref (k + 3), .int (nI 0)])) := by
    rw [← hg3, hs_at]
    show some (true, Sum.inr (2, [Value.ref (k + 1), Value.int (nI 0), Value.ref h2.1, Value.ref (h2.1 + 1), Value.int (nI 0)])) = _
    rw [g1]
  have k5 : ∀ q, q < h2.1 → q ≠ k → h3.2.2 q = h2.2.2 q := fun q q1 q2 => by rw [← hg3]; exact (if_neg q2).trans ((if_neg q2).trans ((if_neg (show q ≠ h2.1 + 1 by omega)).trans ((if_neg q2).trans (if_neg (by omega)))))
  have k6 : h3.2.2 (k + 2) = some (true, .inl (1, 150, .inl (fun _ => 0))) := by
    rw [← hg3]; refine hs_ne (by omega) (hs_ne (by omega) (hn_ne (show k + 2 ≠ h2.1 + 1 by omega) (hs_ne (by omega) ?_)))
    rw [← g1]; exact if_pos rfl
  have k7 : h3.2.2 (k + 3) = some (true, .inl (1, 150, .inl (fun _ => 0))) := by
    rw [← hg3]; refine hs_ne (by omega) (hs_ne (by omega) ?_)
    rw [show k + 3 = h2.1 + 1 by omega]; exact if_pos rfl
  clear hg3
  refine Ex_mono (RK_init_loop rfl 6 0 h3 _ (by omega) (by omega) k3 ((k5 _ (by omega) (by omega)).trans g4) (fun j hj => by omega)) ?_
  rintro v h' ⟨rfl, q1, q2, q3, g', q4, q5⟩
  refine ⟨rfl, ⟨fun _ => ([], fun _ => 0, 0), (q3 k (by omega) (by omega)).trans k3, ⟨g', q4, fun i hi => (q5 i hi).1⟩, ⟨_, (q3 _ (by omega) (by omega)).trans k6, by simp⟩, ⟨_, (q3 _ (by omega) (by omega)).trans k7, by simp⟩, fun i hi => (q5 i hi).2, by omega, by simp, by simp, fun i hi => by omega⟩, by omega, by omega, fun q z1 z2 => ?_⟩
  rw [q3 q (by omega) (by omega), k5 q (by omega) z2, g5 q z1 z2]
/-- the files of a new object -/
theorem CP_init_loop {c0 : Nat} {cell : List Value} (hcl : cell[2]? = some (.ref (c0 + 5))) : ∀ (d i : Nat) (h : Hp) (g : Nat → Option Nat), i + d = 6 → h.1 = c0 + 65 + 11 * i → h.2.2 c0 = some (true, .inr (6, cell)) → h.2.2 (c0 + 5) = some (true, .inl (5, 6, .inr (.inr (.inr (.inr g))))) → (∀ j, j < i → g j = some (c0 + 65 + 11 * j) ∧ CFs h (c0 + 65 + 11 * j) [] x00) → Ex (prog nb sa) k_CP_init 80 [some (.ref c0), some (.int (nI i))] [] h (fun v h' => v = none ∧ h'.1 = c0 + 131 ∧ h'.2.1 = h.2.1 + 903 * d ∧ (∀ q, q < c0 + 65 → q ≠ c0 + 5 → h'.2.2 q = h.2.2 q) ∧ ∃ g', h'.2.2 (c0 + 5) = some (true, .inl (5, 6, .inr (.inr (.inr (.inr g'))))) ∧ ∀ j, j < 6 → g' j = some (c0 + 65 + 11 * j) ∧ CFs h' (c0 + 65 + 11 * j) [] x00)
  | 0, i, h, g, hd, hs, hc, hA, hg => by
    have : i = 6 := by omega
    subst this
    refine Ex_mv rfl rfl ?_; refine Ex_mv rfl rfl ?_; refine Ex_getf rfl hc hcl ?_; refine Ex_alen rfl hA rfl ?_; refine Ex_mv rfl rfl ?_; refine Ex_ift (nI_le (by omega) (by omega)) ?_
    exact Ex_rt rfl rfl ⟨rfl, by omega, rfl, fun _ _ _ => rfl, g, hA, hg⟩
  | d + 1, i, h, g, hd, hs, hc, hA, hg => by
    obtain ⟨_, h1, e1, rfl, P1, F1⟩ := c_CF_init (nb := nb) (sa := sa) (h := hnew h 9 (.inr (0, [.null, .null, .int 0, .int 0, .null, .null, .null, .null, .int 0]))) (c := h.1) hn_at rfl
    have old : ∀ q, q < h.1 → h1.2.2 q = h.2.2 q := fun q hq => (F1.2.2 q (show q < h.1 + 1 by omega) (by omega)).trans (if_neg (by omega))
    have hs1 : h1.1 = c0 + 65 + 11 * (i + 1) := by rw [F1.1]; show h.1 + 1 + 10 = _; omega
    have hA1 := (old (c0 + 5) (by omega)).trans hA
    have F2 : ∀ z, FrI (c0 + 5) (c0 + 6) h1 (hset h1 (c0 + 5) z) := fun z => FrI.rf.set (by omega) (by omega)
    have ih := CP_init_loop hcl d (i + 1) (hset h1 (c0 + 5) (.inl (5, 6, .inr (.inr (.inr (.inr (va_up g (nI i).toNatClampNeg (some h.1)))))))) _ (by omega) hs1 (hs_ne (by omega) ((old c0 (by omega)).trans hc)) hs_at (fun j hj => by
      rw [nI_clamp (by omega)]
      by_cases e : j = i
      · subst e
        refine ⟨by simp [va_up, hs], ?_⟩
        rw [← hs]
        exact CF.fr P1 (F2 _) (by omega)
      · obtain ⟨q1, q2⟩ := hg j (by omega)
        exact ⟨by simp [va_up, e, q1], CF.fr (CF.eq (h' := h1) q2 (fun q z1 z2 => old q (by omega))) (F2 _) (by omega)⟩)
    refine Ex_mv rfl rfl ?_; refine Ex_mv rfl rfl ?_; refine Ex_getf rfl hc hcl ?_; refine Ex_alen rfl hA rfl ?_; refine Ex_mv rfl rfl ?_; refine Ex_iff (nI_ge (by omega) (by omega)) ?_
    refine Ex_mv rfl rfl ?_; refine Ex_getf rfl hc hcl ?_; refine Ex_mv rfl rfl ?_; refine Ex_new rfl ?_; refine Ex_mv rfl rfl ?_; refine Ex_invI rfl (by rfl) (by rfl) (by rfl) e1 ?_
    refine Ex_aast rfl hA1 P1.1 rfl (vp_in_nI (by omega) (by decide)) ?_
    refine Ex_incN rfl rfl ?_; refine Ex_mv rfl rfl ?_
    refine Ex_mono ih ?_
    rintro v h' ⟨rfl, q1, q2, q3, q4⟩
    refine ⟨rfl, q1, ?_, fun q z1 z2 => ?_, q4⟩
    · rw [q2]; show h1.2.1 + _ = _; rw [F1.2.1]; show h.2.1 + 9 + 894 + _ = _; omega
    · rw [q3 q z1 z2, (F2 _).2.2 q (by omega), old q (by omega)]
theorem CPs_mk {h' : Hp} {c0 : Nat} {g' : Nat → Option Nat} {Q6 Q8 : Nat → Fp} {fw gw : Nat → Int32} (hc : h'.2.2 c0 = some (true, .inr (6, [.ref (c0 + 1), .ref (c0 + 3), .ref (c0 + 5), .int (nI 0), .int (-1), .ref (c0 + 6), .ref (c0 + 34), .ref (c0 + 62)]))) (hr1 : RW h' (c0 + 1) []) (hr2 : RW h' (c0 + 3) []) (q4 : h'.2.2 (c0 + 5) = some (true, .inl (5, 6, .inr (.inr (.inr (.inr g')))))) (q5 : ∀ j, j < 6 → g' j = some (c0 + 65 + 11 * j) ∧ CFs h' (c0 + 65 + 11 * j) [] x00) (hk1 : RK h' (c0 + 6) Q6 0 []) (hk2 : RK h' (c0 + 34) Q8 0 []) (hw1 : WR h' (c0 + 62) fw gw) : CPs h' c0 ([], [], [], -1, []) :=
  ⟨fun i => i, fun _ => ([], x00), c0 + 6, c0 + 34, g', hc, Or.inl ⟨rfl, rfl⟩, hr1, hr2, q4, fun i hi => ⟨(q5 i hi).1, hi⟩, fun i j _ _ e => e, fun i hi => (q5 i hi).2, fun i hi => by simp at hi, ⟨Q6, 0, [], hk1, rfl⟩, ⟨Q8, 0, [], hk2⟩, ⟨fw, gw, hw1⟩, by simp⟩
abbrev cpl (c0 : Nat) (z5 z6 z7 : Value) : List Value := [.ref (c0 + 1), .ref (c0 + 3), .ref (c0 + 5), .int (nI 0), .int (-1), z5, z6, z7]
theorem CP_init_c {h9 : Hp} {c0 : Nat} {z7 : Value} {g0 : Nat → Option Nat} (g91 : h9.1 = c0 + 62) (g93 : h9.2.2 c0 = some (true, .inr (6, cpl c0 (.ref (c0 + 6)) (.ref (c0 + 34)) z7))) (g56 : h9.2.2 (c0 + 5) = some (true, .inl (5, 6, .inr (.inr (.inr (.inr g0)))))) : Ex (prog nb sa) k_CP_init 67 [some (.ref c0), none] [] h9 (fun v h' => v = none ∧ h'.1 = c0 + 131 ∧ h'.2.1 = h9.2.1 + 5542 ∧ h'.2.2 c0 = some (true, .inr (6, cpl c0 (.ref (c0 + 6)) (.ref (c0 + 34)) (.ref (c0 + 62)))) ∧ (∀ q, q < c0 + 62 → q ≠ c0 → q ≠ c0 + 5 → h'.2.2 q = h9.2.2 q) ∧ (∃ fw gw, WR h' (c0 + 62) fw gw) ∧ ∃ g', h'.2.2 (c0 + 5) = some (true, .inl (5, 6, .inr (.inr (.inr (.inr g'))))) ∧ ∀ j, j < 6 → g' j = some (c0 + 65 + 11 * j) ∧ CFs h' (c0 + 65 + 11 * j) [] x00) := by
  obtain ⟨_, h10, e10, rfl, ⟨fw, gw, W10⟩, F10⟩ := c_WR_init (nb := nb) (sa := sa) (h := hnew h9 2 (.inr (5, [.null, .null]))) (a := h9.1) hn_at rfl
  have s10 : h10.1 = c0 + 65 := by rw [F10.1]; show h9.1 + 1 + 2 = _; omega
  have sl10 : h10.2.1 = h9.2.1 + 124 := by rw [F10.2.1]; show h9.2.1 + 2 + 122 = _; omega
  have o10 : ∀ q, q < c0 + 62 → h10.2.2 q = h9.2.2 q := fun q hq => (F10.2.2 q (show q < h9.1 + 1 by omega) (by omega)).trans (if_neg (by omega))
  rw [g91] at W10
  have hA10 := (o10 c0 (by omega)).trans g93
  refine Ex_mv rfl rfl ?_; refine Ex_new rfl ?_; refine Ex_mv rfl rfl ?_; refine Ex_invI rfl (by rfl) (by rfl) (by rfl) e10 ?_; refine Ex_putf rfl hA10 rfl rfl ?_
  generalize hg : hset h10 c0 _ = h11
  have gb1 : h11.1 = c0 + 65 := by rw [← hg]; exact s10
  have gb2 : h11.2.1 = h9.2.1 + 124 := by rw [← hg]; exact sl10
  have gb3 : h11.2.2 c0 = some (true, .inr (6, cpl c0 (.ref (c0 + 6)) (.ref (c0 + 34)) (.ref (c0 + 62)))) := by rw [← hg, hs_at, ← g91]; rfl
  have gb5 : ∀ q, q < c0 + 62 → q ≠ c0 → h11.2.2 q = h9.2.2 q := fun q q1 q2 => by rw [← hg]; exact (if_neg q2).trans (o10 q q1)
  have W11 : WR h11 (c0 + 62) fw gw := by rw [← hg]; exact W10.eq (fun q q1 q2 => if_neg (by omega))
  clear hg hA10 o10 W10 F10 e10 s10 sl10
  refine Ex_mv rfl rfl ?_; refine Ex_mv rfl rfl ?_
  refine Ex_mono (CP_init_loop rfl 6 0 h11 _ (by omega) (by omega) gb3 ((gb5 _ (by omega) (by omega)).trans g56) (fun j hj => by omega)) ?_
  rintro v h' ⟨rfl, q1, q2, q3, g', q4, q5⟩
  exact ⟨rfl, q1, by omega, (q3 c0 (by omega) (by omega)).trans gb3, fun q z1 z2 z3 => (q3 q (by omega) z3).trans (gb5 q z1 z2), ⟨fw, gw, W11.eq (fun q z1 z2 => q3 q (by omega) (by omega))⟩, g', q4, q5⟩
theorem CP_init_b {h5 : Hp} {c0 : Nat} {z5 z6 z7 : Value} {g0 : Nat → Option Nat} (g51 : h5.1 = c0 + 6) (g53 : h5.2.2 c0 = some (true, .inr (6, cpl c0 z5 z6 z7))) (g56 : h5.2.2 (c0 + 5) = some (true, .inl (5, 6, .inr (.inr (.inr (.inr g0)))))) : Ex (prog nb sa) k_CP_init 45 [some (.ref c0), none] [] h5 (fun v h' => v = none ∧ h'.1 = c0 + 131 ∧ h'.2.1 = h5.2.1 + 11756 ∧ h'.2.2 c0 = some (true, .inr (6, cpl c0 (.ref (c0 + 6)) (.ref (c0 + 34)) (.ref (c0 + 62)))) ∧ (∀ q, q < c0 + 6 → q ≠ c0 → q ≠ c0 + 5 → h'.2.2 q = h5.2.2 q) ∧ (∃ fw gw, WR h' (c0 + 62) fw gw) ∧ (∃ Q6, RK h' (c0 + 6) Q6 0 []) ∧ (∃ Q8, RK h' (c0 + 34) Q8 0 []) ∧ ∃ g', h'.2.2 (c0 + 5) = some (true, .inl (5, 6, .inr (.inr (.inr (.inr g'))))) ∧ ∀ j, j < 6 → g' j = some (c0 + 65 + 11 * j) ∧ CFs h' (c0 + 65 + 11 * j) [] x00) := by
  obtain ⟨_, h6, e6, rfl, ⟨Q6, K6⟩, F6⟩ := c_RK_init (nb := nb) (sa := sa) (h := hnew h5 5 (.inr (2, [.null, .int 0, .null, .null, .int 0]))) (k := h5.1) hn_at rfl
  have s6 : h6.1 = c0 + 34 := by rw [F6.1]; show h5.1 + 1 + 27 = _; omega
  have sl6 : h6.2.1 = h5.2.1 + 3107 := by rw [F6.2.1]; show h5.2.1 + 5 + 3102 = _; omega
  have o6 : ∀ q, q < c0 + 6 → h6.2.2 q = h5.2.2 q := fun q hq => (F6.2.2 q (show q < h5.1 + 1 by omega) (by omega)).trans (if_neg (by omega))
  rw [g51] at K6
  have hA6 := (o6 c0 (by omega)).trans g53
  refine Ex_mv rfl rfl ?_; refine Ex_new rfl ?_; refine Ex_mv rfl rfl ?_; refine Ex_invI rfl (by rfl) (by rfl) (by rfl) e6 ?_; refine Ex_putf rfl hA6 rfl rfl ?_
  generalize hg : hset h6 c0 _ = h7
  have g71 : h7.1 = c0 + 34 := by rw [← hg]; exact s6
  have g72 : h7.2.1 = h5.2.1 + 3107 := by rw [← hg]; exact sl6
  have g73 : h7.2.2 c0 = some (true, .inr (6, cpl c0 (.ref (c0 + 6)) z6 z7)) := by rw [← hg, hs_at, ← g51]; rfl
  have g75 : ∀ q, q < c0 + 6 → q ≠ c0 → h7.2.2 q = h5.2.2 q := fun q q1 q2 => by rw [← hg]; exact (if_neg q2).trans (o6 q q1)
  have K7 : RK h7 (c0 + 6) Q6 0 [] := by rw [← hg]; exact K6.eq (fun q q1 q2 => if_neg (by omega))
  clear hg K6 hA6 o6 F6 e6 s6 sl6
  obtain ⟨_, h8, e8, rfl, ⟨Q8, K8⟩, F8⟩ := c_RK_init (nb := nb) (sa := sa) (h := hnew h7 5 (.inr (2, [.null, .int 0, .null, .null, .int 0]))) (k := h7.1) hn_at rfl
  have s8 : h8.1 = c0 + 62 := by rw [F8.1]; show h7.1 + 1 + 27 = _; omega
  have sl8 : h8.2.1 = h7.2.1 + 3107 := by rw [F8.2.1]; show h7.2.1 + 5 + 3102 = _; omega
  have o8 : ∀ q, q < c0 + 34 → h8.2.2 q = h7.2.2 q := fun q hq => (F8.2.2 q (show q < h7.1 + 1 by omega) (by omega)).trans (if_neg (by omega))
  rw [g71] at K8
  have hA8 := (o8 c0 (by omega)).trans g73
  refine Ex_mv rfl rfl ?_; refine Ex_new rfl ?_; refine Ex_mv rfl rfl ?_; refine Ex_invI rfl (by rfl) (by rfl) (by rfl) e8 ?_; refine Ex_putf rfl hA8 rfl rfl ?_
  generalize hg : hset h8 c0 _ = h9
  have g91 : h9.1 = c0 + 62 := by rw [← hg]; exact s8
  have g92 : h9.2.1 = h7.2.1 + 3107 := by rw [← hg]; exact sl8
  have g93 : h9.2.2 c0 = some (true, .inr (6, cpl c0 (.ref (c0 + 6)) (.ref (c0 + 34)) z7)) := by rw [← hg, hs_at, ← g71]; rfl
  have g95 : ∀ q, q < c0 + 34 → q ≠ c0 → h9.2.2 q = h7.2.2 q := fun q q1 q2 => by rw [← hg]; exact (if_neg q2).trans (o8 q q1)
  have K9 : RK h9 (c0 + 34) Q8 0 [] := by rw [← hg]; exact K8.eq (fun q q1 q2 => if_neg (by omega))
  clear hg K8 hA8 o8 F8 e8 s8 sl8
  refine Ex_mono (CP_init_c g91 g93 (((g95 _ (by omega) (by omega)).trans (g75 _ (by omega) (by omega))).trans g56)) ?_
  rintro v h' ⟨rfl, q1, q2, q3, q4, q5, q6⟩
  exact ⟨rfl, q1, by omega, q3, fun q z1 z2 z3 => (q4 q (by omega) z2 z3).trans ((g95 q (by omega) z2).trans (g75 q z1 z2)), q5, ⟨Q6, K7.eq (fun q z1 z2 => (q4 q (by omega) (by omega) (by omega)).trans (g95 q (by omega) (by omega)))⟩, ⟨Q8, K9.eq (fun q z1 z2 => q4 q (by omega) (by omega) (by omega))⟩, q6⟩
theorem CP_init_a {h4 : Hp} {c0 : Nat} {z2 z3 z4 z5 z6 z7 : Value} (g41 : h4.1 = c0 + 5) (g43 : h4.2.2 c0 = some (true, .inr (6, [.ref (c0 + 1), .ref (c0 + 3), z2, z3, z4, z5, z6, z7]))) : Ex (prog nb sa) k_CP_init 26 [some (.ref c0), none] [] h4 (fun v h' => v = none ∧ h'.1 = c0 + 131 ∧ h'.2.1 = h4.2.1 + 11762 ∧ h'.2.2 c0 = some (true, .inr (6, cpl c0 (.ref (c0 + 6)) (.ref (c0 + 34)) (.ref (c0 + 62)))) ∧ (∀ q, q < c0 + 5 → q ≠ c0 → h'.2.2 q = h4.2.2 q) ∧ (∃ fw gw, WR h' (c0 + 62) fw gw) ∧ (∃ Q6, RK h' (c0 + 6) Q6 0 []) ∧ (∃ Q8, RK h' (c0 + 34) Q8 0 []) ∧ ∃ g', h'.2.2 (c0 + 5) = some (true, .inl (5, 6, .inr (.inr (.inr (.inr g'))))) ∧ ∀ j, j < 6 → g' j = some (c0 + 65 + 11 * j) ∧ CFs h' (c0 + 65 + 11 * j) [] x00) := by
  have n4 : ∀ c c', (hnew h4 c c').2.2 c0 = _ := fun c c' => hn_ne (by omega) g43
  refine Ex_mv rfl rfl ?_; refine Ex_mv rfl rfl ?_; refine Ex_newq rfl (vin (by decide)) ?_; refine Ex_putf rfl (n4 _ _) rfl rfl ?_
  refine Ex_mv rfl rfl ?_; refine Ex_mv rfl rfl ?_; refine Ex_putf rfl hs_at rfl rfl ?_
  refine Ex_mv rfl rfl ?_; refine Ex_mv rfl rfl ?_; refine Ex_putf rfl hs_at rfl rfl ?_
  generalize hg : hset (hset (hset (hnew h4 _ _) c0 _) c0 _) c0 _ = h5
  have g51 : h5.1 = c0 + 6 := by rw [← hg]; show h4.1 + 1 = _; omega
  have g52 : h5.2.1 = h4.2.1 + 6 := by rw [← hg]; rfl
  have g53 : h5.2.2 c0 = some (true, .inr (6, cpl c0 z5 z6 z7)) := by rw [← hg, hs_at, g41]; rfl
  have g55 : ∀ q, q < c0 + 5 → q ≠ c0 → h5.2.2 q = h4.2.2 q := fun q q1 q2 => by rw [← hg]; exact (if_neg q2).trans ((if_neg q2).trans ((if_neg q2).trans (if_neg (by omega))))
  have g56 : h5.2.2 (c0 + 5) = some (true, .inl (5, 6, .inr (.inr (.inr (.inr (fun _ => none)))))) := by
    rw [← hg]; refine hs_ne (by omega) (hs_ne (by omega) (hs_ne (by omega) ?_))
    rw [← g41]; exact if_pos rfl
  clear hg n4
  refine Ex_mono (CP_init_b g51 g53 g56) ?_
  rintro v h' ⟨rfl, q1, q2, q3, q4, q5⟩
  exact ⟨rfl, q1, by omega, q3, fun q z1 z2 => (q4 q (by omega) z2 (by omega)).trans (g55 q z1 z2), q5⟩
theorem c_CP_init {h : Hp} {c0 : Nat} {z0 z1 z2 z3 z4 z5 z6 z7 : Value} (hA : h.2.2 c0 = some (true, .inr (6, [z0, z1, z2, z3, z4, z5, z6, z7]))) (ha : h.1 = c0 + 1) : EvQ (prog nb sa) m_CP_init [.ref c0] h (fun v h' => v = none ∧ CPs h' c0 ([], [], [], -1, []) ∧ FN c0 h h' 130 12566) := by
  obtain ⟨_, h1, e1, rfl, R1, F1⟩ := c_RW_init (nb := nb) (sa := sa) (h := hnew h 2 (.inr (4, [.null, .int 0]))) (a := h.1) hn_at rfl
  have s1 : h1.1 = c0 + 3 := by rw [F1.1]; show h.1 + 1 + 1 = _; omega
  have sl1 : h1.2.1 = h.2.1 + 402 := by rw [F1.2.1]; show h.2.1 + 2 + 400 = _; omega
  have o1 : ∀ q, q < c0 + 1 → h1.2.2 q = h.2.2 q := fun q hq => (F1.2.2 q (show q < h.1 + 1 by omega) (by omega)).trans (if_neg (by omega))
  rw [ha] at R1
  have hA1 := (o1 c0 (by omega)).trans hA
  refine EvQ_of k_CP_init 2 [some (.ref c0), none] rfl (Nat.le_of_ble_eq_true rfl) rfl ?_
  refine Ex_mv rfl rfl ?_; refine Ex_mv rfl rfl ?_; refine Ex_mv rfl rfl ?_; refine Ex_new rfl ?_; refine Ex_mv rfl rfl ?_; refine Ex_invI rfl (by rfl) (by rfl) (by rfl) (e1) ?_; refine Ex_putf rfl hA1 rfl rfl ?_
  generalize hg : hset h1 c0 _ = h2
  have g1 : h2.1 = c0 + 3 := by rw [← hg]; exact s1
  have g2 : h2.2.1 = h.2.1 + 402 := by rw [← hg]; exact sl1
  have g3 : h2.2.2 c0 = some (true, .inr (6, [.ref (c0 + 1), z1, z2, z3, z4, z5, z6, z7])) := by rw [← hg, hs_at, ← ha]; rfl
  have g5 : ∀ q, q < c0 + 1 → q ≠ c0 → h2.2.2 q = h.2.2 q := fun q q1 q2 => by rw [← hg]; exact (if_neg q2).trans (o1 q q1)
  have R2 : RW h2 (c0 + 1) [] := by rw [← hg]; exact R1.eq (fun q q1 q2 => if_neg (by omega))
  clear hg R1 hA1 o1 F1 e1 s1 sl1
  obtain ⟨_, h3, e3, rfl, R3, F3⟩ := c_RW_init (nb := nb) (sa := sa) (h := hnew h2 2 (.inr (4, [.null, .int 0]))) (a := h2.1) hn_at rfl
  have s3 : h3.1 = c0 + 5 := by rw [F3.1]; show h2.1 + 1 + 1 = _; omega
  have sl3 : h3.2.1 = h.2.1 + 804 := by rw [F3.2.1]; show h2.2.1 + 2 + 400 = _; omega
  have o3 : ∀ q, q < c0 + 3 → h3.2.2 q = h2.2.2 q := fun q hq => (F3.2.2 q (show q < h2.1 + 1 by omega) (by omega)).trans (if_neg (by omega))
  rw [g1] at R3
  have hA3 := (o3 c0 (by omega)).trans g3
  refine Ex_mv rfl rfl ?_; refine Ex_new rfl ?_; refine Ex_mv rfl rfl ?_; refine Ex_invI rfl (by rfl) (by rfl) (by rfl) e3 ?_; refine Ex_putf rfl hA3 rfl rfl ?_
  generalize hg : hset h3 c0 _ = h4
  have g41 : h4.1 = c0 + 5 := by rw [← hg]; exact s3
  have g42 : h4.2.1 = h.2.1 + 804 := by rw [← hg]; exact sl3
  have g43 : h4.2.2 c0 = some (true, .inr (6, [.ref (c0 + 1), .ref (c0 + 3), z2, z3, z4, z5, z6, z7])) := by rw [← hg, hs_at, ← g1]; rfl
  have g45 : ∀ q, q < c0 + 1 → q ≠ c0 → h4.2.2 q = h.2.2 q := fun q q1 q2 => by rw [← hg, ← g5 q q1 q2]; exact (if_neg q2).trans (o3 q (by omega))
  have R4 : RW h4 (c0 + 1) [] := by rw [← hg]; exact R2.eq (fun q q1 q2 => (if_neg (by omega)).trans (o3 q (by omega)))
  have R4' : RW h4 (c0 + 3) [] := by rw [← hg]; exact R3.eq (fun q q1 q2 => if_neg (by omega))
  clear hg R2 R3 o3 F3 e3 hA3 s3 sl3
  refine Ex_mono (CP_init_a g41 g43) ?_
  rintro v h' ⟨rfl, q1, q2, q3, q4, ⟨fw, gw, q5⟩, ⟨Q6, q6⟩, ⟨Q8, q7⟩, g', q8, q9⟩
  refine ⟨rfl, CPs_mk q3 (R4.eq (fun q z1 z2 => q4 q (by omega) (by omega))) (R4'.eq (fun q z1 z2 => q4 q (by omega) (by omega))) q8 q9 q6 q7 q5, by omega, by omega, fun q z1 z2 => ?_⟩
  rw [q4 q (by omega) z2, g45 q (by omega) z2]
end INIT2
