/-! Ranking: its changes -/
theorem AI.ins {g : Nat → Int32} {L : List Nat} {x r : Nat} (hg : ∀ j, j < L.length → g j = nI (L.getD j 0)) (hr : r ≤ L.length) (hl : L.length < 2 ^ 30) : ∀ j, j < (L.take r ++ x :: L.drop r).length → upd (va_cpy g g (nI r).toNatClampNeg (nI (r + 1)).toNatClampNeg (nI (L.length - r)).toNatClampNeg) (nI r).toNatClampNeg (nI x) j = nI ((L.take r ++ x :: L.drop r).getD j 0) := by
  intro j hj
  rw [nI_clamp (by omega), nI_clamp (by omega), nI_clamp (by omega)]
  simp only [List.length_append, List.length_take, List.length_cons, List.length_drop, Nat.min_eq_left hr] at hj
  have hlt : (L.take r).length = r := by simp [Nat.min_eq_left hr]
  by_cases h1 : j < r
  · rw [pk_un (by omega), pk_cpy_out (Or.inl (by omega)), hg j (by omega)]
    congr 1
    rw [List.getD_eq_getElem?_getD, List.getD_eq_getElem?_getD, List.getElem?_append_left (by omega), List.getElem?_take, if_pos h1]
  · by_cases h2 : j = r
    · subst h2
      rw [pk_us]
      congr 1
      rw [List.getD_eq_getElem?_getD, List.getElem?_append_right (by omega), hlt, Nat.sub_self]
      rfl
    · rw [pk_un (by omega), pk_cpy_in (by omega) (by omega), hg _ (by omega)]
      congr 1
      rw [List.getD_eq_getElem?_getD, List.getD_eq_getElem?_getD, List.getElem?_append_right (by omega), hlt, show j - r = (j - r - 1) + 1 by omega, List.getElem?_cons_succ, List.getElem?_drop]
      rw [show r + (j - (r + 1)) = r + (j - r - 1) by omega]
section RANK2
variable {nb sa : Nat} {h : Hp} {k pc : Nat} {Q : Nat → Fp} {L : List (Nat × Nat)}
theorem c_RK_insert (hK : RK h k Q pc L) {r i : Nat} (hr : r ≤ L.length) (hi : i < 61) (hpc : 1 ≤ pc) (hl : L.length < 150) : EvQ (prog nb sa) m_RK_insert [.ref k, .int (nI r), .int (nI i)] h (fun v h' => v = some (.int (nI 1)) ∧ RK h' k Q pc (L.take r ++ (pc - 1, i) :: L.drop r) ∧ FrI k (k + 28) h h') := by
  obtain ⟨a1, ⟨g, a2, a3⟩, ⟨g2, b1, b2⟩, ⟨g3, b3, b4⟩, a6, a7, a8, a9, a10⟩ := id hK
  have p1 : ∀ z, (hset h (k + 2) z).2.2 k = _ := fun z => hs_ne (by omega) a1
  have p2 : ∀ z, (hset h (k + 2) z).2.2 (k + 3) = _ := fun z => hs_ne (by omega) b3
  have p3 : ∀ z w, (hset (hset h (k + 2) z) (k + 3) w).2.2 k = _ := fun z w => hs_ne (by omega) (p1 z)
  have p4 : ∀ z w, (hset (hset h (k + 2) z) (k + 3) w).2.2 (k + 2) = _ := fun z w => hs_ne (by omega) hs_at
  have p5 : ∀ z w u, (hset (hset (hset h (k + 2) z) (k + 3) w) (k + 2) u).2.2 k = _ := fun z w u => hs_ne (by omega) (p3 z w)
  have p6 : ∀ z w u, (hset (hset (hset h (k + 2) z) (k + 3) w) (k + 2) u).2.2 (k + 3) = _ := fun z w u => hs_ne (by omega) hs_at
  have p7 : ∀ z w u y, (hset (hset (hset (hset h (k + 2) z) (k + 3) w) (k + 2) u) (k + 3) y).2.2 k = _ := fun z w u y => hs_ne (by omega) (p5 z w u)
  have FF : ∀ z w u y x, FrI k (k + 4) h (hset (hset (hset (hset (hset h (k + 2) z) (k + 3) w) (k + 2) u) (k + 3) y) k x) := fun z w u y x => ((((FrI.rf.set (by omega) (by omega)).set (by omega) (by omega)).set (by omega) (by omega)).set (by omega) (by omega)).set (by omega) (by omega)
  have hLt : (L.take r).length = r := by simp [Nat.min_eq_left hr]
  have ml1 : (L.map (·.1)).length = L.length := by simp
  have ml2 : (L.map (·.2)).length = L.length := by simp
  refine EvQ_of k_RK_insert 3 [some (.ref k), some (.int (nI r)), some (.int (nI i))] rfl (Nat.le_of_ble_eq_true rfl) rfl ?_
  refine Ex_mv rfl rfl ?_; refine Ex_mv rfl rfl ?_; refine Ex_lt0 (by omega) ?_; refine Ex_mv rfl rfl ?_; refine Ex_mv rfl rfl ?_; refine Ex_getf rfl (by assumption) rfl ?_; refine Ex_mv rfl rfl ?_; refine Ex_iff (nI_nlt (by omega) (by omega)) ?_; refine Ex_mv rfl rfl ?_; refine Ex_getf rfl (by assumption) rfl ?_; refine Ex_mv rfl rfl ?_; refine Ex_mv rfl rfl ?_; refine Ex_ift (nI_lt (by omega) (by omega)) ?_; refine Ex_mv rfl rfl ?_; refine Ex_getf rfl (by assumption) rfl ?_; refine Ex_mv rfl rfl ?_; refine Ex_mv rfl rfl ?_; refine Ex_getf rfl (by assumption) rfl ?_; refine Ex_mv rfl rfl ?_; refine Ex_mv rfl rfl ?_; (first | refine Ex_addN rfl ?_ | refine Ex_mv rfl rfl ?_); refine Ex_mv rfl rfl ?_; refine Ex_getf rfl (by assumption) rfl ?_; refine Ex_mv rfl rfl ?_; (first | refine Ex_subN rfl (by omega) ?_ | refine Ex_mv rfl rfl ?_); refine Ex_acp rfl rfl b1 b1 rfl (nI_pos (by omega)) (nI_pos (by omega)) (nI_pos (by omega)) (by rw [nI_clamp (by omega), nI_clamp (by omega)]; omega) (by rw [nI_clamp (by omega), nI_clamp (by omega)]; omega) ?_; refine Ex_mv rfl rfl ?_; refine Ex_getf rfl (p1 _) rfl ?_; refine Ex_mv rfl rfl ?_; refine Ex_mv rfl rfl ?_; refine Ex_getf rfl (p1 _) rfl ?_; refine Ex_mv rfl rfl ?_; refine Ex_mv rfl rfl ?_; (first | refine Ex_addN rfl ?_ | refine Ex_mv rfl rfl ?_); refine Ex_mv rfl rfl ?_; refine Ex_getf rfl (p1 _) rfl ?_; refine Ex_mv rfl rfl ?_; (first | refine Ex_subN rfl (by omega) ?_ | refine Ex_mv rfl rfl ?_); refine Ex_acp rfl rfl (p2 _) (p2 _) rfl (nI_pos (by omega)) (nI_pos (by omega)) (nI_pos (by omega)) (by rw [nI_clamp (by omega), nI_clamp (by omega)]; omega) (by rw [nI_clamp (by omega), nI_clamp (by omega)]; omega) ?_; refine Ex_mv rfl rfl ?_; refine Ex_getf rfl (p3 _ _) rfl ?_; refine Ex_mv rfl rfl ?_; refine Ex_mv rfl rfl ?_; refine Ex_getf rfl (p3 _ _) rfl ?_; refine Ex_mv rfl rfl ?_; (first | refine Ex_subN rfl (by omega) ?_ | refine Ex_mv rfl rfl ?_); refine Ex_iast rfl (p4 _ _) (vp_in_nI (by omega) (by decide)) ?_; refine Ex_mv rfl rfl ?_; refine Ex_getf rfl (p5 _ _ _) rfl ?_; refine Ex_mv rfl rfl ?_; refine Ex_mv rfl rfl ?_; refine Ex_iast rfl (p6 _ _ _) (vp_in_nI (by omega) (by decide)) ?_; refine Ex_mv rfl rfl ?_; refine Ex_mv rfl rfl ?_; refine Ex_getf rfl (p7 _ _ _ _) rfl ?_; refine Ex_mv rfl rfl ?_; (first | refine Ex_addN rfl ?_ | refine Ex_mv rfl rfl ?_); refine Ex_putf rfl (p7 _ _ _ _) rfl rfl ?_; refine Ex_mv rfl rfl ?_
  refine Ex_rt rfl rfl ?_
  refine ⟨rfl, ⟨?_, ⟨g, hs_ne (by omega) (hs_ne (by omega) (hs_ne (by omega) (hs_ne (by omega) (hs_ne (by omega) a2)))), a3⟩, ⟨_, hs_ne (by omega) (hs_ne (by omega) hs_at), ?_⟩, ⟨_, hs_ne (by omega) hs_at, ?_⟩, fun j hj => (a6 j hj).fr (FF _ _ _ _ _) (by omega), a7, ?_, ?_, a10⟩, (FF _ _ _ _ _).wd (by omega) (by omega)⟩
  · rw [show (L.take r ++ (pc - 1, i) :: L.drop r).length = L.length + 1 by simp; omega]
    exact hs_at
  · have := AI.ins (x := pc - 1) (r := r) b2 (by omega) (by omega)
    rw [ml1] at this
    simpa using this
  · have := AI.ins (x := i) (r := r) b4 (by omega) (by omega)
    rw [ml2] at this
    simpa using this
  · simp; omega
  · intro o ho
    rcases List.mem_append.mp ho with q | q
    · exact a9 o (List.mem_of_mem_take q)
    · rcases List.mem_cons.mp q with q | q
      · subst q; exact ⟨by simp; omega, hi⟩
      · exact a9 o (List.mem_of_mem_drop q)
theorem c_RK_insertF (hK : RK h k Q pc L) {r i : Nat} (hr : r ≤ L.length) (hl : 150 ≤ L.length) : Ev (prog nb sa) m_RK_insert [.ref k, .int (nI r), .int (nI i)] h (some (.int (nI 0))) h := by
  obtain ⟨a1, ⟨g, a2, a3⟩, ⟨g2, b1, b2⟩, ⟨g3, b3, b4⟩, a6, a7, a8, a9, a10⟩ := id hK
  refine Ev_ofL k_RK_insert 3 [some (.ref k), some (.int (nI r)), some (.int (nI i))] rfl (Nat.le_of_ble_eq_true rfl) rfl ?_
  refine Ex_mv rfl rfl ?_; refine Ex_mv rfl rfl ?_; refine Ex_lt0 (by omega) ?_; refine Ex_mv rfl rfl ?_; refine Ex_mv rfl rfl ?_; refine Ex_getf rfl (by assumption) rfl ?_; refine Ex_mv rfl rfl ?_; refine Ex_iff (nI_nlt (by omega) (by omega)) ?_; refine Ex_mv rfl rfl ?_; refine Ex_getf rfl (by assumption) rfl ?_; refine Ex_mv rfl rfl ?_; refine Ex_mv rfl rfl ?_; refine Ex_iff (nI_nlt (by omega) (by omega)) ?_; refine Ex_mv rfl rfl ?_
  exact Ex_rt rfl rfl ⟨rfl, rfl⟩
/-- the meanings of a pool's places put in, each once; none: no room -/
noncomputable def addS (B : List Nat) (S : Nat → Nat) (n : Nat) : Nat → Nat → List Mng → Option (List Mng)
  | 0, _, M => some M
  | d + 1, i, M => if tg B S n i = 0 then addS B S n d (i + 1) M else if mng B S n i ∈ M then addS B S n d (i + 1) M else if 150 ≤ M.length then none else addS B S n d (i + 1) (insM M (mng B S n i))
def RkA (h : Hp) (k : Nat) (Q : Nat → Fp) (pc : Nat) (o : Option (List Mng)) (v : Option Value) : Prop := match o with
  | none => v = some (.int (nI 0)) ∧ ∃ L, RK h k Q pc L
  | some M => v = some (.int (nI 1)) ∧ ∃ L, RK h k Q pc L ∧ mgs Q L = M ∧ SoM M
theorem RK_add_loop {q : Nat} {x1 : Option Value} (hpc : pc < 6) : ∀ (d i : Nat) (x4 x5 : Option Value) (h : Hp) (L : List (Nat × Nat)), i + d = (Q pc).2.2 ∨ d = 0 ∧ (Q pc).2.2 ≤ i → 1 ≤ i → i < 100 → RK h k Q (pc + 1) L → SoM (mgs Q L) → Ex (prog nb sa) k_RK_add 48 [some (.ref k), x1, some (.ref (k + 4 + 4 * pc)), some (.int (nI i)), x4, x5] [] h (fun v h' => RkA h' k Q (pc + 1) (addS (Q pc).1 (Q pc).2.1 (Q pc).2.2 d i (mgs Q L)) v ∧ FrI k (k + 28) h h')
  | 0, i, x4, x5, h, L, hd, h1, hi, hK, hso => by
    have hP : PO h (k + 4 + 4 * pc) (Q pc).1 (Q pc).2.1 (Q pc).2.2 := hK.2.2.2.2.1 pc hpc
    have hp := hP.1
    have hn : (Q pc).2.2 ≤ 61 := hP.2.2.2.1
    refine Ex_mv rfl rfl ?_; refine Ex_mv rfl rfl ?_; refine Ex_invV rfl (by rfl) (by rfl) (by assumption) (by rfl) (c_PL_places hP) ?_; refine Ex_mv rfl rfl ?_; refine Ex_ift (nI_le (by omega) (by omega)) ?_; refine Ex_mv rfl rfl ?_
    refine Ex_rt rfl rfl ?_
    exact ⟨⟨rfl, L, hK, rfl, hso⟩, FrI.rf⟩
  | d + 1, i, x4, x5, h, L, hd, h1, hi, hK, hso => by
    have hP : PO h (k + 4 + 4 * pc) (Q pc).1 (Q pc).2.1 (Q pc).2.2 := hK.2.2.2.2.1 pc hpc
    have hV : TV (Q pc).1 (Q pc).2.1 (Q pc).2.2 := hK.2.2.2.2.2.2.2.2 pc (by omega)
    have hp := hP.1
    have hn : (Q pc).2.2 ≤ 61 := hP.2.2.2.1
    have hc := hK.1
    have ht := tg_lt (S := (Q pc).2.1) (n := (Q pc).2.2) hP.row.lt i
    have hle := lowM_le (mgs Q L) (mng (Q pc).1 (Q pc).2.1 (Q pc).2.2 i)
    rw [mgs_len] at hle
    have hl : L.length ≤ 150 := hK.2.2.2.2.2.2.1
    rw [addS]
    by_cases e0 : tg (Q pc).1 (Q pc).2.1 (Q pc).2.2 i = 0
    · rw [if_pos e0]
      refine Ex_mv rfl rfl ?_; refine Ex_mv rfl rfl ?_; refine Ex_invV rfl (by rfl) (by rfl) (by assumption) (by rfl) (c_PL_places hP) ?_; refine Ex_mv rfl rfl ?_; refine Ex_iff (nI_ge (by omega) (by omega)) ?_; refine Ex_mv rfl rfl ?_; refine Ex_mv rfl rfl ?_; refine Ex_invV rfl (by rfl) (by rfl) (by assumption) (by rfl) (c_PL_tag hP (by omega)) ?_; refine Ex_mv rfl rfl ?_; refine Ex_iff (by rw [e0]; decide) ?_; refine Ex_mv rfl rfl ?_; refine Ex_mv rfl rfl ?_; refine Ex_mv rfl rfl ?_; refine Ex_mv rfl rfl ?_; refine Ex_mv rfl rfl ?_; refine Ex_mv rfl rfl ?_; refine Ex_ift rfl ?_; refine Ex_mv rfl rfl ?_; refine Ex_mv rfl rfl ?_; refine Ex_mv rfl rfl ?_; refine Ex_mv rfl rfl ?_; refine Ex_ift (by decide) ?_; (first | refine Ex_incN rfl rfl ?_ | refine Ex_mv rfl rfl ?_); refine Ex_mv rfl rfl ?_
      exact RK_add_loop (q := q) hpc d (i + 1) _ _ h L (by omega) (by omega) (by omega) hK hso
    · rw [if_neg e0]
      by_cases e1 : mng (Q pc).1 (Q pc).2.1 (Q pc).2.2 i ∈ mgs Q L
      · rw [if_pos e1]
        have g1 := lowM_has (mgs Q L) hso e1
        have hlt : lowM (mgs Q L) (mng (Q pc).1 (Q pc).2.1 (Q pc).2.2 i) < L.length := by
          rcases Nat.lt_or_ge (lowM (mgs Q L) (mng (Q pc).1 (Q pc).2.1 (Q pc).2.2 i)) L.length with z | z
          · exact z
          · rw [List.getElem?_eq_none (by rw [mgs_len]; exact z)] at g1; cases g1
        have g2 : mg Q (L.getD (lowM (mgs Q L) (mng (Q pc).1 (Q pc).2.1 (Q pc).2.2 i)) (0, 0)) = mng (Q pc).1 (Q pc).2.1 (Q pc).2.2 i := by
          rw [← mgs_at hlt]
          rw [List.getElem?_eq_getElem (by rw [mgs_len]; exact hlt)] at g1
          exact Option.some.inj g1
        refine Ex_mv rfl rfl ?_; refine Ex_mv rfl rfl ?_; refine Ex_invV rfl (by rfl) (by rfl) (by assumption) (by rfl) (c_PL_places hP) ?_; refine Ex_mv rfl rfl ?_; refine Ex_iff (nI_ge (by omega) (by omega)) ?_; refine Ex_mv rfl rfl ?_; refine Ex_mv rfl rfl ?_; refine Ex_invV rfl (by rfl) (by rfl) (by assumption) (by rfl) (c_PL_tag hP (by omega)) ?_; refine Ex_mv rfl rfl ?_; refine Ex_ift (nI_nz e0 (by omega)) ?_; refine Ex_mv rfl rfl ?_; refine Ex_mv rfl rfl ?_; refine Ex_mv rfl rfl ?_; refine Ex_invV rfl (by rfl) (by rfl) (by assumption) (by rfl) (c_RK_firstNotBelow hK hP hV (by omega) hso) ?_; refine Ex_mv rfl rfl ?_; refine Ex_mv rfl rfl ?_; refine Ex_mv rfl rfl ?_; refine Ex_mv rfl rfl ?_; refine Ex_iff (nI_nm1 (by omega)) ?_; refine Ex_mv rfl rfl ?_; refine Ex_mv rfl rfl ?_; refine Ex_mv rfl rfl ?_; refine Ex_mv rfl rfl ?_; refine Ex_invV rfl (by rfl) (by rfl) (by assumption) (by rfl) (c_RK_orderOf hK hP hV (by omega) hlt) ?_
        rw [g2, cmpM_eq.mpr rfl]
        refine Ex_mv rfl rfl ?_; refine Ex_ift rfl ?_; refine Ex_mv rfl rfl ?_; refine Ex_mv rfl rfl ?_; refine Ex_mv rfl rfl ?_; refine Ex_mv rfl rfl ?_; refine Ex_ift (by decide) ?_; (first | refine Ex_incN rfl rfl ?_ | refine Ex_mv rfl rfl ?_); refine Ex_mv rfl rfl ?_
        exact RK_add_loop (q := q) hpc d (i + 1) _ _ h L (by omega) (by omega) (by omega) hK hso
      · rw [if_neg e1]
        have hE : ∃ c, Ev (prog nb sa) m_RK_orderOf [.ref k, .int (nI (lowM (mgs Q L) (mng (Q pc).1 (Q pc).2.1 (Q pc).2.2 i))), .ref (k + 4 + 4 * pc), .int (nI i)] h (some (.int c)) h ∧ ¬ c = 0 := by
          rcases Nat.lt_or_ge (lowM (mgs Q L) (mng (Q pc).1 (Q pc).2.1 (Q pc).2.2 i)) L.length with hlt | hge
          · refine ⟨_, c_RK_orderOf hK hP hV (by omega) hlt, fun z => e1 ?_⟩
            rw [← cmpM_eq.mp z, ← mgs_at hlt]
            exact List.getElem_mem _
          · exact ⟨_, c_RK_orderOfN hK hge (by omega), by decide⟩
        obtain ⟨c, hE1, hE2⟩ := hE
        by_cases e2 : 150 ≤ (mgs Q L).length
        · rw [if_pos e2]
          rw [mgs_len] at e2
          refine Ex_mv rfl rfl ?_; refine Ex_mv rfl rfl ?_; refine Ex_invV rfl (by rfl) (by rfl) (by assumption) (by rfl) (c_PL_places hP) ?_; refine Ex_mv rfl rfl ?_; refine Ex_iff (nI_ge (by omega) (by omega)) ?_; refine Ex_mv rfl rfl ?_; refine Ex_mv rfl rfl ?_; refine Ex_invV rfl (by rfl) (by rfl) (by assumption) (by rfl) (c_PL_tag hP (by omega)) ?_; refine Ex_mv rfl rfl ?_; refine Ex_ift (nI_nz e0 (by omega)) ?_; refine Ex_mv rfl rfl ?_; refine Ex_mv rfl rfl ?_; refine Ex_mv rfl rfl ?_; refine Ex_invV rfl (by rfl) (by rfl) (by assumption) (by rfl) (c_RK_firstNotBelow hK hP hV (by omega) hso) ?_; refine Ex_mv rfl rfl ?_; refine Ex_mv rfl rfl ?_; refine Ex_mv rfl rfl ?_; refine Ex_mv rfl rfl ?_; refine Ex_iff (nI_nm1 (by omega)) ?_; refine Ex_mv rfl rfl ?_; refine Ex_mv rfl rfl ?_; refine Ex_mv rfl rfl ?_; refine Ex_mv rfl rfl ?_; refine Ex_invV rfl (by rfl) (by rfl) (by assumption) (by rfl) (hE1) ?_; refine Ex_mv rfl rfl ?_; refine Ex_iff hE2 ?_; refine Ex_mv rfl rfl ?_; refine Ex_mv rfl rfl ?_; refine Ex_mv rfl rfl ?_; refine Ex_mv rfl rfl ?_; refine Ex_mv rfl rfl ?_; refine Ex_iff (by decide) ?_; refine Ex_mv rfl rfl ?_; refine Ex_mv rfl rfl ?_; refine Ex_mv rfl rfl ?_; refine Ex_invV rfl (by rfl) (by rfl) (by assumption) (by rfl) (c_RK_insertF hK hle e2) ?_; refine Ex_mv rfl rfl ?_; refine Ex_iff (by decide) ?_; refine Ex_mv rfl rfl ?_
          refine Ex_rt rfl rfl ?_
          exact ⟨⟨rfl, L, hK⟩, FrI.rf⟩
        · rw [if_neg e2]
          rw [mgs_len] at e2
          obtain ⟨_, h2, e3, rfl, K2, F2⟩ := c_RK_insert (nb := nb) (sa := sa) hK (r := lowM (mgs Q L) (mng (Q pc).1 (Q pc).2.1 (Q pc).2.2 i)) (i := i) hle (by omega) (by omega) (by omega)
          have hP2 : PO h2 (k + 4 + 4 * pc) (Q pc).1 (Q pc).2.1 (Q pc).2.2 := K2.2.2.2.2.1 pc hpc
          have hm2 : mgs Q (L.take (lowM (mgs Q L) (mng (Q pc).1 (Q pc).2.1 (Q pc).2.2 i)) ++ (pc + 1 - 1, i) :: L.drop (lowM (mgs Q L) (mng (Q pc).1 (Q pc).2.1 (Q pc).2.2 i))) = insM (mgs Q L) (mng (Q pc).1 (Q pc).2.1 (Q pc).2.2 i) := by
            rw [insM_new _ e1]
            simp only [mgs, List.map_append, List.map_cons, List.map_take, List.map_drop]
            rfl
          have ih := RK_add_loop (q := q) (x1 := x1) hpc d (i + 1) (some (.int (nI (lowM (mgs Q L) (mng (Q pc).1 (Q pc).2.1 (Q pc).2.2 i))))) (some (.int (nI 1))) h2 _ (by omega) (by omega) (by omega) K2 (by rw [hm2]; exact insM_so _ hso)
          rw [hm2] at ih
          refine Ex_mv rfl rfl ?_; refine Ex_mv rfl rfl ?_; refine Ex_invV rfl (by rfl) (by rfl) (by assumption) (by rfl) (c_PL_places hP) ?_; refine Ex_mv rfl rfl ?_; refine Ex_iff (nI_ge (by omega) (by omega)) ?_; refine Ex_mv rfl rfl ?_; refine Ex_mv rfl rfl ?_; refine Ex_invV rfl (by rfl) (by rfl) (by assumption) (by rfl) (c_PL_tag hP (by omega)) ?_; refine Ex_mv rfl rfl ?_; refine Ex_ift (nI_nz e0 (by omega)) ?_; refine Ex_mv rfl rfl ?_; refine Ex_mv rfl rfl ?_; refine Ex_mv rfl rfl ?_; refine Ex_invV rfl (by rfl) (by rfl) (by assumption) (by rfl) (c_RK_firstNotBelow hK hP hV (by omega) hso) ?_; refine Ex_mv rfl rfl ?_; refine Ex_mv rfl rfl ?_; refine Ex_mv rfl rfl ?_; refine Ex_mv rfl rfl ?_; refine Ex_iff (nI_nm1 (by omega)) ?_; refine Ex_mv rfl rfl ?_; refine Ex_mv rfl rfl ?_; refine Ex_mv rfl rfl ?_; refine Ex_mv rfl rfl ?_; refine Ex_invV rfl (by rfl) (by rfl) (by assumption) (by rfl) (hE1) ?_; refine Ex_mv rfl rfl ?_; refine Ex_iff hE2 ?_; refine Ex_mv rfl rfl ?_; refine Ex_mv rfl rfl ?_; refine Ex_mv rfl rfl ?_; refine Ex_mv rfl rfl ?_; refine Ex_mv rfl rfl ?_; refine Ex_iff (by decide) ?_; refine Ex_mv rfl rfl ?_; refine Ex_mv rfl rfl ?_; refine Ex_mv rfl rfl ?_; refine Ex_invV rfl (by rfl) (by rfl) (by assumption) (by rfl) (e3) ?_; refine Ex_mv rfl rfl ?_; refine Ex_ift (by decide) ?_; (first | refine Ex_incN rfl rfl ?_ | refine Ex_mv rfl rfl ?_); refine Ex_mv rfl rfl ?_
          refine Ex_mono ih ?_
          rintro v h' ⟨q1, q2⟩
          exact ⟨q1, F2.tr q2⟩
def upQ (Q : Nat → Fp) (pc : Nat) (z : Fp) : Nat → Fp := fun i => if i = pc then z else Q i
theorem mgs_upQ {z : Fp} (hL : ∀ o ∈ L, o.1 < pc ∧ o.2 < 61) : mgs (upQ Q pc z) L = mgs Q L := by
  unfold mgs
  refine List.map_congr_left (fun o ho => ?_)
  unfold mg upQ
  rw [if_neg (by have := hL o ho; omega)]
theorem c_RK_add {q n' : Nat} {B' : List Nat} {S' : Nat → Nat} (hK : RK h k Q pc L) (hP : PO h q B' S' n') (hV : TV B' S' n') (hd : q + 4 ≤ k ∨ k + 28 ≤ q) (hpc : pc < 6) (hso : SoM (mgs Q L)) : EvQ (prog nb sa) m_RK_add [.ref k, .ref q] h (fun v h' => RkA h' k (upQ Q pc (B', S', n')) (pc + 1) (addS B' S' n' (n' - 1) 1 (mgs Q L)) v ∧ FrI k (k + 28) h h') := by
  obtain ⟨a1, ⟨g, a2, a3⟩, ⟨g2, b1, b2⟩, ⟨g3, b3, b4⟩, a6, a7, a8, a9, a10⟩ := id hK
  have hPp := a6 pc hpc
  have hpp := hPp.1
  obtain ⟨_, h1, e1, rfl, P1, F1⟩ := c_PL_copy (nb := nb) (sa := sa) hPp hP (by omega)
  have e2 : g (nI pc).toNatClampNeg = some (k + 4 + 4 * pc) := by rw [nI_clamp (by omega)]; exact a3 pc hpc
  have ak := F1.at a1 (by omega)
  have F2 : ∀ z, FrI k (k + 1) h1 (hset h1 k z) := fun z => FrI.rf.set (by omega) (by omega)
  have K2 : RK (hset h1 k (.inr (2, [.ref (k + 1), .int (nI (pc + 1)), .ref (k + 2), .ref (k + 3), .int (nI L.length)]))) k (upQ Q pc (B', S', n')) (pc + 1) L := by
    refine ⟨hs_at, ⟨g, hs_ne (by omega) (F1.at a2 (by omega)), a3⟩, ⟨g2, hs_ne (by omega) (F1.at b1 (by omega)), b2⟩, ⟨g3, hs_ne (by omega) (F1.at b3 (by omega)), b4⟩, fun i hi => ?_, by omega, a8, fun o ho => ⟨by have := a9 o ho; omega, (a9 o ho).2⟩, fun i hi => ?_⟩
    · unfold upQ
      by_cases hx : i = pc
      · subst hx; rw [if_pos rfl]; exact P1.fr (F2 _) (by omega)
      · rw [if_neg hx]; exact ((a6 i hi).fr F1 (by omega)).fr (F2 _) (by omega)
    · unfold upQ
      by_cases hx : i = pc
      · rw [if_pos hx]; exact hV
      · rw [if_neg hx]; exact a10 i (by omega)
  have hup : (upQ Q pc (B', S', n')) pc = (B', S', n') := by unfold upQ; rw [if_pos rfl]
  have hn : n' ≤ 61 := hP.2.2.2.1
  have ih := RK_add_loop (nb := nb) (sa := sa) (q := q) (x1 := some (.ref q)) (Q := upQ Q pc (B', S', n')) hpc (n' - 1) 1 none none _ L (by rw [hup]; simp only; omega) (by omega) (by omega) K2 (by rw [mgs_upQ a9]; exact hso)
  rw [hup, mgs_upQ a9] at ih
  refine EvQ_of k_RK_add 6 [some (.ref k), some (.ref q), none, none, none, none] rfl (Nat.le_of_ble_eq_true rfl) rfl ?_
  refine Ex_mv rfl rfl ?_; refine Ex_getf rfl (by assumption) rfl ?_; refine Ex_mv rfl rfl ?_; refine Ex_lt0 (by omega) ?_; refine Ex_mv rfl rfl ?_; refine Ex_getf rfl (by assumption) rfl ?_; refine Ex_mv rfl rfl ?_; refine Ex_getf rfl (by assumption) rfl ?_; refine Ex_alen rfl (by assumption) rfl ?_; refine Ex_mv rfl rfl ?_; refine Ex_ift (nI_lt (by omega) (by omega)) ?_; refine Ex_mv rfl rfl ?_; refine Ex_getf rfl (by assumption) rfl ?_; refine Ex_mv rfl rfl ?_; refine Ex_getf rfl (by assumption) rfl ?_; refine Ex_aald rfl (by assumption) rfl (vp_in_nI (by omega) (by decide)) e2 ?_; refine Ex_mv rfl rfl ?_; refine Ex_mv rfl rfl ?_; refine Ex_mv rfl rfl ?_; refine Ex_invV rfl (by rfl) (by rfl) (by assumption) (by rfl) (e1) ?_; refine Ex_mv rfl rfl ?_; refine Ex_mv rfl rfl ?_; refine Ex_getf rfl (by assumption) rfl ?_; refine Ex_mv rfl rfl ?_; (first | refine Ex_addN rfl ?_ | refine Ex_mv rfl rfl ?_); refine Ex_putf rfl (by assumption) rfl rfl ?_; refine Ex_mv rfl rfl ?_; refine Ex_mv rfl rfl ?_
  refine Ex_mono ih ?_
  rintro v h' ⟨q1, q2⟩
  exact ⟨q1, ((F1.wd (by omega) (by omega)).tr ((F2 _).wd (by omega) (by omega))).tr q2⟩
/-- how many places of a pool have a meaning -/
noncomputable def talS (B : List Nat) (S : Nat → Nat) (n : Nat) (m : Mng) : Nat → Nat → Nat
  | 0, _ => 0
  | d + 1, i => (if m = mng B S n i then 1 else 0) + talS B S n m d (i + 1)
theorem RK_tally_loop {q n' : Nat} {B' : List Nat} {S' : Nat → Nat} (hK : RK h k Q pc L) (hP : PO h q B' S' n') (hV : TV B' S' n') {r : Nat} (hr : r < L.length) : ∀ (d i s : Nat), i + d = n' ∨ d = 0 ∧ n' ≤ i → i < 100 → s ≤ i → Ex (prog nb sa) k_RK_tally 5 [some (.ref k), some (.int (nI r)), some (.ref q), some (.int (nI s)), some (.int (nI i))] [] h (fun v h' => v = some (.int (nI (s + talS B' S' n' (mg Q (L.getD r (0, 0))) d i))) ∧ h' = h)
  | 0, i, s, hd, hi, hs => by
    have hp := hP.1
    have hn : n' ≤ 61 := hP.2.2.2.1
    refine Ex_mv rfl rfl ?_; refine Ex_mv rfl rfl ?_; refine Ex_invV rfl (by rfl) (by rfl) (by assumption) (by rfl) (c_PL_places hP) ?_; refine Ex_mv rfl rfl ?_; refine Ex_ift (nI_le (by omega) (by omega)) ?_; refine Ex_mv rfl rfl ?_
    exact Ex_rt rfl rfl ⟨rfl, rfl⟩
  | d + 1, i, s, hd, hi, hs => by
    have hp := hP.1
    have hc := hK.1
    have hn : n' ≤ 61 := hP.2.2.2.1
    have hl : L.length ≤ 150 := hK.2.2.2.2.2.2.1
    rw [talS]
    by_cases e : mg Q (L.getD r (0, 0)) = mng B' S' n' i
    · rw [if_pos e, ← Nat.add_assoc]
      refine Ex_mv rfl rfl ?_; refine Ex_mv rfl rfl ?_; refine Ex_invV rfl (by rfl) (by rfl) (by assumption) (by rfl) (c_PL_places hP) ?_; refine Ex_mv rfl rfl ?_; refine Ex_iff (nI_ge (by omega) (by omega)) ?_; refine Ex_mv rfl rfl ?_; refine Ex_mv rfl rfl ?_; refine Ex_mv rfl rfl ?_; refine Ex_mv rfl rfl ?_; refine Ex_invV rfl (by rfl) (by rfl) (by assumption) (by rfl) (c_RK_orderOf hK hP hV (by omega) hr) ?_; refine Ex_mv rfl rfl ?_; refine Ex_iff (not_not_intro (cmpM_eq.mpr e)) ?_; (first | refine Ex_incN rfl rfl ?_ | refine Ex_mv rfl rfl ?_); (first | refine Ex_incN rfl rfl ?_ | refine Ex_mv rfl rfl ?_); refine Ex_mv rfl rfl ?_
      exact RK_tally_loop hK hP hV hr d (i + 1) (s + 1) (by omega) (by omega) (by omega)
    · rw [if_neg e, Nat.zero_add]
      refine Ex_mv rfl rfl ?_; refine Ex_mv rfl rfl ?_; refine Ex_invV rfl (by rfl) (by rfl) (by assumption) (by rfl) (c_PL_places hP) ?_; refine Ex_mv rfl rfl ?_; refine Ex_iff (nI_ge (by omega) (by omega)) ?_; refine Ex_mv rfl rfl ?_; refine Ex_mv rfl rfl ?_; refine Ex_mv rfl rfl ?_; refine Ex_mv rfl rfl ?_; refine Ex_invV rfl (by rfl) (by rfl) (by assumption) (by rfl) (c_RK_orderOf hK hP hV (by omega) hr) ?_; refine Ex_mv rfl rfl ?_; refine Ex_ift (ne_nI0 (fun z => e (cmpM_eq.mp z))) ?_; (first | refine Ex_incN rfl rfl ?_ | refine Ex_mv rfl rfl ?_); refine Ex_mv rfl rfl ?_
      exact RK_tally_loop hK hP hV hr d (i + 1) s (by omega) (by omega) (by omega)
theorem c_RK_tally {q n' : Nat} {B' : List Nat} {S' : Nat → Nat} (hK : RK h k Q pc L) (hP : PO h q B' S' n') (hV : TV B' S' n') {r : Nat} (hr : r < L.length) : Ev (prog nb sa) m_RK_tally [.ref k, .int (nI r), .ref q] h (some (.int (nI (talS B' S' n' (mg Q (L.getD r (0, 0))) (n' - 1) 1)))) h := by
  refine Ev_ofL k_RK_tally 5 [some (.ref k), some (.int (nI r)), some (.ref q), none, none] rfl (Nat.le_of_ble_eq_true rfl) rfl ?_
  refine Ex_mv rfl rfl ?_; refine Ex_mv rfl rfl ?_; refine Ex_mv rfl rfl ?_; refine Ex_mv rfl rfl ?_
  refine Ex_mono (RK_tally_loop hK hP hV hr (n' - 1) 1 0 (by omega) (by omega) (by omega)) ?_
  rintro v h' ⟨rfl, rfl⟩
  rw [Nat.zero_add]
  exact ⟨rfl, rfl⟩
end RANK2
