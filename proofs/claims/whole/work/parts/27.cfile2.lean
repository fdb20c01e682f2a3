/-! ClassFile: its changes, its likeness -/
section CFILE2
variable {nb sa : Nat} {h : Hp} {c n bh aa : Nat} {B M0 M1 : List Nat} {S : Nat → Nat} {TL : List (Nat × Nat)}
theorem AI.push {g : Nat → Int32} {L : List Nat} {x : Nat} (hg : ∀ j, j < L.length → g j = nI (L.getD j 0)) (hl : L.length < 2 ^ 31) : ∀ j, j < (L ++ [x]).length → upd g (nI L.length).toNatClampNeg (nI x) j = nI ((L ++ [x]).getD j 0) := by
  intro j hj
  rw [nI_clamp hl]
  simp only [List.length_append, List.length_cons, List.length_nil] at hj
  by_cases e : j = L.length
  · subst e; simp [upd]
  · rw [List.getD_eq_getElem?_getD, List.getElem?_append_left (by omega), ← List.getD_eq_getElem?_getD]
    simp only [upd, e, if_false]
    exact hg j (by omega)
theorem FrI.s1 {h h1 : Hp} {a lo hi : Nat} {x : Ce} (h1 : lo ≤ a) (h2 : a < hi) : FrI lo hi h (hset h a x) := FrI.rf.set h1 h2
theorem c_CF_addTell (hC : CF h c B S n bh aa M0 M1 TL) {a w : Nat} (hT : TL.length < 200) (ha : a ≤ 400) (hw : w ≤ 12) : EvQ (prog nb sa) m_CF_addTell [.ref c, .int (nI a), .int (nI w)] h (fun v h' => v = none ∧ CF h' c B S n bh aa M0 M1 (TL ++ [(a, w)]) ∧ FrI c (c + 11) h h') := by
  obtain ⟨hc, a2, a3, a4, a5, a6, ⟨g, hg, hgl⟩, ⟨g2, hg2, hgl2⟩, a9, a10, a11, a12, a13, a14, a15, a16⟩ := id hC
  have hc1 : ∀ x, (hset h (c + 9) x).2.2 c = _ := fun x => hs_ne (by omega) hc
  have hg3 : ∀ x, (hset h (c + 9) x).2.2 (c + 10) = _ := fun x => hs_ne (by omega) hg2
  have hc2 : ∀ x y, (hset (hset h (c + 9) x) (c + 10) y).2.2 c = _ := fun x y => hs_ne (by omega) (hc1 x)
  refine EvQ_of k_CF_addTell 3 [some (.ref c), some (.int (nI a)), some (.int (nI w))] rfl (Nat.le_of_ble_eq_true rfl) rfl ?_
  refine Ex_mv rfl rfl ?_; refine Ex_getf rfl (by assumption) rfl ?_; refine Ex_mv rfl rfl ?_; refine Ex_lt0 (by omega) ?_; refine Ex_mv rfl rfl ?_; refine Ex_getf rfl (by assumption) rfl ?_; refine Ex_mv rfl rfl ?_; refine Ex_mv rfl rfl ?_; refine Ex_iff (nI_ge (by omega) (by decide)) ?_; refine Ex_mv rfl rfl ?_; refine Ex_getf rfl (by assumption) rfl ?_; refine Ex_mv rfl rfl ?_; refine Ex_getf rfl (by assumption) rfl ?_; refine Ex_mv rfl rfl ?_; refine Ex_iast rfl (by assumption) (vp_in_nI (by omega) (by decide)) ?_; refine Ex_mv rfl rfl ?_; refine Ex_getf rfl (hc1 _) rfl ?_; refine Ex_mv rfl rfl ?_; refine Ex_getf rfl (hc1 _) rfl ?_; refine Ex_mv rfl rfl ?_; refine Ex_iast rfl (hg3 _) (vp_in_nI (by omega) (by decide)) ?_; refine Ex_mv rfl rfl ?_; refine Ex_mv rfl rfl ?_; refine Ex_getf rfl (hc2 _ _) rfl ?_; refine Ex_mv rfl rfl ?_; (first | refine Ex_addN rfl ?_ | refine Ex_mv rfl rfl ?_); refine Ex_putf rfl (hc2 _ _) rfl rfl ?_
  have F1 : ∀ x, FrI (c + 9) (c + 10) h (hset h (c + 9) x) := fun x => FrI.rf.set (by omega) (by omega)
  have F2 : ∀ (k : Hp) x, FrI (c + 10) (c + 11) k (hset k (c + 10) x) := fun k x => FrI.rf.set (by omega) (by omega)
  have F3 : ∀ (k : Hp) x, FrI c (c + 1) k (hset k c x) := fun k x => FrI.rf.set (by omega) (by omega)
  refine Ex_rt rfl rfl ⟨rfl, ⟨?_, ?_, ?_, ?_, ?_, ?_, ⟨_, hs_ne (by omega) (hs_ne (by omega) hs_at), ?_⟩, ⟨_, hs_ne (by omega) hs_at, ?_⟩, a9, a10, by simp; omega, a12, a13, a14, a15, ?_⟩, ((FrI.rf.set (by omega) (by omega)).set (by omega) (by omega)).set (by omega) (by omega)⟩
  · rw [List.length_append]; exact hs_at
  · exact ((a2.fr (F1 _) (by omega)).fr (F2 _ _) (by omega)).fr (F3 _ _) (by omega)
  · exact hs_ne (by omega) (hs_ne (by omega) (hs_ne (by omega) a3))
  · exact ((a4.fr (F1 _) (by omega)).fr (F2 _ _) (by omega)).fr (F3 _ _) (by omega)
  · exact ((a5.fr (F1 _) (by omega)).fr (F2 _ _) (by omega)).fr (F3 _ _) (by omega)
  · exact ((a6.fr (F1 _) (by omega)).fr (F2 _ _) (by omega)).fr (F3 _ _) (by omega)
  · have := AI.push (x := a) hgl (by simp; omega)
    simpa using this
  · have := AI.push (x := w) hgl2 (by simp; omega)
    simpa using this
  · intro x hx
    rcases List.mem_append.mp hx with q | q
    · exact a16 x q
    · simp at q; subst q; exact ⟨ha, hw⟩
theorem c_CF_addMember (hC : CF h c B S n bh aa M0 M1 TL) {k a : Nat} (hk : k < 2) (hT : (mK M0 M1 k).length < 12) (ha : a ≤ 400) : EvQ (prog nb sa) m_CF_addMember [.ref c, .int (nI k), .int (nI a)] h (fun v h' => v = none ∧ CF h' c B S n bh aa (if k = 0 then M0 ++ [a] else M0) (if k = 0 then M1 else M1 ++ [a]) TL ∧ FrI c (c + 11) h h') := by
  obtain ⟨hc, a2, a3, a4, a5, ⟨g, hg, hgl⟩, a7, a8, a9, a10, a11, a12, a13, a14, a15, a16⟩ := id hC
  obtain ⟨gi, hgi, hgil⟩ := hC.inner hk
  have hq : (fun i => if i < 2 then some (c + 5 + 1 + i) else none) (nI k).toNatClampNeg = some (c + 5 + 1 + k) := by rw [nI_clamp (by omega)]; exact if_pos hk
  have hc1 : ∀ x, (hset h (c + 5 + 1 + k) x).2.2 c = _ := fun x => hs_ne (by omega) hc
  have hg1 : ∀ x, (hset h (c + 5 + 1 + k) x).2.2 (c + 8) = _ := fun x => hs_ne (by omega) hg
  have fin : ∀ x y, x = upd gi (nI (mK M0 M1 k).length).toNatClampNeg (nI a) → y = upd g (nI k).toNatClampNeg (nI ((mK M0 M1 k).length + 1)) → CF (hset (hset h (c + 5 + 1 + k) (.inl (1, 12, .inl x))) (c + 8) (.inl (1, 2, .inl y))) c B S n bh aa (if k = 0 then M0 ++ [a] else M0) (if k = 0 then M1 else M1 ++ [a]) TL ∧ FrI c (c + 11) h (hset (hset h (c + 5 + 1 + k) (.inl (1, 12, .inl x))) (c + 8) (.inl (1, 2, .inl y))) := by
    intro x y hx hy
    have F1 : ∀ x, FrI (c + 5 + 1 + k) (c + 5 + 1 + k + 1) h (hset h (c + 5 + 1 + k) x) := fun x => FrI.rf.set (by omega) (by omega)
    have F2 : ∀ (k : Hp) x, FrI (c + 8) (c + 9) k (hset k (c + 8) x) := fun k x => FrI.rf.set (by omega) (by omega)
    have hin := AI.push (x := a) hgil (by omega)
    rw [← hx] at hin
    have hcn : ∀ L0 L1 : Nat, ([L0, L1] : List Nat).getD k 0 = (mK M0 M1 k).length + 1 → ([L0, L1] : List Nat).getD (1 - k) 0 = ([M0.length, M1.length] : List Nat).getD (1 - k) 0 → ∀ j, j < ([L0, L1] : List Nat).length → y j = nI (([L0, L1] : List Nat).getD j 0) := by
      intro L0 L1 e1 e2 j hj
      rw [hy, nI_clamp (by omega)]
      by_cases e : j = k
      · subst e; simp only [upd, if_true]; rw [e1]
      · have ej : j = 1 - k := by simp at hj; omega
        simp only [upd, e, if_false]
        rw [ej, e2]
        exact hgl _ (by simp; omega)
    have hk01 : k = 0 ∨ k = 1 := by omega
    refine ⟨⟨hs_ne (by omega) (hs_ne (by omega) hc), (a2.fr (F1 _) (by omega)).fr (F2 _ _) (by omega), hs_ne (by omega) (hs_ne (by omega) a3), ?_, ?_, ?_, (a7.fr (F1 _) (by omega)).fr (F2 _ _) (by omega), (a8.fr (F1 _) (by omega)).fr (F2 _ _) (by omega), ?_, ?_, a11, a12, a13, ?_, ?_, a16⟩, (FrI.rf.set (by omega) (by omega)).set (by omega) (by omega)⟩
    · rcases hk01 with rfl | rfl
      · exact ⟨x, hs_ne (by omega) hs_at, hin⟩
      · exact (a4.fr (F1 _) (by omega)).fr (F2 _ _) (by omega)
    · rcases hk01 with rfl | rfl
      · exact (a5.fr (F1 _) (by omega)).fr (F2 _ _) (by omega)
      · exact ⟨x, hs_ne (by omega) hs_at, hin⟩
    · refine ⟨y, hs_at, ?_⟩
      rcases hk01 with rfl | rfl
      · exact hcn _ _ (by simp [mK]) (by simp)
      · exact hcn _ _ (by simp [mK]) (by simp)
    · rcases hk01 with rfl | rfl
      · simp [mK] at hT ⊢; omega
      · exact a9
    · rcases hk01 with rfl | rfl
      · exact a10
      · simp [mK] at hT ⊢; omega
    · rcases hk01 with rfl | rfl
      · intro z hz
        rcases List.mem_append.mp hz with q | q
        · exact a14 z q
        · simp at q; omega
      · exact a14
    · rcases hk01 with rfl | rfl
      · exact a15
      · intro z hz
        rcases List.mem_append.mp hz with q | q
        · exact a15 z q
        · simp at q; omega
  refine EvQ_of k_CF_addMember 4 [some (.ref c), some (.int (nI k)), some (.int (nI a)), none] rfl (Nat.le_of_ble_eq_true rfl) rfl ?_
  refine Ex_mv rfl rfl ?_; refine Ex_mv rfl rfl ?_; refine Ex_invV rfl (by rfl) (by rfl) (by assumption) (by rfl) (c_CF_members hC hk) ?_; refine Ex_mv rfl rfl ?_; refine Ex_mv rfl rfl ?_; refine Ex_mv rfl rfl ?_; (first | refine Ex_eq0 (by omega) (fun b7 => ?_) (fun b7 => ?_) | refine Ex_if (fun b7 => ?_) (fun b7 => ?_))
  · refine Ex_mv rfl rfl ?_; refine Ex_mv rfl rfl ?_; refine Ex_lt0 (by omega) ?_; refine Ex_mv rfl rfl ?_; refine Ex_mv rfl rfl ?_; refine Ex_mv rfl rfl ?_; refine Ex_iff (nI_ge (by omega) (by decide)) ?_; refine Ex_mv rfl rfl ?_; refine Ex_getf rfl (by assumption) rfl ?_; refine Ex_mv rfl rfl ?_; refine Ex_aald rfl (by assumption) rfl (vp_in_nI (by omega) (by decide)) hq ?_; refine Ex_mv rfl rfl ?_; refine Ex_mv rfl rfl ?_; refine Ex_iast rfl (by assumption) (vp_in_nI (by omega) (by decide)) ?_; refine Ex_mv rfl rfl ?_; refine Ex_getf rfl (hc1 _) rfl ?_; refine Ex_mv rfl rfl ?_; refine Ex_mv rfl rfl ?_; refine Ex_mv rfl rfl ?_; (first | refine Ex_addN rfl ?_ | refine Ex_mv rfl rfl ?_); refine Ex_iast rfl (hg1 _) (vp_in_nI (by omega) (by decide)) ?_
    refine Ex_rt rfl rfl ?_
    first | exact ⟨rfl, fin _ _ rfl rfl⟩ | (exfalso; omega)
  · refine Ex_mv rfl rfl ?_; refine Ex_mv rfl rfl ?_; refine Ex_mv rfl rfl ?_; (first | refine Ex_neN (by omega) (by omega) (fun b12 => ?_) (fun b12 => ?_) | refine Ex_if (fun b12 => ?_) (fun b12 => ?_))
    · refine Ex_rt rfl rfl ?_
      first | exact ⟨rfl, fin _ _ rfl rfl⟩ | (exfalso; omega)
    · refine Ex_mv rfl rfl ?_; refine Ex_mv rfl rfl ?_; refine Ex_lt0 (by omega) ?_; refine Ex_mv rfl rfl ?_; refine Ex_mv rfl rfl ?_; refine Ex_mv rfl rfl ?_; refine Ex_iff (nI_ge (by omega) (by decide)) ?_; refine Ex_mv rfl rfl ?_; refine Ex_getf rfl (by assumption) rfl ?_; refine Ex_mv rfl rfl ?_; refine Ex_aald rfl (by assumption) rfl (vp_in_nI (by omega) (by decide)) hq ?_; refine Ex_mv rfl rfl ?_; refine Ex_mv rfl rfl ?_; refine Ex_iast rfl (by assumption) (vp_in_nI (by omega) (by decide)) ?_; refine Ex_mv rfl rfl ?_; refine Ex_getf rfl (hc1 _) rfl ?_; refine Ex_mv rfl rfl ?_; refine Ex_mv rfl rfl ?_; refine Ex_mv rfl rfl ?_; (first | refine Ex_addN rfl ?_ | refine Ex_mv rfl rfl ?_); refine Ex_iast rfl (hg1 _) (vp_in_nI (by omega) (by decide)) ?_
      refine Ex_rt rfl rfl ?_
      first | exact ⟨rfl, fin _ _ rfl rfl⟩ | (exfalso; omega)
theorem c_CF_begin {t : Nat} {A : List Nat} (hC : CF h c B S n bh aa M0 M1 TL) (hA : RW h t A) (hd : t + 2 ≤ c ∨ c + 11 ≤ t) : EvQ (prog nb sa) m_CF_begin [.ref c, .ref t] h (fun v h' => v = none ∧ CF h' c A (fun _ => 0) 0 0 0 [] [] [] ∧ FrI c (c + 11) h h') := by
  obtain ⟨hc, a2, a3, ⟨g4, hg4, hl4⟩, ⟨g5, hg5, hl5⟩, ⟨g, hg, hgl⟩, ⟨g7, hg7, hl7⟩, ⟨g8, hg8, hl8⟩, a9⟩ := id hC
  obtain ⟨hp, hR, ⟨gs, hgs, hgS⟩, hn, hS⟩ := id a2
  obtain ⟨f, hr, ha, hB⟩ := id hR
  obtain ⟨f', hr', ha', hB'⟩ := id hA
  obtain ⟨_, h1, e1, rfl, R1, F1⟩ := c_RW_take (nb := nb) (sa := sa) hR hA (by omega) (k := 0) (n := A.length) (by omega)
  rw [show sl A 0 A.length = A by simp [sl]] at R1
  have P1 : PO h1 (c + 1) A S n := ⟨F1.at hp (by omega), R1, ⟨gs, F1.at hgs (by omega), hgS⟩, hn, hS⟩
  obtain ⟨_, h2, e2, rfl, P2, F2⟩ := c_PL_begin (nb := nb) (sa := sa) P1 (m := 0) (by decide)
  have hc1 := F1.at hc (by omega)
  have hc2 := F2.at hc1 (by omega)
  have hq1 := P1.1
  have F12 : FrI (c + 1) (c + 5) h h2 := (F1.wd (by omega) (by omega)).tr (F2.wd (by omega) (by omega))
  have hg2 : ∀ x, (hset h2 c x).2.2 (c + 8) = _ := fun x => hs_ne (by omega) (F12.at hg (by omega))
  have key : ∀ x : Ce × Ce × Ce, EvQ (prog nb sa) m_JA_fill [.ref (c + 8), .int (nI 0)] (hset (hset (hset h2 c x.1) c x.2.1) c x.2.2) (fun v h' => v = none ∧ (∃ g, h'.2.2 (c + 8) = some (true, .inl (1, 2, .inl g)) ∧ ∀ j, j < 2 → g j = nI 0) ∧ FrI (c + 8) (c + 8 + 1) (hset (hset (hset h2 c x.1) c x.2.1) c x.2.2) h') := fun x => c_JA_fill (nb := nb) (sa := sa) (by decide) (hs_ne (by omega) (hs_ne (by omega) (hg2 x.1)))
  refine EvQ_of k_CF_begin 2 [some (.ref c), some (.ref t)] rfl (Nat.le_of_ble_eq_true rfl) rfl ?_
  refine Ex_mv rfl rfl ?_; refine Ex_getf rfl (by assumption) rfl ?_; refine Ex_mv rfl rfl ?_; refine Ex_mv rfl rfl ?_; refine Ex_mv rfl rfl ?_; refine Ex_invV rfl (by rfl) (by rfl) hr' (by rfl) (c_RW_size hA) ?_; refine Ex_invV rfl (by rfl) (by rfl) (by assumption) (by rfl) (e1) ?_; refine Ex_mv rfl rfl ?_; refine Ex_mv rfl rfl ?_; refine Ex_getf rfl (by assumption) rfl ?_; refine Ex_mv rfl rfl ?_; refine Ex_invV rfl (by rfl) (by rfl) (by assumption) (by rfl) (e2) ?_; refine Ex_mv rfl rfl ?_; refine Ex_mv rfl rfl ?_; refine Ex_putf rfl hc2 rfl rfl ?_; refine Ex_mv rfl rfl ?_; refine Ex_mv rfl rfl ?_; refine Ex_putf rfl hs_at rfl rfl ?_; refine Ex_mv rfl rfl ?_; refine Ex_mv rfl rfl ?_; refine Ex_putf rfl hs_at rfl rfl ?_; refine Ex_mv rfl rfl ?_; refine Ex_getf rfl hs_at rfl ?_
  refine Ex_mv rfl rfl ?_
  obtain ⟨_, h3, e3, rfl, ⟨g9, hg9, hz9⟩, F3⟩ := key (_, _, _)
  refine Ex_inv rfl (by rfl) (by rfl) (by rfl) e3 ?_
  have F4 : FrI (c) (c + 11) h2 h3 := (((FrI.rf.set (by omega) (by omega)).set (by omega) (by omega)).set (by omega) (by omega)).tr (F3.wd (by omega) (by omega))
  have FA : ∀ q, (q < c ∨ c + 1 ≤ q) → (q < c + 8 ∨ c + 9 ≤ q) → h3.2.2 q = h2.2.2 q := fun q g1 g2 => by
    rw [F3.2.2 q (by omega)]
    exact hs_ne (by omega) (hs_ne (by omega) (hs_ne (by omega) rfl))
  have FB : ∀ x y z, FrI c (c + 1) h2 (hset (hset (hset h2 c x) c y) c z) := fun x y z => ((FrI.rf.set (by omega) (by omega)).set (by omega) (by omega)).set (by omega) (by omega)
  refine Ex_rt rfl rfl ⟨rfl, ⟨F3.at hs_at (by omega), (P2.fr (FB _ _ _) (by omega)).fr F3 (by omega), ?_, ⟨g4, ?_, by simp⟩, ⟨g5, ?_, by simp⟩, ⟨g9, hg9, ?_⟩, ⟨g7, ?_, by simp⟩, ⟨g8, ?_, by simp⟩, by simp, by simp, by simp, by omega, by omega, by simp, by simp, by simp⟩, (F12.wd (by omega) (by omega)).tr F4⟩
  · rw [FA _ (by omega) (by omega)]; exact F12.at a3 (by omega)
  · rw [FA _ (by omega) (by omega)]; exact F12.at hg4 (by omega)
  · rw [FA _ (by omega) (by omega)]; exact F12.at hg5 (by omega)
  · intro j hj
    rw [hz9 j (by simpa using hj)]
    have : j = 0 ∨ j = 1 := by simp at hj; omega
    rcases this with rfl | rfl <;> rfl
  · rw [FA _ (by omega) (by omega)]; exact F12.at hg7 (by omega)
  · rw [FA _ (by omega) (by omega)]; exact F12.at hg8 (by omega)
end CFILE2
