/-! the other side: writing entries and attributes -/
theorem tw2_len (v : Nat) : (tw2 v).length = 2 := rfl
theorem f4_len (v : Int32) : (f4 v).length = 4 := rfl
/-- what an entry's meaning needs of the order -/
def EnO (M : List Mng) (m : Mng) : Prop := m.1 = 1 ∨ (3 ≤ m.1 ∧ m.1 ≤ 6) ∨ ((m.1 = 7 ∨ m.1 = 8) ∧ (1, 0, m.2.2.1, [], []) ∈ M) ∨ (m.1 = 12 ∧ (1, 0, m.2.2.1, [], []) ∈ M ∧ (1, 0, m.2.2.2.1, [], []) ∈ M) ∨ ((9 ≤ m.1 ∧ m.1 ≤ 11) ∧ (7, 0, m.2.2.1, [], []) ∈ M ∧ (12, 0, m.2.2.2.1, m.2.2.2.2, []) ∈ M)
theorem EnO_of {B : List Nat} {x : Fs} {M : List Mng} (hG : GG B x) (hM : ∀ j, tg B x.1 x.2.1 j ≠ 0 → mng B x.1 x.2.1 j ∈ M) {j : Nat} (hj : tg B x.1 x.2.1 j ≠ 0) : EnO M (mng B x.1 x.2.1 j) := by
  have h1 : ∀ i, tg B x.1 x.2.1 i = 1 → (1, 0, tx B x.1 x.2.1 i, [], []) ∈ M := fun i hi => by rw [← mng1 hi]; exact hM i (by omega)
  rcases hG.tg12 j with t | t | t
  · exact absurd t hj
  · rw [mng1 t]; exact Or.inl rfl
  · by_cases a : tg B x.1 x.2.1 j ≤ 6
    · rw [mngN ⟨t.1, a⟩]; exact Or.inr (Or.inl ⟨t.1, a⟩)
    · by_cases b : tg B x.1 x.2.1 j = 7 ∨ tg B x.1 x.2.1 j = 8
      · rw [mng7 b]; exact Or.inr (Or.inr (Or.inl ⟨b, h1 _ (hG.p7 b).2⟩))
      · by_cases c : tg B x.1 x.2.1 j = 12
        · obtain ⟨⟨-, c1⟩, ⟨-, c2⟩⟩ := hG.p12 c
          rw [mng12 c]; exact Or.inr (Or.inr (Or.inr (Or.inl ⟨rfl, h1 _ c1, h1 _ c2⟩)))
        · have d : 9 ≤ tg B x.1 x.2.1 j ∧ tg B x.1 x.2.1 j ≤ 11 := by omega
          obtain ⟨⟨-, d1⟩, ⟨-, d2⟩⟩ := hG.p9 d
          rw [mng9 d]
          refine Or.inr (Or.inr (Or.inr (Or.inr ⟨d, ?_, ?_⟩)))
          · have := hM _ (show tg B x.1 x.2.1 (tw B x.1 x.2.1 j 1) ≠ 0 by omega)
            rw [mng7 (Or.inl d1), d1] at this
            exact this
          · have := hM _ (show tg B x.1 x.2.1 (tw B x.1 x.2.1 j 3) ≠ 0 by omega)
            rw [mng12 d2] at this
            exact this
section REFZ
variable {nb sa : Nat} {m0 f : Nat} {s : Sg} {O J : Nat} {nw : Value} {a' fl : Int32} {Jo : Nat} {B : List Nat} {x : Fs} {M : List Mng}
theorem plM_lt {m : Mng} (hl : M.length ≤ 150) : plM M m < 65536 := by
  have := hpM_le M (lowM M m)
  have := lowM_le M m
  unfold plM
  omega
theorem mvP_lt (hl : M.length ≤ 150) {i : Nat} : mvP M B x.1 x.2.1 i < 65536 := by
  have := hpM_le M (lowM M (mng B x.1 x.2.1 i))
  have := lowM_le M (mng B x.1 x.2.1 i)
  unfold mvP
  split <;> omega
theorem c_MO_addEntry {h : Hp} {X : List Nat} {u : Nat} {m : Mng} (hW : WS h m0 s O J nw a' fl Jo M.length X) (hE : OE h m0 nb f B x Jo M) (hs : SoM M) (hl : M.length ≤ 150) (hu : MGk (muM m0) h u m) (hm : EnO M m) (hX : X.length + (eOM M m).length ≤ 408) : EvQ (prog nb sa) m_MO_addEntry [.ref m0, .ref u] h (fun r h' => r = none ∧ WS h' m0 s O J nw a' fl Jo M.length (X ++ eOM M m) ∧ FW m0 h h' 2 10) := by
  obtain ⟨t, v, a, b, c⟩ := m
  obtain ⟨ta, tb, tc, u1, u2, u3, u4, u5, u6⟩ := id hu
  simp only at u1 u2 u3 u4 u6
  have hm' : t = 1 ∨ (3 ≤ t ∧ t ≤ 6) ∨ ((t = 7 ∨ t = 8) ∧ (1, 0, a, [], []) ∈ M) ∨ (t = 12 ∧ (1, 0, a, [], []) ∈ M ∧ (1, 0, b, [], []) ∈ M) ∨ ((9 ≤ t ∧ t ≤ 11) ∧ (7, 0, a, [], []) ∈ M ∧ (12, 0, b, c, []) ∈ M) := hm
  have hl1 : 1 ≤ (eOM M (t, v, a, b, c)).length := by unfold eOM; simp
  obtain ⟨_, h1, e1, rfl, W1, F1⟩ := c_MO_add (nb := nb) (sa := sa) hW (by omega) (nI t)
  rw [lowb_nI, Nat.mod_eq_of_lt u6] at W1
  have hc := hW.1
  have hc1 := W1.1
  have u11 : h1.2.2 u = _ := (F1.pf).at u1 u5
  have E1 := hE.fw F1
  have u21 := u2.pf F1.pf
  have u31 := u3.pf F1.pf
  have u41 := u4.pf F1.pf
  obtain ⟨⟨wa, gA, ua1, -, -, ua4⟩, -⟩ := id u21
  refine EvQ_of (k_MO_addEntry nb sa) 3 [some (.ref m0), some (.ref u), none] rfl (Nat.le_of_ble_eq_true rfl) rfl ?_
  rcases hm' with c1 | c3 | ⟨c7, m7⟩ | ⟨c12, m12, m12'⟩ | ⟨c9, m9, m9'⟩
  · subst c1
    have eo : eOM M (1, v, a, b, c) = 1 :: (tw2 a.length ++ a) := rfl
    rw [eo] at hX ⊢
    simp only [List.length_cons, List.length_append, tw2_len] at hX
    obtain ⟨_, h2, e2, rfl, W2, F2⟩ := c_MO_addTwo (nb := nb) (sa := sa) W1 (by simp; omega) (v := a.length) (by omega)
    have hc2 := W2.1
    have u22 := u21.pf F2.pf
    have u12 : h2.2.2 u = _ := (F1.tr F2).pf.at u1 u5
    obtain ⟨⟨wa', gA', ua1', -, -, -⟩, -⟩ := id u22
    obtain ⟨_, h3, e3, rfl, W3, F3⟩ := c_MO_addBytes (nb := nb) (sa := sa) W2 u22 (p := 0) (k := a.length) (by omega) (by simp [tw2_len]; omega)
    rw [show sl a 0 a.length = a by simp [sl], List.append_assoc, List.append_assoc] at W3
    refine Ex_mv rfl rfl ?_; refine Ex_mv rfl rfl ?_; refine Ex_mv rfl rfl ?_; refine Ex_mv rfl rfl ?_; refine Ex_getf rfl u1 rfl ?_; refine Ex_invV rfl (by rfl) (by rfl) hc (by rfl) (e1) ?_; refine Ex_mv rfl rfl ?_; refine Ex_getf rfl u11 rfl ?_; refine Ex_mv rfl rfl ?_
    show Ex _ _ 80 _ _ _ _
    refine Ex_mv rfl rfl ?_; refine Ex_mv rfl rfl ?_; refine Ex_getf rfl u11 rfl ?_; refine Ex_alen rfl ua1 rfl ?_; refine Ex_invV rfl (by rfl) (by rfl) hc1 (by rfl) (e2) ?_; refine Ex_mv rfl rfl ?_; refine Ex_mv rfl rfl ?_; refine Ex_getf rfl u12 rfl ?_; refine Ex_mv rfl rfl ?_; refine Ex_mv rfl rfl ?_; refine Ex_getf rfl u12 rfl ?_; refine Ex_alen rfl ua1' rfl ?_; refine Ex_invV rfl (by rfl) (by rfl) hc2 (by rfl) (e3) ?_; refine Ex_mv rfl rfl ?_
    refine Ex_rt rfl rfl ?_
    exact ⟨rfl, W3, ((F1.tr F2).tr F3).mono (by omega) (by omega)⟩
  · by_cases c34 : t = 3 ∨ t = 4
    · have eo : eOM M (t, v, a, b, c) = t :: f4 v.toInt32 := by
        unfold eOM
        simp only
        rw [if_neg (by omega), if_pos c34]
      rw [eo] at hX ⊢
      simp only [List.length_cons, f4_len] at hX
      obtain ⟨_, h2, e2, rfl, W2, F2⟩ := c_MO_addFour (nb := nb) (sa := sa) W1 (by simp; omega) v.toInt32
      rw [List.append_assoc] at W2
      rcases c34 with rfl | rfl
      · refine Ex_mv rfl rfl ?_; refine Ex_mv rfl rfl ?_; refine Ex_mv rfl rfl ?_; refine Ex_mv rfl rfl ?_; refine Ex_getf rfl u1 rfl ?_; refine Ex_invV rfl (by rfl) (by rfl) hc (by rfl) (e1) ?_; refine Ex_mv rfl rfl ?_; refine Ex_getf rfl u11 rfl ?_; refine Ex_mv rfl rfl ?_
        show Ex _ _ 106 _ _ _ _
        refine Ex_mv rfl rfl ?_; refine Ex_mv rfl rfl ?_; refine Ex_getf rfl u11 rfl ?_; refine Ex_mv rfl rfl ?_; refine Ex_invV rfl (by rfl) (by rfl) hc1 (by rfl) (e2) ?_; refine Ex_mv rfl rfl ?_
        refine Ex_rt rfl rfl ?_
        exact ⟨rfl, W2, (F1.tr F2).mono (by omega) (by omega)⟩
      · refine Ex_mv rfl rfl ?_; refine Ex_mv rfl rfl ?_; refine Ex_mv rfl rfl ?_; refine Ex_mv rfl rfl ?_; refine Ex_getf rfl u1 rfl ?_; refine Ex_invV rfl (by rfl) (by rfl) hc (by rfl) (e1) ?_; refine Ex_mv rfl rfl ?_; refine Ex_getf rfl u11 rfl ?_; refine Ex_mv rfl rfl ?_
        show Ex _ _ 106 _ _ _ _
        refine Ex_mv rfl rfl ?_; refine Ex_mv rfl rfl ?_; refine Ex_getf rfl u11 rfl ?_; refine Ex_mv rfl rfl ?_; refine Ex_invV rfl (by rfl) (by rfl) hc1 (by rfl) (e2) ?_; refine Ex_mv rfl rfl ?_
        refine Ex_rt rfl rfl ?_
        exact ⟨rfl, W2, (F1.tr F2).mono (by omega) (by omega)⟩
    · have c56 : t = 5 ∨ t = 6 := by omega
      have eo : eOM M (t, v, a, b, c) = t :: (f4 (v >>> ((nI 32).toInt64 &&& 63)).toInt32 ++ f4 v.toInt32) := by
        unfold eOM
        simp only
        rw [if_neg (by omega), if_neg c34, if_pos c56]
      rw [eo] at hX ⊢
      simp only [List.length_cons, List.length_append, f4_len] at hX
      obtain ⟨_, h2, e2, rfl, W2, F2⟩ := c_MO_addFour (nb := nb) (sa := sa) W1 (by simp; omega) (v >>> ((nI 32).toInt64 &&& 63)).toInt32
      have hc2 := W2.1
      have u12 : h2.2.2 u = _ := (F1.tr F2).pf.at u1 u5
      obtain ⟨_, h3, e3, rfl, W3, F3⟩ := c_MO_addFour (nb := nb) (sa := sa) W2 (by simp [f4_len]; omega) v.toInt32
      rw [List.append_assoc, List.append_assoc] at W3
      rcases c56 with rfl | rfl
      · refine Ex_mv rfl rfl ?_; refine Ex_mv rfl rfl ?_; refine Ex_mv rfl rfl ?_; refine Ex_mv rfl rfl ?_; refine Ex_getf rfl u1 rfl ?_; refine Ex_invV rfl (by rfl) (by rfl) hc (by rfl) (e1) ?_; refine Ex_mv rfl rfl ?_; refine Ex_getf rfl u11 rfl ?_; refine Ex_mv rfl rfl ?_
        show Ex _ _ 118 _ _ _ _
        refine Ex_mv rfl rfl ?_; refine Ex_mv rfl rfl ?_; refine Ex_getf rfl u11 rfl ?_; refine Ex_mv rfl rfl ?_; refine Ex_lshr rfl ?_; refine Ex_mv rfl rfl ?_; refine Ex_invV rfl (by rfl) (by rfl) hc1 (by rfl) (e2) ?_; refine Ex_mv rfl rfl ?_; refine Ex_mv rfl rfl ?_; refine Ex_getf rfl u12 rfl ?_; refine Ex_mv rfl rfl ?_; refine Ex_invV rfl (by rfl) (by rfl) hc2 (by rfl) (e3) ?_; refine Ex_mv rfl rfl ?_
        refine Ex_rt rfl rfl ?_
        exact ⟨rfl, W3, ((F1.tr F2).tr F3).mono (by omega) (by omega)⟩
      · refine Ex_mv rfl rfl ?_; refine Ex_mv rfl rfl ?_; refine Ex_mv rfl rfl ?_; refine Ex_mv rfl rfl ?_; refine Ex_getf rfl u1 rfl ?_; refine Ex_invV rfl (by rfl) (by rfl) hc (by rfl) (e1) ?_; refine Ex_mv rfl rfl ?_; refine Ex_getf rfl u11 rfl ?_; refine Ex_mv rfl rfl ?_
        show Ex _ _ 118 _ _ _ _
        refine Ex_mv rfl rfl ?_; refine Ex_mv rfl rfl ?_; refine Ex_getf rfl u11 rfl ?_; refine Ex_mv rfl rfl ?_; refine Ex_lshr rfl ?_; refine Ex_mv rfl rfl ?_; refine Ex_invV rfl (by rfl) (by rfl) hc1 (by rfl) (e2) ?_; refine Ex_mv rfl rfl ?_; refine Ex_mv rfl rfl ?_; refine Ex_getf rfl u12 rfl ?_; refine Ex_mv rfl rfl ?_; refine Ex_invV rfl (by rfl) (by rfl) hc2 (by rfl) (e3) ?_; refine Ex_mv rfl rfl ?_
        refine Ex_rt rfl rfl ?_
        exact ⟨rfl, W3, ((F1.tr F2).tr F3).mono (by omega) (by omega)⟩
  · have eo : eOM M (t, v, a, b, c) = t :: tw2 (plM M (1, 0, a, [], [])) := by
      unfold eOM
      simp only
      rw [if_neg (by omega), if_neg (by omega), if_neg (by omega), if_pos c7]
    rw [eo] at hX ⊢
    simp only [List.length_cons, tw2_len] at hX
    obtain ⟨_, h2, e2, rfl, G2⟩ := c_MO_placeOf (nb := nb) (sa := sa) W1 E1.2.1 E1.2.2.1 E1.2.2.2.1 hs u21 E1.2.1 (t := 1) (by decide) m7
    have W2 := W1.gr G2
    have hc2 := W2.1
    obtain ⟨_, h3, e3, rfl, W3, F3⟩ := c_MO_addTwo (nb := nb) (sa := sa) W2 (by simp; omega) (plM_lt (m := (1, 0, a, [], [])) hl)
    rw [List.append_assoc] at W3
    have FF : FW m0 h h3 2 10 := ((F1.tr G2.fw).tr F3).mono (by omega) (by omega)
    rcases c7 with rfl | rfl
    · refine Ex_mv rfl rfl ?_; refine Ex_mv rfl rfl ?_; refine Ex_mv rfl rfl ?_; refine Ex_mv rfl rfl ?_; refine Ex_getf rfl u1 rfl ?_; refine Ex_invV rfl (by rfl) (by rfl) hc (by rfl) (e1) ?_; refine Ex_mv rfl rfl ?_; refine Ex_getf rfl u11 rfl ?_; refine Ex_mv rfl rfl ?_
      show Ex _ _ 142 _ _ _ _
      refine Ex_mv rfl rfl ?_; refine Ex_mv rfl rfl ?_; refine Ex_mv rfl rfl ?_; refine Ex_mv rfl rfl ?_; refine Ex_getf rfl u11 rfl ?_; refine Ex_mv rfl rfl ?_; refine Ex_invV rfl (by rfl) (by rfl) hc1 (by rfl) (e2) ?_; refine Ex_invV rfl (by rfl) (by rfl) hc2 (by rfl) (e3) ?_; refine Ex_mv rfl rfl ?_
      refine Ex_rt rfl rfl ?_
      exact ⟨rfl, W3, FF⟩
    · refine Ex_mv rfl rfl ?_; refine Ex_mv rfl rfl ?_; refine Ex_mv rfl rfl ?_; refine Ex_mv rfl rfl ?_; refine Ex_getf rfl u1 rfl ?_; refine Ex_invV rfl (by rfl) (by rfl) hc (by rfl) (e1) ?_; refine Ex_mv rfl rfl ?_; refine Ex_getf rfl u11 rfl ?_; refine Ex_mv rfl rfl ?_
      show Ex _ _ 142 _ _ _ _
      refine Ex_mv rfl rfl ?_; refine Ex_mv rfl rfl ?_; refine Ex_mv rfl rfl ?_; refine Ex_mv rfl rfl ?_; refine Ex_getf rfl u11 rfl ?_; refine Ex_mv rfl rfl ?_; refine Ex_invV rfl (by rfl) (by rfl) hc1 (by rfl) (e2) ?_; refine Ex_invV rfl (by rfl) (by rfl) hc2 (by rfl) (e3) ?_; refine Ex_mv rfl rfl ?_
      refine Ex_rt rfl rfl ?_
      exact ⟨rfl, W3, FF⟩
  · subst c12
    have eo : eOM M (12, v, a, b, c) = 12 :: (tw2 (plM M (1, 0, a, [], [])) ++ tw2 (plM M (1, 0, b, [], []))) := by
      unfold eOM
      simp
    rw [eo] at hX ⊢
    simp only [List.length_cons, List.length_append, tw2_len] at hX
    obtain ⟨_, h2, e2, rfl, G2⟩ := c_MO_placeOf (nb := nb) (sa := sa) W1 E1.2.1 E1.2.2.1 E1.2.2.2.1 hs u21 E1.2.1 (t := 1) (by decide) m12
    have W2 := W1.gr G2
    have hc2 := W2.1
    obtain ⟨_, h3, e3, rfl, W3, F3⟩ := c_MO_addTwo (nb := nb) (sa := sa) W2 (by simp; omega) (plM_lt (m := (1, 0, a, [], [])) hl)
    have hc3 := W3.1
    have F13 := (F1.tr G2.fw).tr F3
    have E3 := hE.fw F13
    have u13 : h3.2.2 u = _ := F13.pf.at u1 u5
    obtain ⟨_, h4, e4, rfl, G4⟩ := c_MO_placeOf (nb := nb) (sa := sa) W3 E3.2.1 E3.2.2.1 E3.2.2.2.1 hs (u3.pf F13.pf) E3.2.1 (t := 1) (by decide) m12'
    have W4 := W3.gr G4
    have hc4 := W4.1
    obtain ⟨_, h5, e5, rfl, W5, F5⟩ := c_MO_addTwo (nb := nb) (sa := sa) W4 (by simp [tw2_len]; omega) (plM_lt (m := (1, 0, b, [], [])) hl)
    rw [List.append_assoc, List.append_assoc] at W5
    have FF : FW m0 h h5 2 10 := ((F13.tr G4.fw).tr F5).mono (by omega) (by omega)
    refine Ex_mv rfl rfl ?_; refine Ex_mv rfl rfl ?_; refine Ex_mv rfl rfl ?_; refine Ex_mv rfl rfl ?_; refine Ex_getf rfl u1 rfl ?_; refine Ex_invV rfl (by rfl) (by rfl) hc (by rfl) (e1) ?_; refine Ex_mv rfl rfl ?_; refine Ex_getf rfl u11 rfl ?_; refine Ex_mv rfl rfl ?_
    show Ex _ _ 159 _ _ _ _
    refine Ex_mv rfl rfl ?_; refine Ex_mv rfl rfl ?_; refine Ex_mv rfl rfl ?_; refine Ex_mv rfl rfl ?_; refine Ex_getf rfl u11 rfl ?_; refine Ex_mv rfl rfl ?_; refine Ex_invV rfl (by rfl) (by rfl) hc1 (by rfl) (e2) ?_; refine Ex_invV rfl (by rfl) (by rfl) hc2 (by rfl) (e3) ?_; refine Ex_mv rfl rfl ?_; refine Ex_mv rfl rfl ?_; refine Ex_mv rfl rfl ?_; refine Ex_mv rfl rfl ?_; refine Ex_getf rfl u13 rfl ?_; refine Ex_mv rfl rfl ?_; refine Ex_invV rfl (by rfl) (by rfl) hc3 (by rfl) (e4) ?_; refine Ex_invV rfl (by rfl) (by rfl) hc4 (by rfl) (e5) ?_; refine Ex_mv rfl rfl ?_
    refine Ex_rt rfl rfl ?_
    exact ⟨rfl, W5, FF⟩
  · have eo : eOM M (t, v, a, b, c) = t :: (tw2 (plM M (7, 0, a, [], [])) ++ tw2 (plM M (12, 0, b, c, []))) := by
      unfold eOM
      simp only
      rw [if_neg (by omega), if_neg (by omega), if_neg (by omega), if_neg (by omega), if_neg (by omega)]
    rw [eo] at hX ⊢
    simp only [List.length_cons, List.length_append, tw2_len] at hX
    obtain ⟨_, h2, e2, rfl, G2⟩ := c_MO_placeOf (nb := nb) (sa := sa) W1 E1.2.1 E1.2.2.1 E1.2.2.2.1 hs u21 E1.2.1 (t := 7) (by decide) m9
    have W2 := W1.gr G2
    have hc2 := W2.1
    obtain ⟨_, h3, e3, rfl, W3, F3⟩ := c_MO_addTwo (nb := nb) (sa := sa) W2 (by simp; omega) (plM_lt (m := (7, 0, a, [], [])) hl)
    have hc3 := W3.1
    have F13 := (F1.tr G2.fw).tr F3
    have E3 := hE.fw F13
    have u13 : h3.2.2 u = _ := F13.pf.at u1 u5
    obtain ⟨_, h4, e4, rfl, G4⟩ := c_MO_placeOf (nb := nb) (sa := sa) W3 E3.2.1 E3.2.2.1 E3.2.2.2.1 hs (u3.pf F13.pf) (u4.pf F13.pf) (t := 12) (by decide) m9'
    have W4 := W3.gr G4
    have hc4 := W4.1
    obtain ⟨_, h5, e5, rfl, W5, F5⟩ := c_MO_addTwo (nb := nb) (sa := sa) W4 (by simp [tw2_len]; omega) (plM_lt (m := (12, 0, b, c, [])) hl)
    rw [List.append_assoc, List.append_assoc] at W5
    have FF : FW m0 h h5 2 10 := ((F13.tr G4.fw).tr F5).mono (by omega) (by omega)
    have c9' : t = 9 ∨ t = 10 ∨ t = 11 := by omega
    rcases c9' with rfl | rfl | rfl
    · refine Ex_mv rfl rfl ?_; refine Ex_mv rfl rfl ?_; refine Ex_mv rfl rfl ?_; refine Ex_mv rfl rfl ?_; refine Ex_getf rfl u1 rfl ?_; refine Ex_invV rfl (by rfl) (by rfl) hc (by rfl) (e1) ?_; refine Ex_mv rfl rfl ?_; refine Ex_getf rfl u11 rfl ?_; refine Ex_mv rfl rfl ?_
      show Ex _ _ 190 _ _ _ _
      refine Ex_mv rfl rfl ?_; refine Ex_mv rfl rfl ?_; refine Ex_mv rfl rfl ?_; refine Ex_mv rfl rfl ?_; refine Ex_getf rfl u11 rfl ?_; refine Ex_mv rfl rfl ?_; refine Ex_invV rfl (by rfl) (by rfl) hc1 (by rfl) (e2) ?_; refine Ex_invV rfl (by rfl) (by rfl) hc2 (by rfl) (e3) ?_; refine Ex_mv rfl rfl ?_; refine Ex_mv rfl rfl ?_; refine Ex_mv rfl rfl ?_; refine Ex_mv rfl rfl ?_; refine Ex_getf rfl u13 rfl ?_; refine Ex_mv rfl rfl ?_; refine Ex_getf rfl u13 rfl ?_; refine Ex_invV rfl (by rfl) (by rfl) hc3 (by rfl) (e4) ?_; refine Ex_invV rfl (by rfl) (by rfl) hc4 (by rfl) (e5) ?_
      refine Ex_rt rfl rfl ?_
      exact ⟨rfl, W5, FF⟩
    · refine Ex_mv rfl rfl ?_; refine Ex_mv rfl rfl ?_; refine Ex_mv rfl rfl ?_; refine Ex_mv rfl rfl ?_; refine Ex_getf rfl u1 rfl ?_; refine Ex_invV rfl (by rfl) (by rfl) hc (by rfl) (e1) ?_; refine Ex_mv rfl rfl ?_; refine Ex_getf rfl u11 rfl ?_; refine Ex_mv rfl rfl ?_
      show Ex _ _ 190 _ _ _ _
      refine Ex_mv rfl rfl ?_; refine Ex_mv rfl rfl ?_; refine Ex_mv rfl rfl ?_; refine Ex_mv rfl rfl ?_; refine Ex_getf rfl u11 rfl ?_; refine Ex_mv rfl rfl ?_; refine Ex_invV rfl (by rfl) (by rfl) hc1 (by rfl) (e2) ?_; refine Ex_invV rfl (by rfl) (by rfl) hc2 (by rfl) (e3) ?_; refine Ex_mv rfl rfl ?_; refine Ex_mv rfl rfl ?_; refine Ex_mv rfl rfl ?_; refine Ex_mv rfl rfl ?_; refine Ex_getf rfl u13 rfl ?_; refine Ex_mv rfl rfl ?_; refine Ex_getf rfl u13 rfl ?_; refine Ex_invV rfl (by rfl) (by rfl) hc3 (by rfl) (e4) ?_; refine Ex_invV rfl (by rfl) (by rfl) hc4 (by rfl) (e5) ?_
      refine Ex_rt rfl rfl ?_
      exact ⟨rfl, W5, FF⟩
    · refine Ex_mv rfl rfl ?_; refine Ex_mv rfl rfl ?_; refine Ex_mv rfl rfl ?_; refine Ex_mv rfl rfl ?_; refine Ex_getf rfl u1 rfl ?_; refine Ex_invV rfl (by rfl) (by rfl) hc (by rfl) (e1) ?_; refine Ex_mv rfl rfl ?_; refine Ex_getf rfl u11 rfl ?_; refine Ex_mv rfl rfl ?_
      show Ex _ _ 190 _ _ _ _
      refine Ex_mv rfl rfl ?_; refine Ex_mv rfl rfl ?_; refine Ex_mv rfl rfl ?_; refine Ex_mv rfl rfl ?_; refine Ex_getf rfl u11 rfl ?_; refine Ex_mv rfl rfl ?_; refine Ex_invV rfl (by rfl) (by rfl) hc1 (by rfl) (e2) ?_; refine Ex_invV rfl (by rfl) (by rfl) hc2 (by rfl) (e3) ?_; refine Ex_mv rfl rfl ?_; refine Ex_mv rfl rfl ?_; refine Ex_mv rfl rfl ?_; refine Ex_mv rfl rfl ?_; refine Ex_getf rfl u13 rfl ?_; refine Ex_mv rfl rfl ?_; refine Ex_getf rfl u13 rfl ?_; refine Ex_invV rfl (by rfl) (by rfl) hc3 (by rfl) (e4) ?_; refine Ex_invV rfl (by rfl) (by rfl) hc4 (by rfl) (e5) ?_
      refine Ex_rt rfl rfl ?_
      exact ⟨rfl, W5, FF⟩
theorem out_att {B : List Nat} (hB : ∀ x ∈ B, x < 256) {mv : Nat → Nat} {d p : Nat} (hp : p + 6 + b4 B (p + 2) ≤ B.length) : outT mv (sAtt B (d + 1) p) = tw2 (mv (b2 B p)) ++ (f4 (nI (b4 B (p + 2))) ++ (sl B (p + 6) (b4 B (p + 2)) ++ outT mv (sAtt B d (p + 6 + b4 B (p + 2))))) := by
  rw [sAtt, outT, outT_app, outT_inl, sl_add, sl4 hB (by omega), List.append_assoc]
/-- attributes written, from one on -/
theorem MO_addAttributes_loop {a ua q c : Nat} {ga : Nat → Int32} (hG : GG B x) (hs : SoM M) (hl : M.length ≤ 150) (hM : ∀ j, tg B x.1 x.2.1 j ≠ 0 → mng B x.1 x.2.1 j ∈ M) (hA : AttG B c (q + 2)) (hw : ∀ k, k < c → tg B x.1 x.2.1 (b2 B (atP B k (q + 2))) ≠ 0) (hga : ∀ k, k < c → ga k = nI (atP B k (q + 2))) (hc6 : c ≤ 6) : ∀ (d k : Nat) (x4 : Option Value) (h : Hp) (X : List Nat), k + d = c → WS h m0 s O J nw a' fl Jo M.length X → OE h m0 nb f B x Jo M → h.2.2 a = some (true, .inr (7, [.int (nI c), .ref ua])) → h.2.2 ua = some (true, .inl (1, 6, .inl ga)) → okA (muM m0) h a → okA (muM m0) h ua → X.length + (outT (mvP M B x.1 x.2.1) (sAtt B d (atP B k (q + 2)))).length ≤ 408 → Ex (prog nb sa) k_MO_addAttributes 10 [some (.ref m0), some (.ref f), some (.ref a), some (.int (nI k)), x4] [] h (fun r h' => r = none ∧ WS h' m0 s O J nw a' fl Jo M.length (X ++ outT (mvP M B x.1 x.2.1) (sAtt B d (atP B k (q + 2)))) ∧ FW m0 h h' d (5 * d))
  | 0, k, x4, h, X, hk, hW, hE, h1, h2, o1, o2, hX => by
    rw [show outT (mvP M B x.1 x.2.1) (sAtt B 0 (atP B k (q + 2))) = [] from rfl, List.append_nil]
    refine Ex_mv rfl rfl ?_; refine Ex_mv rfl rfl ?_; refine Ex_getf rfl h1 rfl ?_; refine Ex_mv rfl rfl ?_; refine Ex_ift (nI_le (by omega) (by omega)) ?_
    refine Ex_rt rfl rfl ?_
    exact ⟨rfl, hW, FW.rf⟩
  | d + 1, k, x4, h, X, hk, hW, hE, h1, h2, o1, o2, hX => by
    obtain ⟨hF, hnb, -⟩ := id hE
    have hlt := hF.lt.1
    have hl4 := hF.lt.2
    obtain ⟨p1, p2, -⟩ := AttG_at c (q + 2) k hA (by omega)
    have hwk := hw k (by omega)
    have e1 : ga (nI k).toNatClampNeg = nI (atP B k (q + 2)) := by rw [nI_clamp (by omega)]; exact hga k (by omega)
    have hn61 : x.2.1 ≤ 61 := hG.1.2.2.1
    have htn := (tg_at rfl hwk).1
    have ihh := fun (h1' : Hp) (X' : List Nat) (x4 : Option Value) => MO_addAttributes_loop (a := a) (ua := ua) hG hs hl hM hA hw hga hc6 d (k + 1) x4 h1' X' (by omega)
    rw [atP_succ] at ihh
    generalize hpp : atP B k (q + 2) = p at *
    rw [out_att hlt p1] at hX ⊢
    simp only [List.length_append, tw2_len, f4_len] at hX
    rw [sl_len (by omega)] at hX
    obtain ⟨bb, hb, hbk⟩ := hF.hb
    obtain ⟨⟨r, hf⟩, -⟩ := id hb
    have ff := c_MH_four (nb := nb) (sa := sa) hb (p := p + 2) (by omega)
    have tw := c_MH_two (nb := nb) (sa := sa) hb (p := p) (by omega)
    obtain ⟨_, h2', e2, rfl, G2⟩ := c_MO_moved (nb := nb) (sa := sa) hW hE hG hs (i := b2 B p) (by omega) (Or.inr ⟨hwk, hM _ hwk⟩)
    have W2 := hW.gr G2
    obtain ⟨_, h3, e3, rfl, W3, F3⟩ := c_MO_addTwo (nb := nb) (sa := sa) W2 (by omega) (mvP_lt (B := B) (x := x) hl (i := b2 B p))
    obtain ⟨_, h4, e4, rfl, W4, F4⟩ := c_MO_addFour (nb := nb) (sa := sa) W3 (by simp [tw2_len]; omega) (nI (b4 B (p + 2)))
    have F24 := (G2.fw.tr F3).tr F4
    have E4 := hE.fw F24
    obtain ⟨hF4, -⟩ := id E4
    obtain ⟨bb4, hb4, hbk4⟩ := hF4.hb
    obtain ⟨⟨r4, hf4⟩, hA4⟩ := id hb4
    obtain ⟨_, h5, e5, rfl, W5, F5⟩ := c_MO_addBytes (nb := nb) (sa := sa) W4 ⟨hA4, hbk4⟩ (p := p + 6) (k := b4 B (p + 2)) (by omega) (by simp [tw2_len, f4_len]; omega)
    have F25 := F24.tr F5
    have ih := fun x4 => ihh h5 _ x4 W5 (hE.fw F25) (F25.pf.at h1 o1) (F25.pf.at h2 o2) (o1.pf F25.pf) (o2.pf F25.pf) (by simp [tw2_len, f4_len, sl_len (show p + 6 + b4 B (p + 2) ≤ B.length by omega)]; omega)
    have hc := hW.1
    have hc2 := W2.1
    have hc3 := W3.1
    have hc4 := W4.1
    have a4 : h4.2.2 a = _ := F24.pf.at h1 o1
    have ua4 : h4.2.2 ua = _ := F24.pf.at h2 o2
    simp only [List.append_assoc] at ih
    refine Ex_mv rfl rfl ?_; refine Ex_mv rfl rfl ?_; refine Ex_getf rfl h1 rfl ?_; refine Ex_mv rfl rfl ?_; refine Ex_iff (nI_ge (by omega) (by omega)) ?_; refine Ex_mv rfl rfl ?_; refine Ex_mv rfl rfl ?_; refine Ex_getf rfl h1 rfl ?_; refine Ex_mv rfl rfl ?_; refine Ex_iald rfl h2 (vp_in_nI (by omega) (by decide)) ?_
    rw [e1]
    refine Ex_mv rfl rfl ?_; (first | refine Ex_addN rfl ?_ | refine Ex_mv rfl rfl ?_); refine Ex_invV rfl (by rfl) (by rfl) hf (by rfl) (ff) ?_; refine Ex_mv rfl rfl ?_; refine Ex_mv rfl rfl ?_; refine Ex_mv rfl rfl ?_; refine Ex_mv rfl rfl ?_; refine Ex_mv rfl rfl ?_; refine Ex_mv rfl rfl ?_; refine Ex_getf rfl h1 rfl ?_; refine Ex_mv rfl rfl ?_; refine Ex_iald rfl h2 (vp_in_nI (by omega) (by decide)) ?_
    rw [e1]
    refine Ex_invV rfl (by rfl) (by rfl) hf (by rfl) (tw) ?_; refine Ex_invV rfl (by rfl) (by rfl) hc (by rfl) (e2) ?_; refine Ex_invV rfl (by rfl) (by rfl) hc2 (by rfl) (e3) ?_; refine Ex_mv rfl rfl ?_; refine Ex_mv rfl rfl ?_; refine Ex_invV rfl (by rfl) (by rfl) hc3 (by rfl) (e4) ?_; refine Ex_mv rfl rfl ?_; refine Ex_mv rfl rfl ?_; refine Ex_getf rfl hf4 rfl ?_; refine Ex_mv rfl rfl ?_; refine Ex_getf rfl a4 rfl ?_; refine Ex_mv rfl rfl ?_; refine Ex_iald rfl ua4 (vp_in_nI (by omega) (by decide)) ?_
    rw [e1]
    refine Ex_mv rfl rfl ?_; (first | refine Ex_addN rfl ?_ | refine Ex_mv rfl rfl ?_); refine Ex_mv rfl rfl ?_; refine Ex_invV rfl (by rfl) (by rfl) hc4 (by rfl) (e5) ?_; (first | refine Ex_incN rfl rfl ?_ | refine Ex_mv rfl rfl ?_); refine Ex_mv rfl rfl ?_
    exact Ex_mono (ih _) (fun r h' z => ⟨z.1, z.2.1, (F25.tr z.2.2).mono (by omega) (by omega)⟩)
theorem c_MO_addAttributes {h : Hp} {X : List Nat} {a q : Nat} (hG : GG B x) (hs : SoM M) (hl : M.length ≤ 150) (hM : ∀ j, tg B x.1 x.2.1 j ≠ 0 → mng B x.1 x.2.1 j ∈ M) (hA : AttG B (b2 B q) (q + 2)) (h6 : b2 B q ≤ 6) (hw : ∀ k, k < b2 B q → tg B x.1 x.2.1 (b2 B (atP B k (q + 2))) ≠ 0) (hW : WS h m0 s O J nw a' fl Jo M.length X) (hE : OE h m0 nb f B x Jo M) (hT : ATk (muM m0) h a B q) (hX : X.length + (2 + (outT (mvP M B x.1 x.2.1) (sAtt B (b2 B q) (q + 2))).length) ≤ 408) : EvQ (prog nb sa) m_MO_addAttributes [.ref m0, .ref f, .ref a] h (fun r h' => r = none ∧ WS h' m0 s O J nw a' fl Jo M.length (X ++ (tw2 (b2 B q) ++ outT (mvP M B x.1 x.2.1) (sAtt B (b2 B q) (q + 2)))) ∧ FW m0 h h' 6 30) := by
  obtain ⟨ua, ga, a1, a2, a3, a4, a5⟩ := hT
  obtain ⟨_, h1, e1, rfl, W1, F1⟩ := c_MO_addTwo (nb := nb) (sa := sa) hW (by omega) (v := b2 B q) (by omega)
  have lp := MO_addAttributes_loop (nb := nb) (sa := sa) (m0 := m0) hG hs hl hM hA hw a3 h6 (b2 B q) 0 none h1 _ (Nat.zero_add _) W1 (hE.fw F1) (F1.pf.at a1 a4) (F1.pf.at a2 a5) (a4.pf F1.pf) (a5.pf F1.pf) (by simp only [List.length_append, tw2_len]; rw [show atP B 0 (q + 2) = q + 2 from rfl]; omega)
  rw [show atP B 0 (q + 2) = q + 2 from rfl, List.append_assoc] at lp
  have hc := hW.1
  refine EvQ_of k_MO_addAttributes 5 [some (.ref m0), some (.ref f), some (.ref a), none, none] rfl (Nat.le_of_ble_eq_true rfl) rfl ?_
  refine Ex_mv rfl rfl ?_; refine Ex_mv rfl rfl ?_; refine Ex_getf rfl a1 rfl ?_; refine Ex_invV rfl (by rfl) (by rfl) hc (by rfl) (e1) ?_; refine Ex_mv rfl rfl ?_; refine Ex_mv rfl rfl ?_
  exact Ex_mono lp (fun r h' z => ⟨z.1, z.2.1, (F1.tr z.2.2).mono (by omega) (by omega)⟩)
end REFZ
