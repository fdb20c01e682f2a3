/-! the law, call by call -/
section LAWB
variable {nb sa a0 n c0 m0 : Nat} {w : Bool} {g : Nat → Int32} {h : Hp} {s : Sg} {c i : Nat}
def LIv (nb sa a0 n : Nat) (w : Bool) (g : Nat → Int32) (c0 m0 : Nat) (h : Hp) (s : Sg) (c : Nat) : Prop := CPs h c0 s ∧ MOs h m0 nb sa s c ∧ SgG s ∧ h.2.2 a0 = some (w, .inl (1, n, .inl g)) ∧ (∃ gl, h.2.2 (m0 + 7) = some (true, .inl (2, 1, .inr (.inl gl)))) ∧ m0 + 8 ≤ h.1
theorem LIv.mk {h1 h2 : Hp} {s' : Sg} {c1 k1 : Nat} (hI : LIv nb sa a0 n w g c0 m0 h s c) (hac : a0 < c0) (hm : m0 = c0 + 131) (F1 : FC c0 h h1) (F2 : FX m0 h1 h2 c1 k1) (C2 : CPs h2 c0 s') (M2 : MOs h2 m0 nb sa s' 0) (G : SgG s') (hc1 : c1 ≤ 700) (hk1 : k1 ≤ 4500) : LIv nb sa a0 n w g c0 m0 h2 s' 0 ∧ h.1 ≤ h2.1 ∧ h2.1 ≤ h.1 + 701 ∧ h.2.1 ≤ h2.2.1 ∧ h2.2.1 ≤ h.2.1 + 4508 := by
  obtain ⟨-, -, -, hA, ⟨gl, hO⟩, h8⟩ := hI
  obtain ⟨f1, f2, f3, f4, f5⟩ := F1
  obtain ⟨⟨p1, p2⟩, p3, p4⟩ := F2
  have q1 := p1.1
  have q2 := p1.2.1
  exact ⟨⟨C2, M2, G, (p2 a0 (by omega) (by omega)).trans ((f5 a0 (by omega) (by omega)).trans hA), ⟨gl, (p2 _ (by omega) (by omega)).trans ((f5 _ (by omega) (by omega)).trans hO)⟩, by omega⟩, by omega, by omega, by omega, by omega⟩
theorem LC_feed (hI : LIv nb sa a0 n w g c0 m0 h s c) (hac : a0 < c0) (hm : m0 = c0 + 131) (hn : n ≤ 3072) (hi : i + 6 ≤ n) {x5 x6 x7 : Option Value} {R : Option Value → Hp → Prop} (K : ∀ (h' : Hp) (s' : Sg) (c' : Nat) (x5 x6 x7 : Option Value), LIv nb sa a0 n w g c0 m0 h' s' c' → h.1 ≤ h'.1 → h'.1 ≤ h.1 + 701 → h.2.1 ≤ h'.2.1 → h'.2.1 ≤ h.2.1 + 4508 → Ex (prog nb sa) k_LW_law 844 [some (.ref a0), some (.ref c0), some (.ref m0), some (.ref (m0 + 7)), some (.int (nI i)), x5, x6, x7] [] h' R) : Ex (prog nb sa) k_LW_law 128 [some (.ref a0), some (.ref c0), some (.ref m0), some (.ref (m0 + 7)), some (.int (nI i)), x5, x6, x7] [] h R := by
  obtain ⟨hC, hM, hG, hA, hO, h8⟩ := id hI
  obtain ⟨kr, kt, hc⟩ := hC.cell
  obtain ⟨_, h1, e1, rfl, C1, F1⟩ := c_CP_feed (nb := nb) (sa := sa) hC (bt64 (g (nI (i + 1)).toNatClampNeg) (g (nI (i + 2)).toNatClampNeg)) (g (nI (i + 3)).toNatClampNeg)
  have M1 := hM.fc F1 hm
  obtain ⟨O1, J1, nw1, a1, fl1, ms1, od1, oc1, hc1⟩ := M1.cell
  obtain ⟨_, h2, e2, rfl, M2, F2⟩ := c_MO_feed (nb := nb) (sa := sa) M1 hG.2.2.2.2.1 (bt64 (g (nI (i + 1)).toNatClampNeg) (g (nI (i + 2)).toNatClampNeg)) (g (nI (i + 3)).toNatClampNeg)
  have C2 := C1.fx F2 hm (by have := F1.1; omega)
  have hA1 := (F1.2.2.2.2 a0 (by omega) (by omega)).trans hA
  have sg := hG.re C1 rfl rfl
  obtain ⟨I2, b1, b2, b3, b4⟩ := hI.mk hac hm F1 F2 C2 M2 sg (by omega) (by omega)
  refine Ex_mv rfl rfl ?_; refine Ex_mv rfl rfl ?_; refine Ex_mv rfl rfl ?_; refine Ex_mv rfl rfl ?_; (first | refine Ex_addN rfl ?_ | refine Ex_mv rfl rfl ?_); refine Ex_iald rfl hA (vp_in_nI (by omega) (by omega)) ?_; refine Ex_mv rfl rfl ?_; refine Ex_mv rfl rfl ?_; refine Ex_lshl rfl ?_; refine Ex_mv rfl rfl ?_; refine Ex_mv rfl rfl ?_; refine Ex_mv rfl rfl ?_; (first | refine Ex_addN rfl ?_ | refine Ex_mv rfl rfl ?_); refine Ex_iald rfl hA (vp_in_nI (by omega) (by omega)) ?_; refine Ex_mv rfl rfl ?_; refine Ex_mv rfl rfl ?_; refine Ex_land rfl ?_; refine Ex_lor rfl ?_; refine Ex_mv rfl rfl ?_; refine Ex_mv rfl rfl ?_; refine Ex_mv rfl rfl ?_; (first | refine Ex_addN rfl ?_ | refine Ex_mv rfl rfl ?_); refine Ex_iald rfl hA (vp_in_nI (by omega) (by omega)) ?_; refine Ex_invV rfl (by rfl) (by rfl) hc (by rfl) (e1) ?_; refine Ex_mv rfl rfl ?_; refine Ex_mv rfl rfl ?_; refine Ex_mv rfl rfl ?_; refine Ex_mv rfl rfl ?_; (first | refine Ex_addN rfl ?_ | refine Ex_mv rfl rfl ?_); refine Ex_iald rfl hA1 (vp_in_nI (by omega) (by omega)) ?_; refine Ex_mv rfl rfl ?_; refine Ex_mv rfl rfl ?_; refine Ex_lshl rfl ?_; refine Ex_mv rfl rfl ?_; refine Ex_mv rfl rfl ?_; refine Ex_mv rfl rfl ?_; (first | refine Ex_addN rfl ?_ | refine Ex_mv rfl rfl ?_); refine Ex_iald rfl hA1 (vp_in_nI (by omega) (by omega)) ?_; refine Ex_mv rfl rfl ?_; refine Ex_mv rfl rfl ?_; refine Ex_land rfl ?_; refine Ex_lor rfl ?_; refine Ex_mv rfl rfl ?_; refine Ex_mv rfl rfl ?_; refine Ex_mv rfl rfl ?_; (first | refine Ex_addN rfl ?_ | refine Ex_mv rfl rfl ?_); refine Ex_iald rfl hA1 (vp_in_nI (by omega) (by omega)) ?_; refine Ex_invV rfl (by rfl) (by rfl) hc1 (by rfl) (e2) ?_; refine Ex_mv rfl rfl ?_; refine Ex_ift rfl ?_
  exact K h2 _ 0 _ _ _ I2 b1 b2 b3 b4
theorem LC_read (hI : LIv nb sa a0 n w g c0 m0 h s c) (hac : a0 < c0) (hm : m0 = c0 + 131) (hn : n ≤ 3072) (hi : i + 6 ≤ n) {x5 x6 x7 : Option Value} {R : Option Value → Hp → Prop} (K : ∀ (h' : Hp) (s' : Sg) (c' : Nat) (x5 x6 x7 : Option Value), LIv nb sa a0 n w g c0 m0 h' s' c' → h.1 ≤ h'.1 → h'.1 ≤ h.1 + 701 → h.2.1 ≤ h'.2.1 → h'.2.1 ≤ h.2.1 + 4508 → Ex (prog nb sa) k_LW_law 844 [some (.ref a0), some (.ref c0), some (.ref m0), some (.ref (m0 + 7)), some (.int (nI i)), x5, x6, x7] [] h' R) : Ex (prog nb sa) k_LW_law 197 [some (.ref a0), some (.ref c0), some (.ref m0), some (.ref (m0 + 7)), some (.int (nI i)), x5, x6, x7] [] h R := by
  obtain ⟨hC, hM, hG, hA, hO, h8⟩ := id hI
  obtain ⟨kr, kt, hc⟩ := hC.cell
  obtain ⟨_, h1, e1, rfl, C1, F1⟩ := c_CP_read (nb := nb) (sa := sa) hC (by omega)
  have M1 := hM.fc F1 hm
  obtain ⟨O1, J1, nw1, a1, fl1, ms1, od1, oc1, hc1⟩ := M1.cell
  obtain ⟨_, h2, e2, rfl, M2, F2⟩ := c_MO_read (nb := nb) (sa := sa) M1 hG.2.2.2.1 ⟨hG.2.2.2.2.1, hG.2.2.2.2.2.2.1⟩
  have C2 := C1.fx F2 hm (by have := F1.1; omega)
  have hA1 := (F1.2.2.2.2 a0 (by omega) (by omega)).trans hA
  have sg := hG.read C1
  obtain ⟨I2, b1, b2, b3, b4⟩ := hI.mk hac hm F1 F2 C2 M2 sg (by omega) (by omega)
  refine Ex_mv rfl rfl ?_; refine Ex_invV rfl (by rfl) (by rfl) hc (by rfl) (e1) ?_; refine Ex_mv rfl rfl ?_; refine Ex_invV rfl (by rfl) (by rfl) hc1 (by rfl) (e2) ?_; refine Ex_mv rfl rfl ?_; refine Ex_ift rfl ?_
  exact K h2 _ 0 _ _ _ I2 b1 b2 b3 b4
theorem LC_place (hI : LIv nb sa a0 n w g c0 m0 h s c) (hac : a0 < c0) (hm : m0 = c0 + 131) (hn : n ≤ 3072) (hi : i + 6 ≤ n) {x5 x6 x7 : Option Value} {R : Option Value → Hp → Prop} (K : ∀ (h' : Hp) (s' : Sg) (c' : Nat) (x5 x6 x7 : Option Value), LIv nb sa a0 n w g c0 m0 h' s' c' → h.1 ≤ h'.1 → h'.1 ≤ h.1 + 701 → h.2.1 ≤ h'.2.1 → h'.2.1 ≤ h.2.1 + 4508 → Ex (prog nb sa) k_LW_law 844 [some (.ref a0), some (.ref c0), some (.ref m0), some (.ref (m0 + 7)), some (.int (nI i)), x5, x6, x7] [] h' R) : Ex (prog nb sa) k_LW_law 210 [some (.ref a0), some (.ref c0), some (.ref m0), some (.ref (m0 + 7)), some (.int (nI i)), x5, x6, x7] [] h R := by
  obtain ⟨hC, hM, hG, hA, hO, h8⟩ := id hI
  obtain ⟨kr, kt, hc⟩ := hC.cell
  have e1 := c_CP_place (nb := nb) (sa := sa) hC 
  have C1 := hC
  have F1 : FC c0 h h := FC.rf
  have M1 := hM.fc F1 hm
  obtain ⟨O1, J1, nw1, a1, fl1, ms1, od1, oc1, hc1⟩ := M1.cell
  obtain ⟨_, h2, e2, rfl, M2, F2⟩ := c_MO_place_ (nb := nb) (sa := sa) M1 
  have C2 := C1.fx F2 hm (by have := F1.1; omega)
  have hA1 := (F1.2.2.2.2 a0 (by omega) (by omega)).trans hA
  have sg := hG
  obtain ⟨I2, b1, b2, b3, b4⟩ := hI.mk hac hm F1 F2 C2 M2 sg (by omega) (by omega)
  refine Ex_mv rfl rfl ?_; refine Ex_invV rfl (by rfl) (by rfl) hc (by rfl) (e1) ?_; refine Ex_mv rfl rfl ?_; refine Ex_invV rfl (by rfl) (by rfl) hc1 (by rfl) (e2) ?_; refine Ex_mv rfl rfl ?_; refine Ex_ift rfl ?_
  exact K h2 _ 0 _ _ _ I2 b1 b2 b3 b4
theorem LC_drop (hI : LIv nb sa a0 n w g c0 m0 h s c) (hac : a0 < c0) (hm : m0 = c0 + 131) (hn : n ≤ 3072) (hi : i + 6 ≤ n) {x5 x6 x7 : Option Value} {R : Option Value → Hp → Prop} (K : ∀ (h' : Hp) (s' : Sg) (c' : Nat) (x5 x6 x7 : Option Value), LIv nb sa a0 n w g c0 m0 h' s' c' → h.1 ≤ h'.1 → h'.1 ≤ h.1 + 701 → h.2.1 ≤ h'.2.1 → h'.2.1 ≤ h.2.1 + 4508 → Ex (prog nb sa) k_LW_law 844 [some (.ref a0), some (.ref c0), some (.ref m0), some (.ref (m0 + 7)), some (.int (nI i)), x5, x6, x7] [] h' R) : Ex (prog nb sa) k_LW_law 223 [some (.ref a0), some (.ref c0), some (.ref m0), some (.ref (m0 + 7)), some (.int (nI i)), x5, x6, x7] [] h R := by
  obtain ⟨hC, hM, hG, hA, hO, h8⟩ := id hI
  obtain ⟨kr, kt, hc⟩ := hC.cell
  obtain ⟨_, h1, e1, rfl, C1, F1⟩ := c_CP_drop (nb := nb) (sa := sa) hC (g (nI (i + 1)).toNatClampNeg)
  have M1 := hM.fc F1 hm
  obtain ⟨O1, J1, nw1, a1, fl1, ms1, od1, oc1, hc1⟩ := M1.cell
  obtain ⟨_, h2, e2, rfl, M2, F2⟩ := c_MO_drop (nb := nb) (sa := sa) M1 hG.2.2.2.1 (g (nI (i + 1)).toNatClampNeg)
  have C2 := C1.fx F2 hm (by have := F1.1; omega)
  have hA1 := (F1.2.2.2.2 a0 (by omega) (by omega)).trans hA
  have sg := hG.drop C1
  obtain ⟨I2, b1, b2, b3, b4⟩ := hI.mk hac hm F1 F2 C2 M2 sg (by omega) (by omega)
  refine Ex_mv rfl rfl ?_; refine Ex_mv rfl rfl ?_; refine Ex_mv rfl rfl ?_; refine Ex_mv rfl rfl ?_; (first | refine Ex_addN rfl ?_ | refine Ex_mv rfl rfl ?_); refine Ex_iald rfl hA (vp_in_nI (by omega) (by omega)) ?_; refine Ex_invV rfl (by rfl) (by rfl) hc (by rfl) (e1) ?_; refine Ex_mv rfl rfl ?_; refine Ex_mv rfl rfl ?_; refine Ex_mv rfl rfl ?_; refine Ex_mv rfl rfl ?_; (first | refine Ex_addN rfl ?_ | refine Ex_mv rfl rfl ?_); refine Ex_iald rfl hA1 (vp_in_nI (by omega) (by omega)) ?_; refine Ex_invV rfl (by rfl) (by rfl) hc1 (by rfl) (e2) ?_; refine Ex_mv rfl rfl ?_; refine Ex_ift rfl ?_
  exact K h2 _ 0 _ _ _ I2 b1 b2 b3 b4
theorem LC_file (hI : LIv nb sa a0 n w g c0 m0 h s c) (hac : a0 < c0) (hm : m0 = c0 + 131) (hn : n ≤ 3072) (hi : i + 6 ≤ n) {x5 x6 x7 : Option Value} {R : Option Value → Hp → Prop} (K : ∀ (h' : Hp) (s' : Sg) (c' : Nat) (x5 x6 x7 : Option Value), LIv nb sa a0 n w g c0 m0 h' s' c' → h.1 ≤ h'.1 → h'.1 ≤ h.1 + 701 → h.2.1 ≤ h'.2.1 → h'.2.1 ≤ h.2.1 + 4508 → Ex (prog nb sa) k_LW_law 844 [some (.ref a0), some (.ref c0), some (.ref m0), some (.ref (m0 + 7)), some (.int (nI i)), x5, x6, x7] [] h' R) : Ex (prog nb sa) k_LW_law 248 [some (.ref a0), some (.ref c0), some (.ref m0), some (.ref (m0 + 7)), some (.int (nI i)), x5, x6, x7] [] h R := by
  obtain ⟨hC, hM, hG, hA, hO, h8⟩ := id hI
  obtain ⟨kr, kt, hc⟩ := hC.cell
  have e1 := c_CP_file (nb := nb) (sa := sa) hC (g (nI (i + 1)).toNatClampNeg) (g (nI (i + 2)).toNatClampNeg)
  have C1 := hC
  have F1 : FC c0 h h := FC.rf
  have M1 := hM.fc F1 hm
  obtain ⟨O1, J1, nw1, a1, fl1, ms1, od1, oc1, hc1⟩ := M1.cell
  obtain ⟨_, h2, e2, rfl, M2, F2⟩ := c_MO_file (nb := nb) (sa := sa) M1 hG (g (nI (i + 1)).toNatClampNeg) (g (nI (i + 2)).toNatClampNeg)
  have C2 := C1.fx F2 hm (by have := F1.1; omega)
  have hA1 := (F1.2.2.2.2 a0 (by omega) (by omega)).trans hA
  have sg := hG
  obtain ⟨I2, b1, b2, b3, b4⟩ := hI.mk hac hm F1 F2 C2 M2 sg (by omega) (by omega)
  refine Ex_mv rfl rfl ?_; refine Ex_mv rfl rfl ?_; refine Ex_mv rfl rfl ?_; refine Ex_mv rfl rfl ?_; (first | refine Ex_addN rfl ?_ | refine Ex_mv rfl rfl ?_); refine Ex_iald rfl hA (vp_in_nI (by omega) (by omega)) ?_; refine Ex_mv rfl rfl ?_; refine Ex_mv rfl rfl ?_; refine Ex_mv rfl rfl ?_; (first | refine Ex_addN rfl ?_ | refine Ex_mv rfl rfl ?_); refine Ex_iald rfl hA (vp_in_nI (by omega) (by omega)) ?_; refine Ex_invV rfl (by rfl) (by rfl) hc (by rfl) (e1) ?_; refine Ex_mv rfl rfl ?_; refine Ex_mv rfl rfl ?_; refine Ex_mv rfl rfl ?_; refine Ex_mv rfl rfl ?_; (first | refine Ex_addN rfl ?_ | refine Ex_mv rfl rfl ?_); refine Ex_iald rfl hA1 (vp_in_nI (by omega) (by omega)) ?_; refine Ex_mv rfl rfl ?_; refine Ex_mv rfl rfl ?_; refine Ex_mv rfl rfl ?_; (first | refine Ex_addN rfl ?_ | refine Ex_mv rfl rfl ?_); refine Ex_iald rfl hA1 (vp_in_nI (by omega) (by omega)) ?_; refine Ex_invV rfl (by rfl) (by rfl) hc1 (by rfl) (e2) ?_; refine Ex_mv rfl rfl ?_; refine Ex_ift rfl ?_
  exact K h2 _ 0 _ _ _ I2 b1 b2 b3 b4
theorem LC_entry (hI : LIv nb sa a0 n w g c0 m0 h s c) (hac : a0 < c0) (hm : m0 = c0 + 131) (hn : n ≤ 3072) (hi : i + 6 ≤ n) {x5 x6 x7 : Option Value} {R : Option Value → Hp → Prop} (K : ∀ (h' : Hp) (s' : Sg) (c' : Nat) (x5 x6 x7 : Option Value), LIv nb sa a0 n w g c0 m0 h' s' c' → h.1 ≤ h'.1 → h'.1 ≤ h.1 + 701 → h.2.1 ≤ h'.2.1 → h'.2.1 ≤ h.2.1 + 4508 → Ex (prog nb sa) k_LW_law 844 [some (.ref a0), some (.ref c0), some (.ref m0), some (.ref (m0 + 7)), some (.int (nI i)), x5, x6, x7] [] h' R) : Ex (prog nb sa) k_LW_law 285 [some (.ref a0), some (.ref c0), some (.ref m0), some (.ref (m0 + 7)), some (.int (nI i)), x5, x6, x7] [] h R := by
  obtain ⟨hC, hM, hG, hA, hO, h8⟩ := id hI
  obtain ⟨kr, kt, hc⟩ := hC.cell
  have e1 := c_CP_entry (nb := nb) (sa := sa) hC (g (nI (i + 1)).toNatClampNeg) (g (nI (i + 2)).toNatClampNeg) (g (nI (i + 3)).toNatClampNeg)
  have C1 := hC
  have F1 : FC c0 h h := FC.rf
  have M1 := hM.fc F1 hm
  obtain ⟨O1, J1, nw1, a1, fl1, ms1, od1, oc1, hc1⟩ := M1.cell
  obtain ⟨_, h2, e2, rfl, M2, F2⟩ := c_MO_entry_ (nb := nb) (sa := sa) M1 hG (g (nI (i + 1)).toNatClampNeg) (g (nI (i + 2)).toNatClampNeg) (g (nI (i + 3)).toNatClampNeg)
  have C2 := C1.fx F2 hm (by have := F1.1; omega)
  have hA1 := (F1.2.2.2.2 a0 (by omega) (by omega)).trans hA
  have sg := hG
  obtain ⟨I2, b1, b2, b3, b4⟩ := hI.mk hac hm F1 F2 C2 M2 sg (by omega) (by omega)
  refine Ex_mv rfl rfl ?_; refine Ex_mv rfl rfl ?_; refine Ex_mv rfl rfl ?_; refine Ex_mv rfl rfl ?_; (first | refine Ex_addN rfl ?_ | refine Ex_mv rfl rfl ?_); refine Ex_iald rfl hA (vp_in_nI (by omega) (by omega)) ?_; refine Ex_mv rfl rfl ?_; refine Ex_mv rfl rfl ?_; refine Ex_mv rfl rfl ?_; (first | refine Ex_addN rfl ?_ | refine Ex_mv rfl rfl ?_); refine Ex_iald rfl hA (vp_in_nI (by omega) (by omega)) ?_; refine Ex_mv rfl rfl ?_; refine Ex_mv rfl rfl ?_; refine Ex_mv rfl rfl ?_; (first | refine Ex_addN rfl ?_ | refine Ex_mv rfl rfl ?_); refine Ex_iald rfl hA (vp_in_nI (by omega) (by omega)) ?_; refine Ex_invV rfl (by rfl) (by rfl) hc (by rfl) (e1) ?_; refine Ex_mv rfl rfl ?_; refine Ex_mv rfl rfl ?_; refine Ex_mv rfl rfl ?_; refine Ex_mv rfl rfl ?_; (first | refine Ex_addN rfl ?_ | refine Ex_mv rfl rfl ?_); refine Ex_iald rfl hA1 (vp_in_nI (by omega) (by omega)) ?_; refine Ex_mv rfl rfl ?_; refine Ex_mv rfl rfl ?_; refine Ex_mv rfl rfl ?_; (first | refine Ex_addN rfl ?_ | refine Ex_mv rfl rfl ?_); refine Ex_iald rfl hA1 (vp_in_nI (by omega) (by omega)) ?_; refine Ex_mv rfl rfl ?_; refine Ex_mv rfl rfl ?_; refine Ex_mv rfl rfl ?_; (first | refine Ex_addN rfl ?_ | refine Ex_mv rfl rfl ?_); refine Ex_iald rfl hA1 (vp_in_nI (by omega) (by omega)) ?_; refine Ex_invV rfl (by rfl) (by rfl) hc1 (by rfl) (e2) ?_; refine Ex_mv rfl rfl ?_; refine Ex_ift rfl ?_
  exact K h2 _ 0 _ _ _ I2 b1 b2 b3 b4
theorem LC_text (hI : LIv nb sa a0 n w g c0 m0 h s c) (hac : a0 < c0) (hm : m0 = c0 + 131) (hn : n ≤ 3072) (hi : i + 6 ≤ n) {x5 x6 x7 : Option Value} {R : Option Value → Hp → Prop} (K : ∀ (h' : Hp) (s' : Sg) (c' : Nat) (x5 x6 x7 : Option Value), LIv nb sa a0 n w g c0 m0 h' s' c' → h.1 ≤ h'.1 → h'.1 ≤ h.1 + 701 → h.2.1 ≤ h'.2.1 → h'.2.1 ≤ h.2.1 + 4508 → Ex (prog nb sa) k_LW_law 844 [some (.ref a0), some (.ref c0), some (.ref m0), some (.ref (m0 + 7)), some (.int (nI i)), x5, x6, x7] [] h' R) : Ex (prog nb sa) k_LW_law 401 [some (.ref a0), some (.ref c0), some (.ref m0), some (.ref (m0 + 7)), some (.int (nI i)), x5, x6, x7] [] h R := by
  obtain ⟨hC, hM, hG, hA, hO, h8⟩ := id hI
  obtain ⟨kr, kt, hc⟩ := hC.cell
  obtain ⟨_, h1, e1, rfl, C1, F1⟩ := c_CP_text (nb := nb) (sa := sa) hC hG (g (nI (i + 1)).toNatClampNeg) (g (nI (i + 2)).toNatClampNeg) (g (nI (i + 3)).toNatClampNeg)
  have M1 := hM.fc F1 hm
  obtain ⟨O1, J1, nw1, a1, fl1, ms1, od1, oc1, hc1⟩ := M1.cell
  obtain ⟨_, h2, e2, rfl, M2, F2⟩ := c_MO_text (nb := nb) (sa := sa) M1 hG (g (nI (i + 1)).toNatClampNeg) (g (nI (i + 2)).toNatClampNeg) (g (nI (i + 3)).toNatClampNeg)
  have C2 := C1.fx F2 hm (by have := F1.1; omega)
  have hA1 := (F1.2.2.2.2 a0 (by omega) (by omega)).trans hA
  have sg := hG.re C1 rfl rfl
  obtain ⟨I2, b1, b2, b3, b4⟩ := hI.mk hac hm F1 F2 C2 M2 sg (by omega) (by omega)
  refine Ex_mv rfl rfl ?_; refine Ex_mv rfl rfl ?_; refine Ex_mv rfl rfl ?_; refine Ex_mv rfl rfl ?_; (first | refine Ex_addN rfl ?_ | refine Ex_mv rfl rfl ?_); refine Ex_iald rfl hA (vp_in_nI (by omega) (by omega)) ?_; refine Ex_mv rfl rfl ?_; refine Ex_mv rfl rfl ?_; refine Ex_mv rfl rfl ?_; (first | refine Ex_addN rfl ?_ | refine Ex_mv rfl rfl ?_); refine Ex_iald rfl hA (vp_in_nI (by omega) (by omega)) ?_; refine Ex_mv rfl rfl ?_; refine Ex_mv rfl rfl ?_; refine Ex_mv rfl rfl ?_; (first | refine Ex_addN rfl ?_ | refine Ex_mv rfl rfl ?_); refine Ex_iald rfl hA (vp_in_nI (by omega) (by omega)) ?_; refine Ex_invV rfl (by rfl) (by rfl) hc (by rfl) (e1) ?_; refine Ex_mv rfl rfl ?_; refine Ex_mv rfl rfl ?_; refine Ex_mv rfl rfl ?_; refine Ex_mv rfl rfl ?_; (first | refine Ex_addN rfl ?_ | refine Ex_mv rfl rfl ?_); refine Ex_iald rfl hA1 (vp_in_nI (by omega) (by omega)) ?_; refine Ex_mv rfl rfl ?_; refine Ex_mv rfl rfl ?_; refine Ex_mv rfl rfl ?_; (first | refine Ex_addN rfl ?_ | refine Ex_mv rfl rfl ?_); refine Ex_iald rfl hA1 (vp_in_nI (by omega) (by omega)) ?_; refine Ex_mv rfl rfl ?_; refine Ex_mv rfl rfl ?_; refine Ex_mv rfl rfl ?_; (first | refine Ex_addN rfl ?_ | refine Ex_mv rfl rfl ?_); refine Ex_iald rfl hA1 (vp_in_nI (by omega) (by omega)) ?_; refine Ex_invV rfl (by rfl) (by rfl) hc1 (by rfl) (e2) ?_; refine Ex_mv rfl rfl ?_; refine Ex_ift rfl ?_
  exact K h2 _ 0 _ _ _ I2 b1 b2 b3 b4
theorem LC_member (hI : LIv nb sa a0 n w g c0 m0 h s c) (hac : a0 < c0) (hm : m0 = c0 + 131) (hn : n ≤ 3072) (hi : i + 6 ≤ n) {x5 x6 x7 : Option Value} {R : Option Value → Hp → Prop} (K : ∀ (h' : Hp) (s' : Sg) (c' : Nat) (x5 x6 x7 : Option Value), LIv nb sa a0 n w g c0 m0 h' s' c' → h.1 ≤ h'.1 → h'.1 ≤ h.1 + 701 → h.2.1 ≤ h'.2.1 → h'.2.1 ≤ h.2.1 + 4508 → Ex (prog nb sa) k_LW_law 844 [some (.ref a0), some (.ref c0), some (.ref m0), some (.ref (m0 + 7)), some (.int (nI i)), x5, x6, x7] [] h' R) : Ex (prog nb sa) k_LW_law 450 [some (.ref a0), some (.ref c0), some (.ref m0), some (.ref (m0 + 7)), some (.int (nI i)), x5, x6, x7] [] h R := by
  obtain ⟨hC, hM, hG, hA, hO, h8⟩ := id hI
  obtain ⟨kr, kt, hc⟩ := hC.cell
  obtain ⟨_, h1, e1, rfl, C1, F1⟩ := c_CP_member (nb := nb) (sa := sa) hC hG (g (nI (i + 1)).toNatClampNeg) (g (nI (i + 2)).toNatClampNeg) (g (nI (i + 3)).toNatClampNeg) (g (nI (i + 4)).toNatClampNeg)
  have M1 := hM.fc F1 hm
  obtain ⟨O1, J1, nw1, a1, fl1, ms1, od1, oc1, hc1⟩ := M1.cell
  obtain ⟨_, h2, e2, rfl, M2, F2⟩ := c_MO_member (nb := nb) (sa := sa) M1 hG (g (nI (i + 1)).toNatClampNeg) (g (nI (i + 2)).toNatClampNeg) (g (nI (i + 3)).toNatClampNeg) (g (nI (i + 4)).toNatClampNeg)
  have C2 := C1.fx F2 hm (by have := F1.1; omega)
  have hA1 := (F1.2.2.2.2 a0 (by omega) (by omega)).trans hA
  have sg := hG.re C1 rfl rfl
  obtain ⟨I2, b1, b2, b3, b4⟩ := hI.mk hac hm F1 F2 C2 M2 sg (by omega) (by omega)
  refine Ex_mv rfl rfl ?_; refine Ex_mv rfl rfl ?_; refine Ex_mv rfl rfl ?_; refine Ex_mv rfl rfl ?_; (first | refine Ex_addN rfl ?_ | refine Ex_mv rfl rfl ?_); refine Ex_iald rfl hA (vp_in_nI (by omega) (by omega)) ?_; refine Ex_mv rfl rfl ?_; refine Ex_mv rfl rfl ?_; refine Ex_mv rfl rfl ?_; (first | refine Ex_addN rfl ?_ | refine Ex_mv rfl rfl ?_); refine Ex_iald rfl hA (vp_in_nI (by omega) (by omega)) ?_; refine Ex_mv rfl rfl ?_; refine Ex_mv rfl rfl ?_; refine Ex_mv rfl rfl ?_; (first | refine Ex_addN rfl ?_ | refine Ex_mv rfl rfl ?_); refine Ex_iald rfl hA (vp_in_nI (by omega) (by omega)) ?_; refine Ex_mv rfl rfl ?_; refine Ex_mv rfl rfl ?_; refine Ex_mv rfl rfl ?_; (first | refine Ex_addN rfl ?_ | refine Ex_mv rfl rfl ?_); refine Ex_iald rfl hA (vp_in_nI (by omega) (by omega)) ?_; refine Ex_invV rfl (by rfl) (by rfl) hc (by rfl) (e1) ?_; refine Ex_mv rfl rfl ?_; refine Ex_mv rfl rfl ?_; refine Ex_mv rfl rfl ?_; refine Ex_mv rfl rfl ?_; (first | refine Ex_addN rfl ?_ | refine Ex_mv rfl rfl ?_); refine Ex_iald rfl hA1 (vp_in_nI (by omega) (by omega)) ?_; refine Ex_mv rfl rfl ?_; refine Ex_mv rfl rfl ?_; refine Ex_mv rfl rfl ?_; (first | refine Ex_addN rfl ?_ | refine Ex_mv rfl rfl ?_); refine Ex_iald rfl hA1 (vp_in_nI (by omega) (by omega)) ?_; refine Ex_mv rfl rfl ?_; refine Ex_mv rfl rfl ?_; refine Ex_mv rfl rfl ?_; (first | refine Ex_addN rfl ?_ | refine Ex_mv rfl rfl ?_); refine Ex_iald rfl hA1 (vp_in_nI (by omega) (by omega)) ?_; refine Ex_mv rfl rfl ?_; refine Ex_mv rfl rfl ?_; refine Ex_mv rfl rfl ?_; (first | refine Ex_addN rfl ?_ | refine Ex_mv rfl rfl ?_); refine Ex_iald rfl hA1 (vp_in_nI (by omega) (by omega)) ?_; refine Ex_invV rfl (by rfl) (by rfl) hc1 (by rfl) (e2) ?_; refine Ex_mv rfl rfl ?_; refine Ex_ift rfl ?_
  exact K h2 _ 0 _ _ _ I2 b1 b2 b3 b4
theorem LC_told (hI : LIv nb sa a0 n w g c0 m0 h s c) (hac : a0 < c0) (hm : m0 = c0 + 131) (hn : n ≤ 3072) (hi : i + 6 ≤ n) {x5 x6 x7 : Option Value} {R : Option Value → Hp → Prop} (K : ∀ (h' : Hp) (s' : Sg) (c' : Nat) (x5 x6 x7 : Option Value), LIv nb sa a0 n w g c0 m0 h' s' c' → h.1 ≤ h'.1 → h'.1 ≤ h.1 + 701 → h.2.1 ≤ h'.2.1 → h'.2.1 ≤ h.2.1 + 4508 → Ex (prog nb sa) k_LW_law 844 [some (.ref a0), some (.ref c0), some (.ref m0), some (.ref (m0 + 7)), some (.int (nI i)), x5, x6, x7] [] h' R) : Ex (prog nb sa) k_LW_law 511 [some (.ref a0), some (.ref c0), some (.ref m0), some (.ref (m0 + 7)), some (.int (nI i)), x5, x6, x7] [] h R := by
  obtain ⟨hC, hM, hG, hA, hO, h8⟩ := id hI
  obtain ⟨kr, kt, hc⟩ := hC.cell
  have e1 := c_CP_told (nb := nb) (sa := sa) hC hG (g (nI (i + 1)).toNatClampNeg) (g (nI (i + 2)).toNatClampNeg) (g (nI (i + 3)).toNatClampNeg) (g (nI (i + 4)).toNatClampNeg)
  have C1 := hC
  have F1 : FC c0 h h := FC.rf
  have M1 := hM.fc F1 hm
  obtain ⟨O1, J1, nw1, a1, fl1, ms1, od1, oc1, hc1⟩ := M1.cell
  obtain ⟨_, h2, e2, rfl, M2, F2⟩ := c_MO_told (nb := nb) (sa := sa) M1 hG (g (nI (i + 1)).toNatClampNeg) (g (nI (i + 2)).toNatClampNeg) (g (nI (i + 3)).toNatClampNeg) (g (nI (i + 4)).toNatClampNeg)
  have C2 := C1.fx F2 hm (by have := F1.1; omega)
  have hA1 := (F1.2.2.2.2 a0 (by omega) (by omega)).trans hA
  have sg := hG
  obtain ⟨I2, b1, b2, b3, b4⟩ := hI.mk hac hm F1 F2 C2 M2 sg (by omega) (by omega)
  refine Ex_mv rfl rfl ?_; refine Ex_mv rfl rfl ?_; refine Ex_mv rfl rfl ?_; refine Ex_mv rfl rfl ?_; (first | refine Ex_addN rfl ?_ | refine Ex_mv rfl rfl ?_); refine Ex_iald rfl hA (vp_in_nI (by omega) (by omega)) ?_; refine Ex_mv rfl rfl ?_; refine Ex_mv rfl rfl ?_; refine Ex_mv rfl rfl ?_; (first | refine Ex_addN rfl ?_ | refine Ex_mv rfl rfl ?_); refine Ex_iald rfl hA (vp_in_nI (by omega) (by omega)) ?_; refine Ex_mv rfl rfl ?_; refine Ex_mv rfl rfl ?_; refine Ex_mv rfl rfl ?_; (first | refine Ex_addN rfl ?_ | refine Ex_mv rfl rfl ?_); refine Ex_iald rfl hA (vp_in_nI (by omega) (by omega)) ?_; refine Ex_mv rfl rfl ?_; refine Ex_mv rfl rfl ?_; refine Ex_mv rfl rfl ?_; (first | refine Ex_addN rfl ?_ | refine Ex_mv rfl rfl ?_); refine Ex_iald rfl hA (vp_in_nI (by omega) (by omega)) ?_; refine Ex_invV rfl (by rfl) (by rfl) hc (by rfl) (e1) ?_; refine Ex_mv rfl rfl ?_; refine Ex_mv rfl rfl ?_; refine Ex_mv rfl rfl ?_; refine Ex_mv rfl rfl ?_; (first | refine Ex_addN rfl ?_ | refine Ex_mv rfl rfl ?_); refine Ex_iald rfl hA1 (vp_in_nI (by omega) (by omega)) ?_; refine Ex_mv rfl rfl ?_; refine Ex_mv rfl rfl ?_; refine Ex_mv rfl rfl ?_; (first | refine Ex_addN rfl ?_ | refine Ex_mv rfl rfl ?_); refine Ex_iald rfl hA1 (vp_in_nI (by omega) (by omega)) ?_; refine Ex_mv rfl rfl ?_; refine Ex_mv rfl rfl ?_; refine Ex_mv rfl rfl ?_; (first | refine Ex_addN rfl ?_ | refine Ex_mv rfl rfl ?_); refine Ex_iald rfl hA1 (vp_in_nI (by omega) (by omega)) ?_; refine Ex_mv rfl rfl ?_; refine Ex_mv rfl rfl ?_; refine Ex_mv rfl rfl ?_; (first | refine Ex_addN rfl ?_ | refine Ex_mv rfl rfl ?_); refine Ex_iald rfl hA1 (vp_in_nI (by omega) (by omega)) ?_; refine Ex_invV rfl (by rfl) (by rfl) hc1 (by rfl) (e2) ?_; refine Ex_mv rfl rfl ?_; refine Ex_ift rfl ?_
  exact K h2 _ 0 _ _ _ I2 b1 b2 b3 b4
theorem LC_attribute (hI : LIv nb sa a0 n w g c0 m0 h s c) (hac : a0 < c0) (hm : m0 = c0 + 131) (hn : n ≤ 3072) (hi : i + 6 ≤ n) {x5 x6 x7 : Option Value} {R : Option Value → Hp → Prop} (K : ∀ (h' : Hp) (s' : Sg) (c' : Nat) (x5 x6 x7 : Option Value), LIv nb sa a0 n w g c0 m0 h' s' c' → h.1 ≤ h'.1 → h'.1 ≤ h.1 + 701 → h.2.1 ≤ h'.2.1 → h'.2.1 ≤ h.2.1 + 4508 → Ex (prog nb sa) k_LW_law 844 [some (.ref a0), some (.ref c0), some (.ref m0), some (.ref (m0 + 7)), some (.int (nI i)), x5, x6, x7] [] h' R) : Ex (prog nb sa) k_LW_law 572 [some (.ref a0), some (.ref c0), some (.ref m0), some (.ref (m0 + 7)), some (.int (nI i)), x5, x6, x7] [] h R := by
  obtain ⟨hC, hM, hG, hA, hO, h8⟩ := id hI
  obtain ⟨kr, kt, hc⟩ := hC.cell
  obtain ⟨_, h1, e1, rfl, C1, F1⟩ := c_CP_attribute (nb := nb) (sa := sa) hC hG (g (nI (i + 1)).toNatClampNeg) (g (nI (i + 2)).toNatClampNeg) (g (nI (i + 3)).toNatClampNeg) (g (nI (i + 4)).toNatClampNeg) (g (nI (i + 5)).toNatClampNeg)
  have M1 := hM.fc F1 hm
  obtain ⟨O1, J1, nw1, a1, fl1, ms1, od1, oc1, hc1⟩ := M1.cell
  obtain ⟨_, h2, e2, rfl, M2, F2⟩ := c_MO_attribute (nb := nb) (sa := sa) M1 hG (g (nI (i + 1)).toNatClampNeg) (g (nI (i + 2)).toNatClampNeg) (g (nI (i + 3)).toNatClampNeg) (g (nI (i + 4)).toNatClampNeg) (g (nI (i + 5)).toNatClampNeg)
  have C2 := C1.fx F2 hm (by have := F1.1; omega)
  have hA1 := (F1.2.2.2.2 a0 (by omega) (by omega)).trans hA
  have sg := hG.re C1 rfl rfl
  obtain ⟨I2, b1, b2, b3, b4⟩ := hI.mk hac hm F1 F2 C2 M2 sg (by omega) (by omega)
  refine Ex_mv rfl rfl ?_; refine Ex_mv rfl rfl ?_; refine Ex_mv rfl rfl ?_; refine Ex_mv rfl rfl ?_; (first | refine Ex_addN rfl ?_ | refine Ex_mv rfl rfl ?_); refine Ex_iald rfl hA (vp_in_nI (by omega) (by omega)) ?_; refine Ex_mv rfl rfl ?_; refine Ex_mv rfl rfl ?_; refine Ex_mv rfl rfl ?_; (first | refine Ex_addN rfl ?_ | refine Ex_mv rfl rfl ?_); refine Ex_iald rfl hA (vp_in_nI (by omega) (by omega)) ?_; refine Ex_mv rfl rfl ?_; refine Ex_mv rfl rfl ?_; refine Ex_mv rfl rfl ?_; (first | refine Ex_addN rfl ?_ | refine Ex_mv rfl rfl ?_); refine Ex_iald rfl hA (vp_in_nI (by omega) (by omega)) ?_; refine Ex_mv rfl rfl ?_; refine Ex_mv rfl rfl ?_; refine Ex_mv rfl rfl ?_; (first | refine Ex_addN rfl ?_ | refine Ex_mv rfl rfl ?_); refine Ex_iald rfl hA (vp_in_nI (by omega) (by omega)) ?_; refine Ex_mv rfl rfl ?_; refine Ex_mv rfl rfl ?_; refine Ex_mv rfl rfl ?_; (first | refine Ex_addN rfl ?_ | refine Ex_mv rfl rfl ?_); refine Ex_iald rfl hA (vp_in_nI (by omega) (by omega)) ?_; refine Ex_invV rfl (by rfl) (by rfl) hc (by rfl) (e1) ?_; refine Ex_mv rfl rfl ?_; refine Ex_mv rfl rfl ?_; refine Ex_mv rfl rfl ?_; refine Ex_mv rfl rfl ?_; (first | refine Ex_addN rfl ?_ | refine Ex_mv rfl rfl ?_); refine Ex_iald rfl hA1 (vp_in_nI (by omega) (by omega)) ?_; refine Ex_mv rfl rfl ?_; refine Ex_mv rfl rfl ?_; refine Ex_mv rfl rfl ?_; (first | refine Ex_addN rfl ?_ | refine Ex_mv rfl rfl ?_); refine Ex_iald rfl hA1 (vp_in_nI (by omega) (by omega)) ?_; refine Ex_mv rfl rfl ?_; refine Ex_mv rfl rfl ?_; refine Ex_mv rfl rfl ?_; (first | refine Ex_addN rfl ?_ | refine Ex_mv rfl rfl ?_); refine Ex_iald rfl hA1 (vp_in_nI (by omega) (by omega)) ?_; refine Ex_mv rfl rfl ?_; refine Ex_mv rfl rfl ?_; refine Ex_mv rfl rfl ?_; (first | refine Ex_addN rfl ?_ | refine Ex_mv rfl rfl ?_); refine Ex_iald rfl hA1 (vp_in_nI (by omega) (by omega)) ?_; refine Ex_mv rfl rfl ?_; refine Ex_mv rfl rfl ?_; refine Ex_mv rfl rfl ?_; (first | refine Ex_addN rfl ?_ | refine Ex_mv rfl rfl ?_); refine Ex_iald rfl hA1 (vp_in_nI (by omega) (by omega)) ?_; refine Ex_invV rfl (by rfl) (by rfl) hc1 (by rfl) (e2) ?_; refine Ex_mv rfl rfl ?_; refine Ex_ift rfl ?_
  exact K h2 _ 0 _ _ _ I2 b1 b2 b3 b4
theorem LC_out (hI : LIv nb sa a0 n w g c0 m0 h s c) (hac : a0 < c0) (hm : m0 = c0 + 131) (hn : n ≤ 3072) (hi : i + 6 ≤ n) {x5 x6 x7 : Option Value} {R : Option Value → Hp → Prop} (K : ∀ (h' : Hp) (s' : Sg) (c' : Nat) (x5 x6 x7 : Option Value), LIv nb sa a0 n w g c0 m0 h' s' c' → h.1 ≤ h'.1 → h'.1 ≤ h.1 + 701 → h.2.1 ≤ h'.2.1 → h'.2.1 ≤ h.2.1 + 4508 → Ex (prog nb sa) k_LW_law 844 [some (.ref a0), some (.ref c0), some (.ref m0), some (.ref (m0 + 7)), some (.int (nI i)), x5, x6, x7] [] h' R) : Ex (prog nb sa) k_LW_law 645 [some (.ref a0), some (.ref c0), some (.ref m0), some (.ref (m0 + 7)), some (.int (nI i)), x5, x6, x7] [] h R := by
  obtain ⟨hC, hM, hG, hA, hO, h8⟩ := id hI
  obtain ⟨kr, kt, hc⟩ := hC.cell
  have e1 := c_CP_out (nb := nb) (sa := sa) hC (g (nI (i + 1)).toNatClampNeg)
  have C1 := hC
  have F1 : FC c0 h h := FC.rf
  have M1 := hM.fc F1 hm
  obtain ⟨O1, J1, nw1, a1, fl1, ms1, od1, oc1, hc1⟩ := M1.cell
  obtain ⟨_, h2, e2, rfl, M2, F2⟩ := c_MO_out (nb := nb) (sa := sa) M1 (g (nI (i + 1)).toNatClampNeg)
  have C2 := C1.fx F2 hm (by have := F1.1; omega)
  have hA1 := (F1.2.2.2.2 a0 (by omega) (by omega)).trans hA
  have sg := hG
  obtain ⟨I2, b1, b2, b3, b4⟩ := hI.mk hac hm F1 F2 C2 M2 sg (by omega) (by omega)
  refine Ex_mv rfl rfl ?_; refine Ex_mv rfl rfl ?_; refine Ex_mv rfl rfl ?_; refine Ex_mv rfl rfl ?_; (first | refine Ex_addN rfl ?_ | refine Ex_mv rfl rfl ?_); refine Ex_iald rfl hA (vp_in_nI (by omega) (by omega)) ?_; refine Ex_invV rfl (by rfl) (by rfl) hc (by rfl) (e1) ?_; refine Ex_mv rfl rfl ?_; refine Ex_mv rfl rfl ?_; refine Ex_mv rfl rfl ?_; refine Ex_mv rfl rfl ?_; (first | refine Ex_addN rfl ?_ | refine Ex_mv rfl rfl ?_); refine Ex_iald rfl hA1 (vp_in_nI (by omega) (by omega)) ?_; refine Ex_invV rfl (by rfl) (by rfl) hc1 (by rfl) (e2) ?_; refine Ex_mv rfl rfl ?_; refine Ex_ift rfl ?_
  exact K h2 _ 0 _ _ _ I2 b1 b2 b3 b4
theorem LC_join (hI : LIv nb sa a0 n w g c0 m0 h s c) (hac : a0 < c0) (hm : m0 = c0 + 131) (hn : n ≤ 3072) (hi : i + 6 ≤ n) {x5 x6 x7 : Option Value} {R : Option Value → Hp → Prop} (K : ∀ (h' : Hp) (s' : Sg) (c' : Nat) (x5 x6 x7 : Option Value), LIv nb sa a0 n w g c0 m0 h' s' c' → h.1 ≤ h'.1 → h'.1 ≤ h.1 + 701 → h.2.1 ≤ h'.2.1 → h'.2.1 ≤ h.2.1 + 4508 → Ex (prog nb sa) k_LW_law 844 [some (.ref a0), some (.ref c0), some (.ref m0), some (.ref (m0 + 7)), some (.int (nI i)), x5, x6, x7] [] h' R) : Ex (prog nb sa) k_LW_law 670 [some (.ref a0), some (.ref c0), some (.ref m0), some (.ref (m0 + 7)), some (.int (nI i)), x5, x6, x7] [] h R := by
  obtain ⟨hC, hM, hG, hA, hO, h8⟩ := id hI
  obtain ⟨kr, kt, hc⟩ := hC.cell
  obtain ⟨_, h1, e1, rfl, C1, F1⟩ := c_CP_join (nb := nb) (sa := sa) hC hG
  have M1 := hM.fc F1 hm
  obtain ⟨O1, J1, nw1, a1, fl1, ms1, od1, oc1, hc1⟩ := M1.cell
  obtain ⟨_, h2, e2, rfl, M2, F2⟩ := c_MO_join (nb := nb) (sa := sa) M1 hG
  have C2 := C1.fx F2 hm (by have := F1.1; omega)
  have hA1 := (F1.2.2.2.2 a0 (by omega) (by omega)).trans hA
  have sg := hG.join C1
  obtain ⟨I2, b1, b2, b3, b4⟩ := hI.mk hac hm F1 F2 C2 M2 sg (by omega) (by omega)
  refine Ex_mv rfl rfl ?_; refine Ex_invV rfl (by rfl) (by rfl) hc (by rfl) (e1) ?_; refine Ex_mv rfl rfl ?_; refine Ex_invV rfl (by rfl) (by rfl) hc1 (by rfl) (e2) ?_; refine Ex_mv rfl rfl ?_; refine Ex_ift rfl ?_
  exact K h2 _ 0 _ _ _ I2 b1 b2 b3 b4
theorem LC_joined (hI : LIv nb sa a0 n w g c0 m0 h s c) (hac : a0 < c0) (hm : m0 = c0 + 131) (hn : n ≤ 3072) (hi : i + 6 ≤ n) {x5 x6 x7 : Option Value} {R : Option Value → Hp → Prop} (K : ∀ (h' : Hp) (s' : Sg) (c' : Nat) (x5 x6 x7 : Option Value), LIv nb sa a0 n w g c0 m0 h' s' c' → h.1 ≤ h'.1 → h'.1 ≤ h.1 + 701 → h.2.1 ≤ h'.2.1 → h'.2.1 ≤ h.2.1 + 4508 → Ex (prog nb sa) k_LW_law 844 [some (.ref a0), some (.ref c0), some (.ref m0), some (.ref (m0 + 7)), some (.int (nI i)), x5, x6, x7] [] h' R) : Ex (prog nb sa) k_LW_law 683 [some (.ref a0), some (.ref c0), some (.ref m0), some (.ref (m0 + 7)), some (.int (nI i)), x5, x6, x7] [] h R := by
  obtain ⟨hC, hM, hG, hA, hO, h8⟩ := id hI
  obtain ⟨kr, kt, hc⟩ := hC.cell
  have e1 := c_CP_joined (nb := nb) (sa := sa) hC hG (g (nI (i + 1)).toNatClampNeg) (g (nI (i + 2)).toNatClampNeg)
  have C1 := hC
  have F1 : FC c0 h h := FC.rf
  have M1 := hM.fc F1 hm
  obtain ⟨O1, J1, nw1, a1, fl1, ms1, od1, oc1, hc1⟩ := M1.cell
  obtain ⟨_, h2, e2, rfl, M2, F2⟩ := c_MO_joined (nb := nb) (sa := sa) M1 hG (g (nI (i + 1)).toNatClampNeg) (g (nI (i + 2)).toNatClampNeg)
  have C2 := C1.fx F2 hm (by have := F1.1; omega)
  have hA1 := (F1.2.2.2.2 a0 (by omega) (by omega)).trans hA
  have sg := hG
  obtain ⟨I2, b1, b2, b3, b4⟩ := hI.mk hac hm F1 F2 C2 M2 sg (by omega) (by omega)
  refine Ex_mv rfl rfl ?_; refine Ex_mv rfl rfl ?_; refine Ex_mv rfl rfl ?_; refine Ex_mv rfl rfl ?_; (first | refine Ex_addN rfl ?_ | refine Ex_mv rfl rfl ?_); refine Ex_iald rfl hA (vp_in_nI (by omega) (by omega)) ?_; refine Ex_mv rfl rfl ?_; refine Ex_mv rfl rfl ?_; refine Ex_mv rfl rfl ?_; (first | refine Ex_addN rfl ?_ | refine Ex_mv rfl rfl ?_); refine Ex_iald rfl hA (vp_in_nI (by omega) (by omega)) ?_; refine Ex_invV rfl (by rfl) (by rfl) hc (by rfl) (e1) ?_; refine Ex_mv rfl rfl ?_; refine Ex_mv rfl rfl ?_; refine Ex_mv rfl rfl ?_; refine Ex_mv rfl rfl ?_; (first | refine Ex_addN rfl ?_ | refine Ex_mv rfl rfl ?_); refine Ex_iald rfl hA1 (vp_in_nI (by omega) (by omega)) ?_; refine Ex_mv rfl rfl ?_; refine Ex_mv rfl rfl ?_; refine Ex_mv rfl rfl ?_; (first | refine Ex_addN rfl ?_ | refine Ex_mv rfl rfl ?_); refine Ex_iald rfl hA1 (vp_in_nI (by omega) (by omega)) ?_; refine Ex_invV rfl (by rfl) (by rfl) hc1 (by rfl) (e2) ?_; refine Ex_mv rfl rfl ?_; refine Ex_ift rfl ?_
  exact K h2 _ 0 _ _ _ I2 b1 b2 b3 b4
theorem LC_meaning (hI : LIv nb sa a0 n w g c0 m0 h s c) (hac : a0 < c0) (hm : m0 = c0 + 131) (hn : n ≤ 3072) (hi : i + 6 ≤ n) {x5 x6 x7 : Option Value} {R : Option Value → Hp → Prop} (K : ∀ (h' : Hp) (s' : Sg) (c' : Nat) (x5 x6 x7 : Option Value), LIv nb sa a0 n w g c0 m0 h' s' c' → h.1 ≤ h'.1 → h'.1 ≤ h.1 + 701 → h.2.1 ≤ h'.2.1 → h'.2.1 ≤ h.2.1 + 4508 → Ex (prog nb sa) k_LW_law 844 [some (.ref a0), some (.ref c0), some (.ref m0), some (.ref (m0 + 7)), some (.int (nI i)), x5, x6, x7] [] h' R) : Ex (prog nb sa) k_LW_law 720 [some (.ref a0), some (.ref c0), some (.ref m0), some (.ref (m0 + 7)), some (.int (nI i)), x5, x6, x7] [] h R := by
  obtain ⟨hC, hM, hG, hA, hO, h8⟩ := id hI
  obtain ⟨kr, kt, hc⟩ := hC.cell
  have e1 := c_CP_meaning (nb := nb) (sa := sa) hC hG (g (nI (i + 1)).toNatClampNeg) (g (nI (i + 2)).toNatClampNeg)
  have C1 := hC
  have F1 : FC c0 h h := FC.rf
  have M1 := hM.fc F1 hm
  obtain ⟨O1, J1, nw1, a1, fl1, ms1, od1, oc1, hc1⟩ := M1.cell
  obtain ⟨_, h2, e2, rfl, M2, F2⟩ := c_MO_meaning (nb := nb) (sa := sa) M1 hG (g (nI (i + 1)).toNatClampNeg) (g (nI (i + 2)).toNatClampNeg)
  have C2 := C1.fx F2 hm (by have := F1.1; omega)
  have hA1 := (F1.2.2.2.2 a0 (by omega) (by omega)).trans hA
  have sg := hG
  obtain ⟨I2, b1, b2, b3, b4⟩ := hI.mk hac hm F1 F2 C2 M2 sg (by omega) (by omega)
  refine Ex_mv rfl rfl ?_; refine Ex_mv rfl rfl ?_; refine Ex_mv rfl rfl ?_; refine Ex_mv rfl rfl ?_; (first | refine Ex_addN rfl ?_ | refine Ex_mv rfl rfl ?_); refine Ex_iald rfl hA (vp_in_nI (by omega) (by omega)) ?_; refine Ex_mv rfl rfl ?_; refine Ex_mv rfl rfl ?_; refine Ex_mv rfl rfl ?_; (first | refine Ex_addN rfl ?_ | refine Ex_mv rfl rfl ?_); refine Ex_iald rfl hA (vp_in_nI (by omega) (by omega)) ?_; refine Ex_invV rfl (by rfl) (by rfl) hc (by rfl) (e1) ?_; refine Ex_mv rfl rfl ?_; refine Ex_mv rfl rfl ?_; refine Ex_mv rfl rfl ?_; refine Ex_mv rfl rfl ?_; (first | refine Ex_addN rfl ?_ | refine Ex_mv rfl rfl ?_); refine Ex_iald rfl hA1 (vp_in_nI (by omega) (by omega)) ?_; refine Ex_mv rfl rfl ?_; refine Ex_mv rfl rfl ?_; refine Ex_mv rfl rfl ?_; (first | refine Ex_addN rfl ?_ | refine Ex_mv rfl rfl ?_); refine Ex_iald rfl hA1 (vp_in_nI (by omega) (by omega)) ?_; refine Ex_invV rfl (by rfl) (by rfl) hc1 (by rfl) (e2) ?_; refine Ex_mv rfl rfl ?_; refine Ex_ift rfl ?_
  exact K h2 _ 0 _ _ _ I2 b1 b2 b3 b4
theorem LC_alike (hI : LIv nb sa a0 n w g c0 m0 h s c) (hac : a0 < c0) (hm : m0 = c0 + 131) (hn : n ≤ 3072) (hi : i + 6 ≤ n) {x5 x6 x7 : Option Value} {R : Option Value → Hp → Prop} (K : ∀ (h' : Hp) (s' : Sg) (c' : Nat) (x5 x6 x7 : Option Value), LIv nb sa a0 n w g c0 m0 h' s' c' → h.1 ≤ h'.1 → h'.1 ≤ h.1 + 701 → h.2.1 ≤ h'.2.1 → h'.2.1 ≤ h.2.1 + 4508 → Ex (prog nb sa) k_LW_law 844 [some (.ref a0), some (.ref c0), some (.ref m0), some (.ref (m0 + 7)), some (.int (nI i)), x5, x6, x7] [] h' R) : Ex (prog nb sa) k_LW_law 757 [some (.ref a0), some (.ref c0), some (.ref m0), some (.ref (m0 + 7)), some (.int (nI i)), x5, x6, x7] [] h R := by
  obtain ⟨hC, hM, hG, hA, hO, h8⟩ := id hI
  obtain ⟨kr, kt, hc⟩ := hC.cell
  have e1 := c_CP_alike (nb := nb) (sa := sa) hC hG (g (nI (i + 1)).toNatClampNeg) (g (nI (i + 2)).toNatClampNeg)
  have C1 := hC
  have F1 : FC c0 h h := FC.rf
  have M1 := hM.fc F1 hm
  obtain ⟨O1, J1, nw1, a1, fl1, ms1, od1, oc1, hc1⟩ := M1.cell
  obtain ⟨_, h2, e2, rfl, M2, F2⟩ := c_MO_alike (nb := nb) (sa := sa) M1 hG (g (nI (i + 1)).toNatClampNeg) (g (nI (i + 2)).toNatClampNeg)
  have C2 := C1.fx F2 hm (by have := F1.1; omega)
  have hA1 := (F1.2.2.2.2 a0 (by omega) (by omega)).trans hA
  have sg := hG
  obtain ⟨I2, b1, b2, b3, b4⟩ := hI.mk hac hm F1 F2 C2 M2 sg (by omega) (by omega)
  refine Ex_mv rfl rfl ?_; refine Ex_mv rfl rfl ?_; refine Ex_mv rfl rfl ?_; refine Ex_mv rfl rfl ?_; (first | refine Ex_addN rfl ?_ | refine Ex_mv rfl rfl ?_); refine Ex_iald rfl hA (vp_in_nI (by omega) (by omega)) ?_; refine Ex_mv rfl rfl ?_; refine Ex_mv rfl rfl ?_; refine Ex_mv rfl rfl ?_; (first | refine Ex_addN rfl ?_ | refine Ex_mv rfl rfl ?_); refine Ex_iald rfl hA (vp_in_nI (by omega) (by omega)) ?_; refine Ex_invV rfl (by rfl) (by rfl) hc (by rfl) (e1) ?_; refine Ex_mv rfl rfl ?_; refine Ex_mv rfl rfl ?_; refine Ex_mv rfl rfl ?_; refine Ex_mv rfl rfl ?_; (first | refine Ex_addN rfl ?_ | refine Ex_mv rfl rfl ?_); refine Ex_iald rfl hA1 (vp_in_nI (by omega) (by omega)) ?_; refine Ex_mv rfl rfl ?_; refine Ex_mv rfl rfl ?_; refine Ex_mv rfl rfl ?_; (first | refine Ex_addN rfl ?_ | refine Ex_mv rfl rfl ?_); refine Ex_iald rfl hA1 (vp_in_nI (by omega) (by omega)) ?_; refine Ex_invV rfl (by rfl) (by rfl) hc1 (by rfl) (e2) ?_; refine Ex_mv rfl rfl ?_; refine Ex_ift rfl ?_
  exact K h2 _ 0 _ _ _ I2 b1 b2 b3 b4
theorem LC_write (hI : LIv nb sa a0 n w g c0 m0 h s c) (hac : a0 < c0) (hm : m0 = c0 + 131) (hn : n ≤ 3072) (hi : i + 6 ≤ n) {x5 x6 x7 : Option Value} {R : Option Value → Hp → Prop} (K : ∀ (h' : Hp) (s' : Sg) (c' : Nat) (x5 x6 x7 : Option Value), LIv nb sa a0 n w g c0 m0 h' s' c' → h.1 ≤ h'.1 → h'.1 ≤ h.1 + 701 → h.2.1 ≤ h'.2.1 → h'.2.1 ≤ h.2.1 + 4508 → Ex (prog nb sa) k_LW_law 844 [some (.ref a0), some (.ref c0), some (.ref m0), some (.ref (m0 + 7)), some (.int (nI i)), x5, x6, x7] [] h' R) : Ex (prog nb sa) k_LW_law 794 [some (.ref a0), some (.ref c0), some (.ref m0), some (.ref (m0 + 7)), some (.int (nI i)), x5, x6, x7] [] h R := by
  obtain ⟨hC, hM, hG, hA, hO, h8⟩ := id hI
  obtain ⟨kr, kt, hc⟩ := hC.cell
  obtain ⟨_, h1, e1, rfl, C1, F1⟩ := c_CP_write (nb := nb) (sa := sa) hC hG (g (nI (i + 1)).toNatClampNeg) (g (nI (i + 2)).toNatClampNeg)
  have M1 := hM.fc F1 hm
  obtain ⟨O1, J1, nw1, a1, fl1, ms1, od1, oc1, hc1⟩ := M1.cell
  obtain ⟨_, h2, e2, rfl, M2, F2⟩ := c_MO_write (nb := nb) (sa := sa) M1 hG (g (nI (i + 1)).toNatClampNeg) (g (nI (i + 2)).toNatClampNeg)
  have C2 := C1.fx F2 hm (by have := F1.1; omega)
  have hA1 := (F1.2.2.2.2 a0 (by omega) (by omega)).trans hA
  have sg := hG.re C1 rfl rfl
  obtain ⟨I2, b1, b2, b3, b4⟩ := hI.mk hac hm F1 F2 C2 M2 sg (by omega) (by omega)
  refine Ex_mv rfl rfl ?_; refine Ex_mv rfl rfl ?_; refine Ex_mv rfl rfl ?_; refine Ex_mv rfl rfl ?_; (first | refine Ex_addN rfl ?_ | refine Ex_mv rfl rfl ?_); refine Ex_iald rfl hA (vp_in_nI (by omega) (by omega)) ?_; refine Ex_mv rfl rfl ?_; refine Ex_mv rfl rfl ?_; refine Ex_mv rfl rfl ?_; (first | refine Ex_addN rfl ?_ | refine Ex_mv rfl rfl ?_); refine Ex_iald rfl hA (vp_in_nI (by omega) (by omega)) ?_; refine Ex_invV rfl (by rfl) (by rfl) hc (by rfl) (e1) ?_; refine Ex_mv rfl rfl ?_; refine Ex_mv rfl rfl ?_; refine Ex_mv rfl rfl ?_; refine Ex_mv rfl rfl ?_; (first | refine Ex_addN rfl ?_ | refine Ex_mv rfl rfl ?_); refine Ex_iald rfl hA1 (vp_in_nI (by omega) (by omega)) ?_; refine Ex_mv rfl rfl ?_; refine Ex_mv rfl rfl ?_; refine Ex_mv rfl rfl ?_; (first | refine Ex_addN rfl ?_ | refine Ex_mv rfl rfl ?_); refine Ex_iald rfl hA1 (vp_in_nI (by omega) (by omega)) ?_; refine Ex_invV rfl (by rfl) (by rfl) hc1 (by rfl) (e2) ?_; refine Ex_mv rfl rfl ?_; refine Ex_ift rfl ?_
  exact K h2 _ 0 _ _ _ I2 b1 b2 b3 b4
theorem LC_back (hI : LIv nb sa a0 n w g c0 m0 h s c) (hac : a0 < c0) (hm : m0 = c0 + 131) (hn : n ≤ 3072) (hi : i + 6 ≤ n) {x5 x6 x7 : Option Value} {R : Option Value → Hp → Prop} (K : ∀ (h' : Hp) (s' : Sg) (c' : Nat) (x5 x6 x7 : Option Value), LIv nb sa a0 n w g c0 m0 h' s' c' → h.1 ≤ h'.1 → h'.1 ≤ h.1 + 701 → h.2.1 ≤ h'.2.1 → h'.2.1 ≤ h.2.1 + 4508 → Ex (prog nb sa) k_LW_law 844 [some (.ref a0), some (.ref c0), some (.ref m0), some (.ref (m0 + 7)), some (.int (nI i)), x5, x6, x7] [] h' R) : Ex (prog nb sa) k_LW_law 831 [some (.ref a0), some (.ref c0), some (.ref m0), some (.ref (m0 + 7)), some (.int (nI i)), x5, x6, x7] [] h R := by
  obtain ⟨hC, hM, hG, hA, hO, h8⟩ := id hI
  obtain ⟨kr, kt, hc⟩ := hC.cell
  obtain ⟨_, h1, e1, rfl, C1, F1⟩ := c_CP_back (nb := nb) (sa := sa) hC 
  have M1 := hM.fc F1 hm
  obtain ⟨O1, J1, nw1, a1, fl1, ms1, od1, oc1, hc1⟩ := M1.cell
  obtain ⟨_, h2, e2, rfl, M2, F2⟩ := c_MO_back (nb := nb) (sa := sa) M1 
  have C2 := C1.fx F2 hm (by have := F1.1; omega)
  have hA1 := (F1.2.2.2.2 a0 (by omega) (by omega)).trans hA
  have sg := hG.re C1 rfl rfl
  obtain ⟨I2, b1, b2, b3, b4⟩ := hI.mk hac hm F1 F2 C2 M2 sg (by omega) (by omega)
  refine Ex_mv rfl rfl ?_; refine Ex_invV rfl (by rfl) (by rfl) hc (by rfl) (e1) ?_; refine Ex_mv rfl rfl ?_; refine Ex_invV rfl (by rfl) (by rfl) hc1 (by rfl) (e2) ?_; refine Ex_mv rfl rfl ?_; refine Ex_ift rfl ?_
  exact K h2 _ 0 _ _ _ I2 b1 b2 b3 b4
end LAWB
