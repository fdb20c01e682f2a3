/-! the law -/
section LAWC
variable {nb sa a0 n c0 m0 : Nat} {w : Bool} {g : Nat → Int32}
theorem MOs.fo {h h' : Hp} {c : Nat} {s : Sg} (hS : MOs h m0 nb sa s c) (h1 : h.1 ≤ h'.1) (h2 : h.2.1 ≤ h'.2.1) (k : ∀ q, q < h.1 → (q < c0 ∨ c0 + 131 ≤ q) → q ≠ m0 + 7 → h'.2.2 q = h.2.2 q) (hm : m0 = c0 + 131) : MOs h' m0 nb sa s c := by
  have h7 := hS.h7
  obtain ⟨O, J, nw, a', fl, ms, od, oc, hc, hR⟩ := hS
  exact ⟨O, J, nw, a', fl, ms, od, oc, (k _ (by omega) (by omega) (by omega)).trans hc, hR.eq ⟨h1, h2, fun q hq => k q hq.1 (by have := hq.2; simp only [muM] at this; omega) (by have := hq.2; simp only [muM] at this; omega)⟩ (k _ (by omega) (by omega) (by omega)) (k _ (by omega) (by omega) (by omega)) (k _ (by omega) (by omega) (by omega)) (k _ (by omega) (by omega) (by omega))⟩
theorem LC_number {h : Hp} {s : Sg} {c i : Nat} (hI : LIv nb sa a0 n w g c0 m0 h s c) (hac : a0 < c0) (hm : m0 = c0 + 131) (hn : n ≤ 3072) (hi : i + 6 ≤ n) {x5 x6 x7 : Option Value} {R : Option Value → Hp → Prop} (K : ∀ (h' : Hp) (s' : Sg) (c' : Nat) (x5 x6 x7 : Option Value), LIv nb sa a0 n w g c0 m0 h' s' c' → h.1 ≤ h'.1 → h'.1 ≤ h.1 + 701 → h.2.1 ≤ h'.2.1 → h'.2.1 ≤ h.2.1 + 4508 → Ex (prog nb sa) k_LW_law 844 [some (.ref a0), some (.ref c0), some (.ref m0), some (.ref (m0 + 7)), some (.int (nI i)), x5, x6, x7] [] h' R) : Ex (prog nb sa) k_LW_law 334 [some (.ref a0), some (.ref c0), some (.ref m0), some (.ref (m0 + 7)), some (.int (nI i)), x5, x6, x7] [] h R := by
  obtain ⟨hC, hM, hG, hA, ⟨gl, hO⟩, h8⟩ := id hI
  obtain ⟨kr, kt, hc⟩ := hC.cell
  obtain ⟨_, h1, e1, rfl, C1, b1, b2', b3, b4', fr, gl', ho1, hv⟩ := c_LW_number (nb := nb) (sa := sa) hC hO (by omega) (by omega) (g (nI (i + 1)).toNatClampNeg) (g (nI (i + 2)).toNatClampNeg)
  have M1 := hM.fo b1 b3 fr hm
  obtain ⟨O1, J1, nw1, a1, fl1, ms1, od1, oc1, hc1⟩ := M1.cell
  obtain ⟨_, h2, e2, rfl, M2, F2⟩ := c_MO_number (nb := nb) (sa := sa) M1 hG (g (nI (i + 1)).toNatClampNeg) (g (nI (i + 2)).toNatClampNeg)
  have e3 := c_MO_thrown (nb := nb) (sa := sa) M2
  obtain ⟨O2, J2, nw2, a2, fl2, ms2, od2, oc2, hc2⟩ := M2.cell
  have C2 := C1.fx F2 hm (by omega)
  have hA1 := (fr a0 (by omega) (by omega) (by omega)).trans hA
  have hA2 := (F2.1.2 a0 (by omega) (by omega)).trans hA1
  have ho2 := (F2.1.2 (m0 + 7) (by omega) (by omega)).trans ho1
  have p1 := F2.1.1.1
  have p2 := F2.1.1.2.1
  have p3 := F2.2.1
  have p4 := F2.2.2
  generalize hq : q_num (fA s.2.2.1 (g (nI (i + 1)).toNatClampNeg)) (g (nI (i + 2)).toNatClampNeg) = q at *
  have hq4 : q.1 < 5 := by
    rw [← hq]
    unfold q_num
    split
    · decide
    · split
      · decide
      · split
        · decide
        · split
          · exact Nat.succ_pos _
          · decide
  have fin := fun x5 x6 x7 => K h2 s q.1 x5 x6 x7 ⟨C2, M2, hG, hA2, ⟨gl', ho2⟩, by omega⟩ (by omega) (by omega) (by omega) (by omega)
  by_cases q0 : q.1 = 0
  · have hv0 := hv q0
    have e0 : gl' (nI 0).toNatClampNeg = q.2 := by rw [show (nI 0).toNatClampNeg = 0 from by decide]; exact hv0
    have el : lg_cmp q.2 q.2 = 0 := by rw [lg_c3, c3L_self]; rfl
    refine Ex_mv rfl rfl ?_; refine Ex_mv rfl rfl ?_; refine Ex_mv rfl rfl ?_; refine Ex_mv rfl rfl ?_; (first | refine Ex_addN rfl ?_ | refine Ex_mv rfl rfl ?_); refine Ex_iald rfl hA (vp_in_nI (by omega) (by omega)) ?_; refine Ex_mv rfl rfl ?_; refine Ex_mv rfl rfl ?_; refine Ex_mv rfl rfl ?_; (first | refine Ex_addN rfl ?_ | refine Ex_mv rfl rfl ?_); refine Ex_iald rfl hA (vp_in_nI (by omega) (by omega)) ?_; refine Ex_mv rfl rfl ?_; refine Ex_inv rfl (by rfl) (by rfl) (by rfl) (e1) ?_; refine Ex_mv rfl rfl ?_; refine Ex_mv rfl rfl ?_; refine Ex_mv rfl rfl ?_; refine Ex_mv rfl rfl ?_; refine Ex_mv rfl rfl ?_; (first | refine Ex_addN rfl ?_ | refine Ex_mv rfl rfl ?_); refine Ex_iald rfl hA1 (vp_in_nI (by omega) (by omega)) ?_; refine Ex_mv rfl rfl ?_; refine Ex_mv rfl rfl ?_; refine Ex_mv rfl rfl ?_; (first | refine Ex_addN rfl ?_ | refine Ex_mv rfl rfl ?_); refine Ex_iald rfl hA1 (vp_in_nI (by omega) (by omega)) ?_; refine Ex_invV rfl (by rfl) (by rfl) hc1 (by rfl) (e2) ?_; refine Ex_mv rfl rfl ?_; refine Ex_mv rfl rfl ?_; refine Ex_invV rfl (by rfl) (by rfl) hc2 (by rfl) (e3) ?_; refine Ex_mv rfl rfl ?_; refine Ex_mv rfl rfl ?_; refine Ex_ift rfl ?_; refine Ex_mv rfl rfl ?_; refine Ex_mv rfl rfl ?_; refine Ex_iff (by rw [q0]; exact not_not_intro rfl) ?_; refine Ex_mv rfl rfl ?_; refine Ex_mv rfl rfl ?_; refine Ex_lald rfl ho2 (vp_in_nI (by decide) (by decide)) ?_
    rw [e0]
    refine Ex_mv rfl rfl ?_; refine Ex_mv rfl rfl ?_
    rw [el]
    refine Ex_mv rfl rfl ?_; refine Ex_ift rfl ?_; refine Ex_mv rfl rfl ?_
    exact fin _ _ _
  · refine Ex_mv rfl rfl ?_; refine Ex_mv rfl rfl ?_; refine Ex_mv rfl rfl ?_; refine Ex_mv rfl rfl ?_; (first | refine Ex_addN rfl ?_ | refine Ex_mv rfl rfl ?_); refine Ex_iald rfl hA (vp_in_nI (by omega) (by omega)) ?_; refine Ex_mv rfl rfl ?_; refine Ex_mv rfl rfl ?_; refine Ex_mv rfl rfl ?_; (first | refine Ex_addN rfl ?_ | refine Ex_mv rfl rfl ?_); refine Ex_iald rfl hA (vp_in_nI (by omega) (by omega)) ?_; refine Ex_mv rfl rfl ?_; refine Ex_inv rfl (by rfl) (by rfl) (by rfl) (e1) ?_; refine Ex_mv rfl rfl ?_; refine Ex_mv rfl rfl ?_; refine Ex_mv rfl rfl ?_; refine Ex_mv rfl rfl ?_; refine Ex_mv rfl rfl ?_; (first | refine Ex_addN rfl ?_ | refine Ex_mv rfl rfl ?_); refine Ex_iald rfl hA1 (vp_in_nI (by omega) (by omega)) ?_; refine Ex_mv rfl rfl ?_; refine Ex_mv rfl rfl ?_; refine Ex_mv rfl rfl ?_; (first | refine Ex_addN rfl ?_ | refine Ex_mv rfl rfl ?_); refine Ex_iald rfl hA1 (vp_in_nI (by omega) (by omega)) ?_; refine Ex_invV rfl (by rfl) (by rfl) hc1 (by rfl) (e2) ?_; refine Ex_mv rfl rfl ?_; refine Ex_mv rfl rfl ?_; refine Ex_invV rfl (by rfl) (by rfl) hc2 (by rfl) (e3) ?_; refine Ex_mv rfl rfl ?_; refine Ex_mv rfl rfl ?_; refine Ex_ift rfl ?_; refine Ex_mv rfl rfl ?_; refine Ex_mv rfl rfl ?_; refine Ex_ift (nI_nz q0 (by omega)) ?_; refine Ex_mv rfl rfl ?_
    exact fin _ _ _
theorem n6_neg : ∀ n, n < 6 → nI n - nI 6 < 0 := by decide +kernel
theorem LW_loop (hac : a0 < c0) (hm : m0 = c0 + 131) (hn : n ≤ 3072) : ∀ (d i : Nat) (h : Hp) (s : Sg) (c : Nat) (x5 x6 x7 : Option Value), LIv nb sa a0 n w g c0 m0 h s c → i + 6 * d ≤ n → n < i + 6 * d + 6 → Ex (prog nb sa) k_LW_law 23 [some (.ref a0), some (.ref c0), some (.ref m0), some (.ref (m0 + 7)), some (.int (nI i)), x5, x6, x7] [] h (fun v h' => v = some (.int (nI 1)) ∧ h.1 ≤ h'.1 ∧ h'.1 ≤ h.1 + 701 * d ∧ h.2.1 ≤ h'.2.1 ∧ h'.2.1 ≤ h.2.1 + 4508 * d)
  | 0, i, h, s, c, x5, x6, x7, hI, hi, hi2 => by
    obtain ⟨hC, hM, hG, hA, hO, h8⟩ := id hI
    by_cases n6 : 6 ≤ n
    · refine Ex_mv rfl rfl ?_; refine Ex_mv rfl rfl ?_; refine Ex_alen rfl hA rfl ?_; refine Ex_mv rfl rfl ?_; (first | refine Ex_subN rfl (by omega) ?_ | refine Ex_mv rfl rfl ?_); refine Ex_mv rfl rfl ?_; refine Ex_ift (nI_lt (by omega) (by omega)) ?_; refine Ex_mv rfl rfl ?_
      refine Ex_rt rfl rfl ?_
      exact ⟨rfl, Nat.le_refl _, by omega, Nat.le_refl _, by omega⟩
    · refine Ex_mv rfl rfl ?_; refine Ex_mv rfl rfl ?_; refine Ex_alen rfl hA rfl ?_; refine Ex_mv rfl rfl ?_; refine Ex_mv rfl rfl ?_; refine Ex_mv rfl rfl ?_
      refine Ex_ift (Int32.lt_of_lt_of_le (n6_neg n (by omega)) (nI_pos' (by omega))) ?_
      refine Ex_mv rfl rfl ?_
      exact Ex_rt rfl rfl ⟨rfl, Nat.le_refl _, by omega, Nat.le_refl _, by omega⟩
  | d + 1, i, h, s, c, x5, x6, x7, hI, hi, hi2 => by
    obtain ⟨hC, hM, hG, hA, hO, h8⟩ := id hI
    have K : ∀ (h' : Hp) (s' : Sg) (c' : Nat) (x5 x6 x7 : Option Value), LIv nb sa a0 n w g c0 m0 h' s' c' → h.1 ≤ h'.1 → h'.1 ≤ h.1 + 701 → h.2.1 ≤ h'.2.1 → h'.2.1 ≤ h.2.1 + 4508 → Ex (prog nb sa) k_LW_law 844 [some (.ref a0), some (.ref c0), some (.ref m0), some (.ref (m0 + 7)), some (.int (nI i)), x5, x6, x7] [] h' (fun v h' => v = some (.int (nI 1)) ∧ h.1 ≤ h'.1 ∧ h'.1 ≤ h.1 + 701 * (d + 1) ∧ h.2.1 ≤ h'.2.1 ∧ h'.2.1 ≤ h.2.1 + 4508 * (d + 1)) := by
      intro h' s' c' x5 x6 x7 I' b1 b2 b3 b4
      have ih := LW_loop hac hm hn d (i + 6) h' s' c' x5 x6 x7 I' (by omega) (by omega)
      refine Ex_incN rfl rfl ?_; refine Ex_mv rfl rfl ?_
      exact Ex_mono ih (fun v h2 z => ⟨z.1, by omega, by omega, by omega, by omega⟩)
    have hi6 : i + 6 ≤ n := by omega
    refine Ex_mv rfl rfl ?_; refine Ex_mv rfl rfl ?_; refine Ex_alen rfl hA rfl ?_; refine Ex_mv rfl rfl ?_; refine Ex_subN rfl (by omega) ?_; refine Ex_mv rfl rfl ?_
    refine Ex_iff (nI_nlt (by omega) (by omega)) ?_
    refine Ex_mv rfl rfl ?_; refine Ex_mv rfl rfl ?_; refine Ex_iald rfl hA (vp_in_nI (by omega) (by omega)) ?_; refine Ex_mv rfl rfl ?_; refine Ex_iand rfl ?_; refine Ex_mv rfl rfl ?_
    refine Ex_sw (fun _ => LC_feed hI hac hm hn hi6 K) (fun _ => ?_)
    refine Ex_sw (fun _ => LC_read hI hac hm hn hi6 K) (fun _ => ?_)
    refine Ex_sw (fun _ => LC_place hI hac hm hn hi6 K) (fun _ => ?_)
    refine Ex_sw (fun _ => LC_drop hI hac hm hn hi6 K) (fun _ => ?_)
    refine Ex_sw (fun _ => LC_file hI hac hm hn hi6 K) (fun _ => ?_)
    refine Ex_sw (fun _ => LC_entry hI hac hm hn hi6 K) (fun _ => ?_)
    refine Ex_sw (fun _ => LC_number hI hac hm hn hi6 K) (fun _ => ?_)
    refine Ex_sw (fun _ => LC_text hI hac hm hn hi6 K) (fun _ => ?_)
    refine Ex_sw (fun _ => LC_member hI hac hm hn hi6 K) (fun _ => ?_)
    refine Ex_sw (fun _ => LC_told hI hac hm hn hi6 K) (fun _ => ?_)
    refine Ex_sw (fun _ => LC_attribute hI hac hm hn hi6 K) (fun _ => ?_)
    refine Ex_sw (fun _ => LC_out hI hac hm hn hi6 K) (fun _ => ?_)
    refine Ex_sw (fun _ => LC_join hI hac hm hn hi6 K) (fun _ => ?_)
    refine Ex_sw (fun _ => LC_joined hI hac hm hn hi6 K) (fun _ => ?_)
    refine Ex_sw (fun _ => LC_meaning hI hac hm hn hi6 K) (fun _ => ?_)
    refine Ex_sw (fun _ => LC_alike hI hac hm hn hi6 K) (fun _ => ?_)
    refine Ex_sw (fun _ => LC_write hI hac hm hn hi6 K) (fun _ => ?_)
    refine Ex_sw (fun _ => LC_back hI hac hm hn hi6 K) (fun _ => ?_)
    refine Ex_sw0 ?_
    exact K h s c _ _ _ hI (Nat.le_refl _) (by omega) (Nat.le_refl _) (by omega)
theorem c_LW_law {h : Hp} (hA : h.2.2 a0 = some (w, .inl (1, n, .inl g))) (hn : n ≤ 3072) (ha : a0 < h.1) (hnb : BA h nb []) (hnb1 : nb < h.1) (hsa : ∃ w sv r w' g, h.2.2 sa = some (w, .inr (12, .ref sv :: .int (nI 0) :: r)) ∧ h.2.2 sv = some (w', .inl (0, 8, .inl g)) ∧ (∀ j, j < 8 → g j = nI (LB j)) ∧ sa < h.1 ∧ sv < h.1) : EvQ (prog nb sa) m_LW_law [.ref a0] h (fun v h' => v = some (.int (nI 1)) ∧ h.1 ≤ h'.1 ∧ h'.1 ≤ h.1 + 359051 ∧ h.2.1 ≤ h'.2.1 ∧ h'.2.1 ≤ h.2.1 + 2321655) := by
  obtain ⟨_, h1, e1, rfl, C1, F1⟩ := c_CP_init (nb := nb) (sa := sa) (h := hnew h 8 (.inr (6, [.null, .null, .null, .int 0, .int 0, .null, .null, .null]))) (c0 := h.1) hn_at rfl
  have s1 : h1.1 = h.1 + 131 := by rw [F1.1]; show h.1 + 1 + 130 = _; omega
  have s2 : h1.2.1 = h.2.1 + 12574 := by rw [F1.2.1]; show h.2.1 + 8 + 12566 = _; omega
  have s3 : ∀ q, q < h.1 → h1.2.2 q = h.2.2 q := fun q hq => (F1.2.2 q (show q < h.1 + 1 by omega) (by omega)).trans (if_neg (by omega))
  obtain ⟨_, h2, e2, rfl, y1, y2, y3, y4, y5, y6, y7, y8, y9, y10⟩ := c_MO_init (nb := nb) (sa := sa) (h := hnew h1 17 (.inr (11, [.int 0, .null, .int 0, .null, .int 0, .null, .null, .int 0, .int 0, .int 0, .null, .int 0, .null, .int 0, .null, .int 0, .null]))) (m0 := h1.1) hn_at rfl
  have y3' : ∀ q, q < h1.1 → h2.2.2 q = h1.2.2 q := fun q hq => (y3 q hq).trans (if_neg (by omega))
  have y2' : h2.2.1 = h.2.1 + 13557 := by rw [y2]; show h1.2.1 + 17 + 966 = _; omega
  generalize hm : h1.1 = m0 at *
  have z1 : ∀ q, q ≠ h2.1 → (hnew h2 (nI 1).toNatClampNeg (.inl (2, (nI 1).toNatClampNeg, .inr (.inl (fun _ => 0))))).2.2 q = h2.2.2 q := fun q hq => if_neg hq
  let h3 : Hp := hnew h2 (nI 1).toNatClampNeg (.inl (2, (nI 1).toNatClampNeg, .inr (.inl (fun _ => 0))))
  have hh3 : h3.1 = m0 + 8 := by show h2.1 + 1 = _; omega
  have hs3 : h3.2.1 = h.2.1 + 13558 := by show h2.2.1 + 1 = _; omega
  have o3 : ∀ q, q < m0 + 7 → h3.2.2 q = h2.2.2 q := fun q hq => z1 q (by omega)
  have old : ∀ q, q < h.1 → h3.2.2 q = h.2.2 q := fun q hq => (o3 q (by omega)).trans ((y3' q (by omega)).trans (s3 q hq))
  have okl : ∀ q, q < h.1 → okA (muM m0) h3 q := fun q hq => ⟨by omega, fun z => by simp only [muM] at z; omega⟩
  have C3 : CPs h3 h.1 ([], [], [], -1, []) := C1.eq (fun q q1 q2 => (o3 q (by omega)).trans (y3' q (by omega)))
  have M3 : MOs h3 m0 nb sa ([], [], [], -1, []) 0 := by
    refine ⟨m0 + 3, m0 + 4, .null, 0, 0, 0, .null, 0, (o3 m0 (by omega)).trans y4, ⟨_, (o3 _ (by omega)).trans y5, fun i z hz => by simp at hz⟩, ⟨_, (o3 _ (by omega)).trans y6, fun j hj => absurd hj (Nat.not_lt_zero _)⟩, ⟨⟨true, _, (o3 _ (by omega)).trans y7, fun j hj => absurd hj (Nat.not_lt_zero _), fun x hx => (by cases hx), Nat.zero_le _⟩, by omega, fun z => by simp only [muM] at z; omega⟩, ⟨0, _, (o3 _ (by omega)).trans y8, ⟨by omega, fun z => by simp only [muM] at z; omega⟩, Nat.le_refl _, by decide, fun j m hj => by simp at hj⟩, ⟨_, (o3 _ (by omega)).trans y9⟩, ⟨_, (o3 _ (by omega)).trans y10⟩, by omega, ?_, ?_⟩
    · exact ⟨hnb.eq (old nb hnb1), okl nb hnb1⟩
    · obtain ⟨w1, sv, r, w', gs, q1, q2, q3, q4, q5⟩ := hsa
      exact ⟨w1, sv, r, w', gs, (old sa q4).trans q1, (old sv q5).trans q2, q3, okl sa q4, okl sv q5⟩
  have G3 : SgG (([], [], [], -1, []) : Sg) := SgG.of C3 (fun z hz => by cases hz) trivial (fun m hm => by cases hm) (Nat.zero_le _)
  have I3 : LIv nb sa a0 n w g h.1 m0 h3 ([], [], [], -1, []) 0 := ⟨C3, M3, G3, (old a0 ha).trans hA, ⟨fun _ => 0, by
    show (hnew h2 _ _).2.2 (m0 + 7) = _
    rw [← y1]; exact if_pos rfl⟩, by omega⟩
  have lp := LW_loop (nb := nb) (sa := sa) (a0 := a0) (n := n) (w := w) (g := g) (c0 := h.1) (m0 := m0) ha (by omega) hn (n / 6) 0 h3 _ 0 none none none I3 (by omega) (by omega)
  have hd : n / 6 ≤ 512 := by omega
  refine EvQ_of k_LW_law 8 [some (.ref a0), none, none, none, none, none, none, none] rfl (Nat.le_of_ble_eq_true rfl) rfl ?_
  refine Ex_new rfl ?_; refine Ex_mv rfl rfl ?_; refine Ex_invI rfl (by rfl) (by rfl) (by rfl) e1 ?_; refine Ex_mv rfl rfl ?_
  refine Ex_new rfl ?_; refine Ex_mv rfl rfl ?_
  rw [hm]
  refine Ex_invI rfl (by rfl) (by rfl) (by rfl) e2 ?_; refine Ex_mv rfl rfl ?_
  refine Ex_mv rfl rfl ?_; refine Ex_newl rfl (vin (by decide)) ?_
  rw [y1]
  refine Ex_mv rfl rfl ?_; refine Ex_mv rfl rfl ?_; refine Ex_mv rfl rfl ?_
  refine Ex_mono lp (fun v h' z => ⟨z.1, ?_, ?_, ?_, ?_⟩)
  · have := z.2.1; omega
  · have := z.2.2.1; omega
  · have := z.2.2.2.1; omega
  · have := z.2.2.2.2; omega
end LAWC
