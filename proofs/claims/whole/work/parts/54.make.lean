/-! how objects are made -/
def FN (a : Nat) (h h' : Hp) (m sl : Nat) : Prop := h'.1 = h.1 + m ∧ h'.2.1 = h.2.1 + sl ∧ ∀ q, q < h.1 → q ≠ a → h'.2.2 q = h.2.2 q
theorem hn_at {h : Hp} {k : Nat} {c : Ce} : (hnew h k c).2.2 h.1 = some (true, c) := if_pos rfl
theorem hn_ne {h : Hp} {k q : Nat} {c : Ce} {x : Option (Bool × Ce)} (hq : q ≠ h.1) (hx : h.2.2 q = x) : (hnew h k c).2.2 q = x := (if_neg hq).trans hx
theorem vin {k : Nat} (h : k < 100000) : vp_in (nI k) 100000 := vp_in_nI h (by omega)
section INIT
variable {nb sa : Nat}
theorem c_RW_init {h : Hp} {a : Nat} {z0 z1 : Value} (hA : h.2.2 a = some (true, .inr (4, [z0, z1]))) (ha : h.1 = a + 1) : EvQ (prog nb sa) m_RW_init [.ref a] h (fun v h' => v = none ∧ RW h' a [] ∧ FN a h h' 1 400) := by
  have h2 : (hnew h (nI 400).toNatClampNeg (.inl (0, (nI 400).toNatClampNeg, .inl (fun _ => 0)))).2.2 a = _ := hn_ne (by omega) hA
  refine EvQ_of k_RW_init 1 [some (.ref a)] rfl (Nat.le_of_ble_eq_true rfl) rfl ?_
  refine Ex_mv rfl rfl ?_; refine Ex_mv rfl rfl ?_; refine Ex_mv rfl rfl ?_; refine Ex_mv rfl rfl ?_; refine Ex_newi rfl (vin (by decide)) ?_; refine Ex_putf rfl h2 rfl rfl ?_; refine Ex_mv rfl rfl ?_; refine Ex_mv rfl rfl ?_; refine Ex_putf rfl hs_at rfl rfl ?_
  refine Ex_rt rfl rfl ?_
  refine ⟨rfl, ⟨fun _ => 0, ?_, ?_, by simp, by simp, by simp⟩, rfl, rfl, fun q q1 q2 => (if_neg q2).trans ((if_neg q2).trans (if_neg (by omega)))⟩
  · show (hset _ a _).2.2 a = _
    rw [hs_at]
    show some (true, Sum.inr (4, [Value.ref h.1, _])) = _
    rw [ha]; rfl
  · refine hs_ne (by omega) (hs_ne (by omega) ?_)
    rw [show a + 1 = h.1 from ha.symm]; exact if_pos rfl
theorem c_PL_init {h : Hp} {a : Nat} {z0 z1 z2 : Value} (hA : h.2.2 a = some (true, .inr (1, [z0, z1, z2]))) (ha : h.1 = a + 1) : EvQ (prog nb sa) m_PL_init [.ref a] h (fun v h' => v = none ∧ PO h' a [] (fun _ => 0) 0 ∧ FN a h h' 3 463) := by
  obtain ⟨_, h1, e1, rfl, R1, F1⟩ := c_RW_init (nb := nb) (sa := sa) (h := hnew h 2 (.inr (4, [.null, .int 0]))) (a := h.1) hn_at rfl
  have hA1 : h1.2.2 a = _ := (F1.2.2 a (show a < h.1 + 1 by omega) (by omega)).trans (hn_ne (by omega) hA)
  have hs1 : h1.1 = a + 3 := by rw [F1.1]; show h.1 + 1 + 1 = _; omega
  have hA2 : ∀ x k c, (hnew (hset h1 a x) k c).2.2 a = _ := fun x k c => hn_ne (show a ≠ h1.1 by omega) hs_at
  have G : ∀ x y z u w q, q ≠ a → q ≠ a + 3 → (hset (hset (hnew (hset h1 a x) u y) a z) a w).2.2 q = h1.2.2 q := fun x y z u w q q1 q2 => (if_neg q1).trans ((if_neg q1).trans ((if_neg (show q ≠ h1.1 by omega)).trans (if_neg q1)))
  rw [show h.1 = a + 1 from ha] at R1
  refine EvQ_of k_PL_init 1 [some (.ref a)] rfl (Nat.le_of_ble_eq_true rfl) rfl ?_
  refine Ex_mv rfl rfl ?_; refine Ex_mv rfl rfl ?_; refine Ex_mv rfl rfl ?_; refine Ex_new rfl ?_; refine Ex_mv rfl rfl ?_; refine Ex_invI rfl (by rfl) (by rfl) (by rfl) (e1) ?_; refine Ex_putf rfl hA1 rfl rfl ?_; refine Ex_mv rfl rfl ?_; refine Ex_mv rfl rfl ?_; refine Ex_newi rfl (vin (by decide)) ?_; refine Ex_putf rfl (hA2 _ _ _) rfl rfl ?_; refine Ex_mv rfl rfl ?_; refine Ex_mv rfl rfl ?_; refine Ex_putf rfl hs_at rfl rfl ?_
  refine Ex_rt rfl rfl ?_
  refine ⟨rfl, ⟨?_, R1.eq (fun q q1 q2 => G _ _ _ _ _ q (by omega) (by omega)), ⟨fun _ => 0, ?_, fun _ _ => rfl⟩, by omega, fun _ => Nat.zero_le _⟩, ?_, ?_, fun q q1 q2 => ?_⟩
  · rw [hs_at]
    show some (true, Sum.inr (1, [Value.ref h.1, Value.ref h1.1, _])) = _
    rw [ha, hs1]
  · refine hs_ne (by omega) (hs_ne (by omega) ?_)
    rw [show a + 3 = h1.1 from hs1.symm]
    exact if_pos rfl
  · show h1.1 + 1 = _; rw [F1.1]; rfl
  · show h1.2.1 + 61 = _; rw [F1.2.1]; rfl
  · rw [G _ _ _ _ _ q q2 (by omega), F1.2.2 q (show q < h.1 + 1 by omega) (by omega)]; exact if_neg (by omega)
theorem Ex_mna {P : Pg} {cd : Cd} {pc nx : Nat} {ls : Ls} {st : List Value} {h : Hp} {R : Option Value → Hp → Prop} (hc : cd pc = some (o_mna nx)) (kk : Ex P cd nx ls (.ref h.1 :: st) (hrow 12 (hrow 12 (hnew h 2 (.inl (3, 2, .inr (.inr (.inr (.inr (fun i => if i < 2 then some (h.1 + 1 + i) else none))))))))) R) : Ex P cd pc ls (.int (nI 12) :: .int (nI 2) :: st) h R := Ex_go hc rfl (by simp [hle, hrow, hnew]; omega) kk
theorem c_WR_init {h : Hp} {a : Nat} {z0 z1 : Value} (hA : h.2.2 a = some (true, .inr (5, [z0, z1]))) (ha : h.1 = a + 1) : EvQ (prog nb sa) m_WR_init [.ref a] h (fun v h' => v = none ∧ (∃ f g, WR h' a f g) ∧ FN a h h' 2 122) := by
  have h1 : ∀ k c, (hnew h k c).2.2 a = _ := fun k c => hn_ne (by omega) hA
  have h2 : ∀ k c x k2 c2, (hnew (hset (hnew h k c) a x) k2 c2).2.2 a = _ := fun k c x k2 c2 => hn_ne (show a ≠ h.1 + 1 by omega) hs_at
  refine EvQ_of k_WR_init 1 [some (.ref a)] rfl (Nat.le_of_ble_eq_true rfl) rfl ?_
  refine Ex_mv rfl rfl ?_; refine Ex_mv rfl rfl ?_; refine Ex_mv rfl rfl ?_; refine Ex_mv rfl rfl ?_; refine Ex_newi rfl (vin (by decide)) ?_; refine Ex_putf rfl (h1 _ _) rfl rfl ?_; refine Ex_mv rfl rfl ?_; refine Ex_mv rfl rfl ?_; refine Ex_newi rfl (vin (by decide)) ?_; refine Ex_putf rfl (h2 _ _ _ _ _) rfl rfl ?_
  refine Ex_rt rfl rfl ?_
  refine ⟨rfl, ⟨fun _ => 0, fun _ => 0, ?_, ?_, ?_⟩, rfl, rfl, fun q q1 q2 => (if_neg q2).trans ((if_neg (show q ≠ h.1 + 1 by omega)).trans ((if_neg q2).trans (if_neg (by omega))))⟩
  · rw [hs_at]
    show some (true, Sum.inr (5, [Value.ref h.1, Value.ref (h.1 + 1)])) = _
    rw [ha]
  · refine hs_ne (by omega) (hn_ne (show a + 1 ≠ h.1 + 1 by omega) (hs_ne (by omega) ?_))
    rw [show a + 1 = h.1 from ha.symm]; exact if_pos rfl
  · refine hs_ne (by omega) ?_
    rw [show a + 2 = h.1 + 1 by omega]; exact if_pos rfl
theorem c_CF_init {h : Hp} {c : Nat} {z0 z1 z2 z3 z4 z5 z6 z7 z8 : Value} (hA : h.2.2 c = some (true, .inr (0, [z0, z1, z2, z3, z4, z5, z6, z7, z8]))) (ha : h.1 = c + 1) : EvQ (prog nb sa) m_CF_init [.ref c] h (fun v h' => v = none ∧ CFs h' c [] x00 ∧ FN c h h' 10 894) := by
  obtain ⟨_, h1, e1, rfl, P1, F1⟩ := c_PL_init (nb := nb) (sa := sa) (h := hnew h 3 (.inr (1, [.null, .null, .int 0]))) (a := h.1) hn_at rfl
  have hA1 : h1.2.2 c = _ := (F1.2.2 c (show c < h.1 + 1 by omega) (by omega)).trans (hn_ne (by omega) hA)
  have hs1 : h1.1 = c + 5 := by rw [F1.1]; show h.1 + 1 + 3 = _; omega
  rw [ha] at P1
  have hp0 : h1.2.2 h.1 = some (true, .inr (1, [.ref (c + 1 + 1), .ref (c + 1 + 3), .int (nI 0)])) := by rw [ha]; exact P1.1
  have hp1 : ∀ x, (hset h1 c x).2.2 h.1 = _ := fun x => hs_ne (by omega) hp0
  refine EvQ_of k_CF_init 1 [some (.ref c)] rfl (Nat.le_of_ble_eq_true rfl) rfl ?_
  refine Ex_mv rfl rfl ?_; refine Ex_mv rfl rfl ?_; refine Ex_mv rfl rfl ?_; refine Ex_new rfl ?_; refine Ex_mv rfl rfl ?_; refine Ex_invI rfl (by rfl) (by rfl) (by rfl) (e1) ?_; refine Ex_putf rfl hA1 rfl rfl ?_; refine Ex_mv rfl rfl ?_; refine Ex_mv rfl rfl ?_; refine Ex_getf rfl hs_at rfl ?_; refine Ex_getf rfl (hp1 _) rfl ?_; refine Ex_putf rfl hs_at rfl rfl ?_; refine Ex_mv rfl rfl ?_; refine Ex_mv rfl rfl ?_; refine Ex_putf rfl hs_at rfl rfl ?_; refine Ex_mv rfl rfl ?_; refine Ex_mv rfl rfl ?_; refine Ex_putf rfl hs_at rfl rfl ?_; refine Ex_mv rfl rfl ?_; refine Ex_mv rfl rfl ?_; refine Ex_mv rfl rfl ?_
  refine Ex_mna rfl ?_
  generalize hg : hset (hset (hset (hset h1 c _) c _) c _) c _ = h2
  have g1 : h2.1 = c + 5 := by rw [← hg]; exact hs1
  have g2 : h2.2.1 = h1.2.1 := by rw [← hg]; rfl
  have g3 : h2.2.2 c = some (true, .inr (0, [.ref h.1, .ref (c + 1 + 1), .int (nI 0), .int (nI 0), z4, z5, z6, z7, z8])) := by rw [← hg]; exact hs_at
  have g4 : ∀ q, q ≠ c → h2.2.2 q = h1.2.2 q := fun q hq => by rw [← hg]; exact (if_neg hq).trans ((if_neg hq).trans ((if_neg hq).trans (if_neg hq)))
  generalize hg3 : hrow 12 (hrow 12 (hnew h2 2 _)) = h3
  have k1 : h3.1 = c + 8 := by rw [← hg3]; show h2.1 + 1 + 1 + 1 = _; omega
  have k2 : h3.2.1 = h1.2.1 + 26 := by rw [← hg3]; show h2.2.1 + 2 + 12 + 12 = _; omega
  have k3 : h3.2.2 c = some (true, .inr (0, [.ref h.1, .ref (c + 1 + 1), .int (nI 0), .int (nI 0), z4, z5, z6, z7, z8])) := by rw [← hg3]; exact hn_ne (show c ≠ h2.1 + 1 + 1 by omega) (hn_ne (show c ≠ h2.1 + 1 by omega) (hn_ne (by omega) g3))
  have k5 : h3.2.2 (c + 5) = some (true, .inl (3, 2, .inr (.inr (.inr (.inr (fun i => if i < 2 then some (c + 5 + 1 + i) else none)))))) := by
    rw [← hg3]
    refine hn_ne (show c + 5 ≠ h2.1 + 1 + 1 by omega) (hn_ne (show c + 5 ≠ h2.1 + 1 by omega) ?_)
    rw [← g1]; exact if_pos rfl
  have k6 : h3.2.2 (c + 6) = some (true, .inl (1, 12, .inl (fun _ => 0))) := by
    rw [← hg3]
    refine hn_ne (show c + 6 ≠ h2.1 + 1 + 1 by omega) ?_
    rw [show c + 6 = h2.1 + 1 by omega]; exact if_pos rfl
  have k7 : h3.2.2 (c + 7) = some (true, .inl (1, 12, .inl (fun _ => 0))) := by
    rw [← hg3, show c + 7 = h2.1 + 1 + 1 by omega]; exact if_pos rfl
  have k4 : ∀ q, q < c + 5 → q ≠ c → h3.2.2 q = h1.2.2 q := fun q q1 q2 => by
    rw [← g4 q q2, ← hg3]; exact hn_ne (show q ≠ h2.1 + 1 + 1 by omega) (hn_ne (show q ≠ h2.1 + 1 by omega) (hn_ne (by omega) rfl))
  rw [g1]
  clear hg hg3 g1 g2 g3 g4
  have n1 : ∀ k y x, (hset h3 c x).1 = c + 8 ∧ (hnew (hset h3 c x) k y).2.2 c = some (true, x) := fun k y x => ⟨k1, hn_ne (show c ≠ h3.1 by omega) hs_at⟩
  have n2 : ∀ k y x k' y' x', (hnew (hset (hnew (hset h3 c x) k y) c x') k' y').2.2 c = some (true, x') := fun k y x k' y' x' => hn_ne (show c ≠ h3.1 + 1 by omega) hs_at
  have n3 : ∀ k y x k' y' x' k2 y2 x2, (hnew (hset (hnew (hset (hnew (hset h3 c x) k y) c x') k' y') c x2) k2 y2).2.2 c = some (true, x2) := fun k y x k' y' x' k2 y2 x2 => hn_ne (show c ≠ h3.1 + 1 + 1 by omega) hs_at
  refine Ex_putf rfl k3 rfl rfl ?_
  refine Ex_mv rfl rfl ?_; refine Ex_mv rfl rfl ?_; refine Ex_newi rfl (vin (by decide)) ?_; refine Ex_putf rfl (n1 _ _ _).2 rfl rfl ?_
  refine Ex_mv rfl rfl ?_; refine Ex_mv rfl rfl ?_; refine Ex_newi rfl (vin (by decide)) ?_; refine Ex_putf rfl (n2 _ _ _ _ _ _) rfl rfl ?_
  refine Ex_mv rfl rfl ?_; refine Ex_mv rfl rfl ?_; refine Ex_newi rfl (vin (by decide)) ?_; refine Ex_putf rfl (n3 _ _ _ _ _ _ _ _ _) rfl rfl ?_
  refine Ex_mv rfl rfl ?_; refine Ex_mv rfl rfl ?_; refine Ex_putf rfl hs_at rfl rfl ?_
  have G : ∀ x k y x1 k' y' x2 k2 y2 x3 x4 q, q ≠ c → q < c + 8 → (hset (hset (hnew (hset (hnew (hset (hnew (hset h3 c x) k y) c x1) k' y') c x2) k2 y2) c x3) c x4).2.2 q = h3.2.2 q := fun x k y x1 k' y' x2 k2 y2 x3 x4 q q1 q2 => (if_neg q1).trans ((if_neg q1).trans ((if_neg (show q ≠ h3.1 + 1 + 1 by omega)).trans ((if_neg q1).trans ((if_neg (show q ≠ h3.1 + 1 by omega)).trans ((if_neg q1).trans ((if_neg (show q ≠ h3.1 by omega)).trans (if_neg q1)))))))
  refine Ex_rt rfl rfl ⟨rfl, ⟨?_, P1.eq (fun q q1 q2 => (G _ _ _ _ _ _ _ _ _ _ _ q (by omega) (by omega)).trans (k4 q (by omega) (by omega))), (G _ _ _ _ _ _ _ _ _ _ _ _ (by omega) (by omega)).trans k5, ⟨_, (G _ _ _ _ _ _ _ _ _ _ _ _ (by omega) (by omega)).trans k6, by simp [x00]⟩, ⟨_, (G _ _ _ _ _ _ _ _ _ _ _ _ (by omega) (by omega)).trans k7, by simp [x00]⟩, ⟨fun _ => 0, ?_, ?_⟩, ⟨fun _ => 0, ?_, by simp [x00]⟩, ⟨fun _ => 0, ?_, by simp [x00]⟩, by simp [x00], by simp [x00], by simp [x00], by simp [x00], by simp [x00], by simp [x00], by simp [x00], by simp [x00]⟩, ?_, ?_, fun q q1 q2 => ?_⟩
  · rw [hs_at]
    show some (true, Sum.inr (0, [Value.ref h.1, Value.ref (c + 1 + 1), Value.int (nI 0), Value.int (nI 0), Value.ref (c + 5), Value.ref h3.1, Value.ref (h3.1 + 1), Value.ref (h3.1 + 1 + 1), Value.int (nI 0)])) = _
    rw [ha, k1]; rfl
  · refine hs_ne (by omega) (hs_ne (by omega) (hn_ne (show c + 8 ≠ h3.1 + 1 + 1 by omega) (hs_ne (by omega) (hn_ne (show c + 8 ≠ h3.1 + 1 by omega) (hs_ne (by omega) ?_)))))
    rw [show c + 8 = h3.1 from k1.symm]; exact if_pos rfl
  · intro j hj
    have : j = 0 ∨ j = 1 := by simp [x00] at hj; omega
    rcases this with rfl | rfl <;> rfl
  · refine hs_ne (by omega) (hs_ne (by omega) (hn_ne (show c + 9 ≠ h3.1 + 1 + 1 by omega) (hs_ne (by omega) ?_)))
    rw [show c + 9 = h3.1 + 1 by omega]; exact if_pos rfl
  · refine hs_ne (by omega) (hs_ne (by omega) ?_)
    rw [show c + 10 = h3.1 + 1 + 1 by omega]; exact if_pos rfl
  · show h3.1 + 1 + 1 + 1 = _; omega
  · show h3.2.1 + 2 + 200 + 200 = _; rw [k2, F1.2.1]; show h.2.1 + 3 + 463 + 26 + 2 + 200 + 200 = _; omega
  · rw [G _ _ _ _ _ _ _ _ _ _ _ q q2 (by omega), k4 q (by omega) q2, F1.2.2 q (show q < h.1 + 1 by omega) (by omega)]; exact if_neg (by omega)
end INIT
