/-! Pool: its changes -/
section POOL2
variable {nb sa : Nat} {h : Hp} {p n : Nat} {B : List Nat} {S : Nat → Nat}
theorem PO.row (hP : PO h p B S n) : RW h (p + 1) B := hP.2.1
theorem c_PL_begin (hP : PO h p B S n) {m : Nat} (hm : m ≤ 61) : EvQ (prog nb sa) m_PL_begin [.ref p, .int (nI m)] h (fun v h' => v = none ∧ PO h' p B (fun _ => 0) m ∧ FrI p (p + 4) h h') := by
  obtain ⟨hp, hR, ⟨g, hg, hgS⟩, hn, hS⟩ := id hP
  obtain ⟨_, h1, e1, rfl, ⟨g1, hg1, hz⟩, F1⟩ := c_JA_fill (nb := nb) (sa := sa) (x := nI 0) (by decide) hg
  have hp1 := F1.at hp (by omega)
  refine EvQ_of k_PL_begin 2 [some (.ref p), some (.int (nI m))] rfl (Nat.le_of_ble_eq_true rfl) rfl ?_
  refine Ex_mv rfl rfl ?_; refine Ex_getf rfl (by assumption) rfl ?_; refine Ex_mv rfl rfl ?_; refine Ex_inv rfl (by rfl) (by rfl) (by rfl) (e1) ?_; refine Ex_mv rfl rfl ?_; refine Ex_mv rfl rfl ?_; refine Ex_putf rfl (by assumption) rfl rfl ?_
  refine Ex_rt rfl rfl ?_
  exact ⟨rfl, ⟨hs_at, (hR.fr F1 (by omega)).fr (FrI.set (lo := p) (hi := p + 1) FrI.rf (by omega) (by omega)) (by omega), ⟨g1, hs_ne (by omega) hg1, hz⟩, hm, fun _ => Nat.zero_le _⟩, ((F1.wd (lo' := p) (hi' := p + 4) (by omega) (by omega))).set (by omega) (by omega)⟩
/-- one more start -/
def upS (S : Nat → Nat) (i a : Nat) : Nat → Nat := fun j => if j = i then a else S j
theorem c_PL_set (hP : PO h p B S n) {i a : Nat} (hi : i < n) (ha : a ≤ 400) : EvQ (prog nb sa) m_PL_set [.ref p, .int (nI i), .int (nI a)] h (fun v h' => v = none ∧ PO h' p B (upS S i a) n ∧ FrI p (p + 4) h h') := by
  obtain ⟨hp, hR, ⟨g, hg, hgS⟩, hn, hS⟩ := id hP
  refine EvQ_of k_PL_set 3 [some (.ref p), some (.int (nI i)), some (.int (nI a))] rfl (Nat.le_of_ble_eq_true rfl) rfl ?_
  refine Ex_mv rfl rfl ?_; refine Ex_mv rfl rfl ?_; refine Ex_invV rfl (by rfl) (by rfl) (by assumption) (by rfl) (c_PL_has hP (by omega)) ?_
  rw [if_pos hi]
  refine Ex_mv rfl rfl ?_; refine Ex_iff (by decide) ?_; refine Ex_mv rfl rfl ?_; refine Ex_getf rfl (by assumption) rfl ?_; refine Ex_mv rfl rfl ?_; refine Ex_mv rfl rfl ?_; refine Ex_iast rfl (by assumption) (vp_in_nI (by omega) (by decide)) ?_
  refine Ex_rt rfl rfl ?_
  refine ⟨rfl, ⟨hs_ne (by omega) hp, hR.fr (FrI.set (lo := p + 3) (hi := p + 4) FrI.rf (by omega) (by omega)) (by omega), ⟨_, hs_at, fun j hj => ?_⟩, hn, fun j => ?_⟩, FrI.rf.set (by omega) (by omega)⟩
  · rw [nI_clamp (by omega)]
    by_cases e : j = i
    · simp [upd, upS, e]
    · simp [upd, upS, e, hgS j hj]
  · unfold upS; split
    · exact ha
    · exact hS j
theorem c_PL_copy {q n' : Nat} {B' : List Nat} {S' : Nat → Nat} (hP : PO h p B S n) (hQ : PO h q B' S' n') (hd : q + 4 ≤ p ∨ p + 4 ≤ q) : EvQ (prog nb sa) m_PL_copy [.ref p, .ref q] h (fun v h' => v = none ∧ PO h' p B' S' n' ∧ FrI p (p + 4) h h') := by
  obtain ⟨hp, hR, ⟨g, hg, hgS⟩, hn, hS⟩ := id hP
  obtain ⟨hq, hR', ⟨g', hg', hgS'⟩, hn', hS'⟩ := id hQ
  obtain ⟨f, hr, ha, hB⟩ := id hR
  obtain ⟨f', hr', ha', hB'⟩ := id hR'
  obtain ⟨_, h1, e1, rfl, R1, F1⟩ := c_RW_take (nb := nb) (sa := sa) hR hR' (by omega) (k := 0) (n := B'.length) (by omega)
  rw [show sl B' 0 B'.length = B' by simp [sl]] at R1
  have hp1 := F1.at hp (by omega)
  have hq1 := F1.at hq (by omega)
  have hg1 := F1.at hg (by omega)
  have hgq := F1.at hg' (by omega)
  have hp2 : ∀ c, (hset h1 (p + 3) c).2.2 p = _ := fun c => hs_ne (by omega) hp1
  have hq2 : ∀ c, (hset h1 (p + 3) c).2.2 q = _ := fun c => hs_ne (by omega) hq1
  refine EvQ_of k_PL_copy 2 [some (.ref p), some (.ref q)] rfl (Nat.le_of_ble_eq_true rfl) rfl ?_
  refine Ex_mv rfl rfl ?_; refine Ex_getf rfl (by assumption) rfl ?_; refine Ex_mv rfl rfl ?_; refine Ex_getf rfl (by assumption) rfl ?_; refine Ex_mv rfl rfl ?_; refine Ex_mv rfl rfl ?_; refine Ex_getf rfl (by assumption) rfl ?_; refine Ex_invV rfl (by rfl) (by rfl) (by assumption) (by rfl) (c_RW_size hR') ?_; refine Ex_invV rfl (by rfl) (by rfl) hr (by rfl) (e1) ?_; refine Ex_mv rfl rfl ?_; refine Ex_mv rfl rfl ?_; refine Ex_getf rfl (by assumption) rfl ?_; refine Ex_mv rfl rfl ?_; refine Ex_mv rfl rfl ?_; refine Ex_getf rfl (by assumption) rfl ?_; refine Ex_mv rfl rfl ?_; refine Ex_mv rfl rfl ?_; refine Ex_acp rfl rfl hgq hg1 rfl (by decide) (by decide) (by decide) (by decide) (by decide) ?_; refine Ex_mv rfl rfl ?_; refine Ex_mv rfl rfl ?_; refine Ex_getf rfl (hq2 _) rfl ?_; refine Ex_putf rfl (hp2 _) rfl rfl ?_
  refine Ex_rt rfl rfl ?_
  refine ⟨rfl, ⟨hs_at, (R1.fr (FrI.set (lo := p + 3) (hi := p + 4) FrI.rf (by omega) (by omega)) (by omega)).fr (FrI.set (lo := p) (hi := p + 1) FrI.rf (by omega) (by omega)) (by omega), ⟨_, hs_ne (by omega) hs_at, fun j hj => ?_⟩, hn', hS'⟩, ((F1.wd (lo' := p) (hi' := p + 4) (by omega) (by omega)).set (by omega) (by omega)).set (by omega) (by omega)⟩
  rw [pk_cpy_in (by rw [show (nI 0).toNatClampNeg = 0 from by decide]; omega) (by rw [show (nI 0).toNatClampNeg = 0 from by decide, show (nI 61).toNatClampNeg = 61 from by decide]; omega), show (nI 0).toNatClampNeg = 0 from by decide, Nat.zero_add, Nat.sub_zero]
  exact hgS' j hj
end POOL2
