/-! the other side: meanings, their order -/
/-- one meaning was made -/
def NU (h h2 : Hp) (L : List Value) : Prop := h2.1 = h.1 + 1 ∧ h2.2.1 = h.2.1 + 5 ∧ (∀ q, q < h.1 → h2.2.2 q = h.2.2 q) ∧ h2.2.2 h.1 = some (true, .inr (9, L))
theorem NU.set {h h2 : Hp} {L : List Value} (L' : List Value) (hn : NU h h2 L) : NU h (hset h2 h.1 (.inr (9, L'))) L' := ⟨hn.1, hn.2.1, fun q hq => (if_neg (by omega)).trans (hn.2.2.1 q hq), hs_at⟩
theorem NU.pf {h h2 : Hp} {L : List Value} {mu : Nat → Prop} (hn : NU h h2 L) : PF mu h h2 := ⟨by have := hn.1; omega, by have := hn.2.1; omega, fun q hq => hn.2.2.1 q hq.1⟩
section REFQ
variable {nb sa : Nat} {m0 f : Nat} {B : List Nat} {x : Fs} {mu : Nat → Prop} {h : Hp}
theorem c_MM_init {h2 : Hp} (hn : NU h h2 [.int 0, .long 0, .null, .null, .null]) : EvQ (prog nb sa) m_MM_init [.ref h.1] h2 (fun v h' => v = none ∧ NU h h' [.int 0, .long 0, .ref nb, .ref nb, .ref nb]) := by
  have hc := hn.2.2.2
  have h3 := ((hn.set [.int 0, .long 0, .ref nb, .null, .null]).set [.int 0, .long 0, .ref nb, .ref nb, .null]).set [.int 0, .long 0, .ref nb, .ref nb, .ref nb]
  refine EvQ_of (k_MM_init nb sa) 1 [some (.ref h.1)] rfl (Nat.le_of_ble_eq_true rfl) rfl ?_
  refine Ex_mv rfl rfl ?_; refine Ex_mv rfl rfl ?_; refine Ex_mv rfl rfl ?_; refine Ex_mv rfl rfl ?_; refine Ex_putf rfl hc rfl rfl ?_; refine Ex_mv rfl rfl ?_; refine Ex_mv rfl rfl ?_; refine Ex_putf rfl hs_at rfl rfl ?_; refine Ex_mv rfl rfl ?_; refine Ex_mv rfl rfl ?_; refine Ex_putf rfl hs_at rfl rfl ?_
  refine Ex_rt rfl rfl ?_
  exact ⟨rfl, h3⟩
theorem HFx2 (hF : HF mu h f (B, x)) : ∃ b t1 t2 t3 t7 t8 ow gt gx, h.2.2 f = some (true, .inr (8, [.ref b, .int (nI x.2.1), .ref t1, .ref t2, .ref t3, .int (nI x.2.2.1), .int (nI (b2 B (x.2.2.1 + 6))), .ref t7, .ref t8, .ref ow])) ∧ h.2.2 t1 = some (true, .inl (1, 61, .inl gt)) ∧ h.2.2 t3 = some (true, .inl (4, 61, .inr (.inr (.inr (.inr gx))))) ∧ (∀ j, j < 61 → gt j = nI (tg B x.1 x.2.1 j)) ∧ (∀ j, j < 61 → tg B x.1 x.2.1 j = 1 → ∃ t, gx j = some t ∧ BAk mu h t (tx B x.1 x.2.1 j)) ∧ t1 < h.1 ∧ t3 < h.1 ∧ f < h.1 := by
  simp only [HF] at hF
  obtain ⟨b, t1, t2, t3, t7, a5, a6, t8, ow, gt, ga, gc, gx, gm, c1, c2, c3, ⟨d1, d2, d3⟩, e, ⟨g1, g2, g3⟩, -⟩ := hF
  exact ⟨b, t1, t2, t3, t7, t8, ow, gt, gx, c1, d1, g1, d3, g3, d2.1, g2.1, c2.1⟩
theorem c_MO_meaningOf (hF : HF mu h f (B, x)) (hG : GG B x) (hnb : BAk mu h nb []) (hmu : ∀ q, mu q → q < h.1) {i : Nat} (ht : tg B x.1 x.2.1 i ≠ 0) : EvQ (prog nb sa) m_MO_meaningOf [.ref m0, .ref f, .int (nI i)] h (fun v h' => v = some (.ref h.1) ∧ MGk mu h' h.1 (mng B x.1 x.2.1 i) ∧ h'.1 = h.1 + 1 ∧ h'.2.1 = h.2.1 + 5 ∧ ∀ q, q < h.1 → h'.2.2 q = h.2.2 q) := by
  obtain ⟨y1, y2, y3, y4, y5, y6⟩ := hG.st11 ht
  have hlt := hF.lt.1
  have htl := tg_lt (S := x.1) (n := x.2.1) hlt i
  obtain ⟨_, h1, e1, rfl, N1⟩ := c_MM_init (nb := nb) (sa := sa) (h := h) (h2 := hnew h 5 (.inr (9, [.int 0, .long 0, .null, .null, .null]))) ⟨rfl, rfl, fun q hq => if_neg (by omega), if_pos rfl⟩
  obtain ⟨b, t1, t2, t3, t7, t8, ow, gt, gx, c1, c2, c3, c4, c5, l1, l3, lf⟩ := HFx2 hF
  have eg : gt (nI i).toNatClampNeg = nI (tg B x.1 x.2.1 i) := by rw [nI_clamp (by omega)]; exact c4 i (by omega)
  have N2 := N1.set [.int (nI (tg B x.1 x.2.1 i)), .long 0, .ref nb, .ref nb, .ref nb]
  -- reading, in a heap in which one was made
  have rd : ∀ {h2 : Hp} {L : List Value}, NU h h2 L → h2.2.2 f = _ ∧ h2.2.2 t1 = _ ∧ h2.2.2 t3 = _ ∧ HF mu h2 f (B, x) := fun hn => ⟨(hn.2.2.1 f lf).trans c1, (hn.2.2.1 t1 l1).trans c2, (hn.2.2.1 t3 l3).trans c3, hF.pf hn.pf⟩
  have tb : ∀ j, tg B x.1 x.2.1 j = 1 → ∃ t, gx (nI j).toNatClampNeg = some t ∧ BAk mu h t (tx B x.1 x.2.1 j) ∧ j < 61 ∧ ∃ w ce, h.2.2 t = some (w, .inl ce) ∧ t < h.1 := fun j hj => by
    have hjn := (tg_at hj (by decide)).1
    obtain ⟨t, q1, q2⟩ := c5 j (by omega) hj
    obtain ⟨⟨w, g, q3, -⟩, q4⟩ := id q2
    exact ⟨t, by rw [nI_clamp (by omega)]; exact q1, q2, by omega, w, _, q3, q4.1⟩
  have fin : ∀ (h2 : Hp) (a b c : Nat) (v : Int64) (m : Mng) (x4 : Option Value), NU h h2 [.int (nI m.1), .long m.2.1, .ref a, .ref b, .ref c] → BAk mu h a m.2.2.1 → BAk mu h b m.2.2.2.1 → BAk mu h c m.2.2.2.2 → mng B x.1 x.2.1 i = m → Ex (prog nb sa) k_MO_meaningOf 194 [some (.ref m0), some (.ref f), some (.int (nI i)), some (.ref h.1), x4] [] h2 (fun v h' => v = some (.ref h.1) ∧ MGk mu h' h.1 (mng B x.1 x.2.1 i) ∧ h'.1 = h.1 + 1 ∧ h'.2.1 = h.2.1 + 5 ∧ ∀ q, q < h.1 → h'.2.2 q = h.2.2 q) := by
    intro h2 a b c v m x4 hn ha hb hc hm
    rw [hm]
    refine Ex_mv rfl rfl ?_
    exact Ex_rt rfl rfl ⟨rfl, ⟨a, b, c, hn.2.2.2, ha.pf hn.pf, hb.pf hn.pf, hc.pf hn.pf, ⟨by rw [hn.1]; omega, fun z => by have := hmu _ z; omega⟩, (by rw [← hm]; exact htl)⟩, hn.1, hn.2.1, hn.2.2.1⟩
  have pre : ∀ R : Option Value → Hp → Prop, (∀ h2, NU h h2 [.int (nI (tg B x.1 x.2.1 i)), .long 0, .ref nb, .ref nb, .ref nb] → Ex (prog nb sa) k_MO_meaningOf 18 [some (.ref m0), some (.ref f), some (.int (nI i)), some (.ref h.1), none] [] h2 R) → Ex (prog nb sa) k_MO_meaningOf 0 [some (.ref m0), some (.ref f), some (.int (nI i)), none, none] [] h R := by
    intro R K
    have K2 := K _ N2
    obtain ⟨r1, r2, r3, r4⟩ := rd N1
    have cu := N1.2.2.2
    refine Ex_new rfl ?_; refine Ex_mv rfl rfl ?_; refine Ex_invI rfl (by rfl) (by rfl) (by rfl) (e1) ?_; refine Ex_mv rfl rfl ?_; refine Ex_mv rfl rfl ?_; refine Ex_mv rfl rfl ?_; refine Ex_getf rfl r1 rfl ?_; refine Ex_mv rfl rfl ?_; refine Ex_iald rfl r2 (vp_in_nI (by omega) (by decide)) ?_
    rw [eg]
    refine Ex_putf rfl cu rfl rfl ?_
    exact K2
  refine EvQ_of k_MO_meaningOf 5 [some (.ref m0), some (.ref f), some (.int (nI i)), none, none] rfl (Nat.le_of_ble_eq_true rfl) rfl ?_
  refine pre _ (fun h2 hn => ?_)
  obtain ⟨r1, r2, r3, r4⟩ := rd hn
  have cu := hn.2.2.2
  have hin := c_MO_isIn (nb := nb) (sa := sa) (h := h2) (v := tg B x.1 x.2.1 i) (lo := 3) (hi := 6) (by omega) (by decide) (by decide)
  rcases hG.tg12 i with t0 | t1' | t3'
  · exact absurd t0 ht
  · obtain ⟨t, q1, q2, q3, w, ce, q4, q5⟩ := tb i t1'
    have N3 := hn.set [.int (nI (tg B x.1 x.2.1 i)), .long 0, .ref t, .ref nb, .ref nb]
    rw [t1'] at N3
    have fi := fin _ t nb nb 0 (1, 0, tx B x.1 x.2.1 i, [], []) none N3 q2 hnb hnb (mng1 t1')
    refine Ex_mv rfl rfl ?_; refine Ex_getf rfl cu rfl ?_; refine Ex_mv rfl rfl ?_; refine Ex_mv rfl rfl ?_; refine Ex_iff (by rw [t1']; exact not_not_intro rfl) ?_; refine Ex_mv rfl rfl ?_; refine Ex_mv rfl rfl ?_; refine Ex_getf rfl r1 rfl ?_; refine Ex_mv rfl rfl ?_; refine Ex_aald rfl r3 rfl (vp_in_nI (by omega) (by decide)) q1 ?_; refine Ex_putf rfl cu rfl rfl ?_; refine Ex_mv rfl rfl ?_
    rw [t1']; exact fi
  · have n1 : ¬ nI (tg B x.1 x.2.1 i) = nI 1 := fun z => absurd ((nI_eq (by omega) (by decide)).mp z) (by omega)
    by_cases c36 : tg B x.1 x.2.1 i ≤ 6
    · rw [if_pos ⟨t3'.1, c36⟩] at hin
      have fb := c_MH_bits (nb := nb) (sa := sa) r4 hG (i := i) ⟨t3'.1, c36⟩
      have N3 := hn.set [.int (nI (tg B x.1 x.2.1 i)), .long (bts B x.1 x.2.1 i), .ref nb, .ref nb, .ref nb]
      have fi := fin _ nb nb nb 0 (tg B x.1 x.2.1 i, bts B x.1 x.2.1 i, [], [], []) none N3 hnb hnb hnb (mngN ⟨t3'.1, c36⟩)
      refine Ex_mv rfl rfl ?_; refine Ex_getf rfl cu rfl ?_; refine Ex_mv rfl rfl ?_; refine Ex_mv rfl rfl ?_; refine Ex_ift n1 ?_; refine Ex_mv rfl rfl ?_; refine Ex_getf rfl cu rfl ?_; refine Ex_mv rfl rfl ?_; refine Ex_mv rfl rfl ?_; refine Ex_inv rfl (by rfl) (by rfl) (by rfl) (hin) ?_; refine Ex_mv rfl rfl ?_; refine Ex_iff (show ¬ nI 1 = 0 by decide) ?_; refine Ex_mv rfl rfl ?_; refine Ex_mv rfl rfl ?_; refine Ex_mv rfl rfl ?_; refine Ex_invV rfl (by rfl) (by rfl) r1 (by rfl) (fb) ?_; refine Ex_putf rfl cu rfl rfl ?_; refine Ex_mv rfl rfl ?_
      exact fi
    · rw [if_neg (by omega)] at hin
      have f1 := c_MH_first (nb := nb) (sa := sa) r4 (i := i) (by omega) (show st x.1 x.2.1 i + 2 < B.length by omega)
      by_cases c78 : tg B x.1 x.2.1 i = 7 ∨ tg B x.1 x.2.1 i = 8
      · have hp := (hG.p7 c78).2
        rw [y5] at hp
        obtain ⟨t, q1, q2, q3, w, ce, q4, q5⟩ := tb _ hp
        have N3 := hn.set [.int (nI (tg B x.1 x.2.1 i)), .long 0, .ref t, .ref nb, .ref nb]
        have fi := fin _ t nb nb 0 (tg B x.1 x.2.1 i, 0, tx B x.1 x.2.1 (b2 B (st x.1 x.2.1 i + 1)), [], []) none N3 q2 hnb hnb (by rw [mng7 c78, y5])
        by_cases c7 : tg B x.1 x.2.1 i = 7
        · refine Ex_mv rfl rfl ?_; refine Ex_getf rfl cu rfl ?_; refine Ex_mv rfl rfl ?_; refine Ex_mv rfl rfl ?_; refine Ex_ift n1 ?_; refine Ex_mv rfl rfl ?_; refine Ex_getf rfl cu rfl ?_; refine Ex_mv rfl rfl ?_; refine Ex_mv rfl rfl ?_; refine Ex_inv rfl (by rfl) (by rfl) (by rfl) (hin) ?_; refine Ex_mv rfl rfl ?_; refine Ex_ift (show nI 0 = 0 from rfl) ?_; refine Ex_mv rfl rfl ?_; refine Ex_getf rfl cu rfl ?_; refine Ex_mv rfl rfl ?_; refine Ex_mv rfl rfl ?_; refine Ex_ift (by rw [c7]) ?_; refine Ex_mv rfl rfl ?_; refine Ex_mv rfl rfl ?_; refine Ex_getf rfl r1 rfl ?_; refine Ex_mv rfl rfl ?_; refine Ex_mv rfl rfl ?_; refine Ex_invV rfl (by rfl) (by rfl) r1 (by rfl) (f1) ?_; refine Ex_aald rfl r3 rfl (vp_in_nI (by omega) (by decide)) q1 ?_; refine Ex_putf rfl cu rfl rfl ?_; refine Ex_mv rfl rfl ?_
          exact fi
        · refine Ex_mv rfl rfl ?_; refine Ex_getf rfl cu rfl ?_; refine Ex_mv rfl rfl ?_; refine Ex_mv rfl rfl ?_; refine Ex_ift n1 ?_; refine Ex_mv rfl rfl ?_; refine Ex_getf rfl cu rfl ?_; refine Ex_mv rfl rfl ?_; refine Ex_mv rfl rfl ?_; refine Ex_inv rfl (by rfl) (by rfl) (by rfl) (hin) ?_; refine Ex_mv rfl rfl ?_; refine Ex_ift (show nI 0 = 0 from rfl) ?_; refine Ex_mv rfl rfl ?_; refine Ex_getf rfl cu rfl ?_; refine Ex_mv rfl rfl ?_; refine Ex_mv rfl rfl ?_; refine Ex_iff (fun z => c7 ((nI_eq (by omega) (by decide)).mp z)) ?_; refine Ex_mv rfl rfl ?_; refine Ex_getf rfl cu rfl ?_; refine Ex_mv rfl rfl ?_; refine Ex_mv rfl rfl ?_; refine Ex_iff (by rw [show tg B x.1 x.2.1 i = 8 by omega]; exact not_not_intro rfl) ?_; refine Ex_mv rfl rfl ?_; refine Ex_mv rfl rfl ?_; refine Ex_getf rfl r1 rfl ?_; refine Ex_mv rfl rfl ?_; refine Ex_mv rfl rfl ?_; refine Ex_invV rfl (by rfl) (by rfl) r1 (by rfl) (f1) ?_; refine Ex_aald rfl r3 rfl (vp_in_nI (by omega) (by decide)) q1 ?_; refine Ex_putf rfl cu rfl rfl ?_; refine Ex_mv rfl rfl ?_
          exact fi
      · have n7 : ¬ nI (tg B x.1 x.2.1 i) = nI 7 := fun z => c78 (Or.inl ((nI_eq (by omega) (by decide)).mp z))
        have n8 : ¬ nI (tg B x.1 x.2.1 i) = nI 8 := fun z => c78 (Or.inr ((nI_eq (by omega) (by decide)).mp z))
        have f2 := c_MH_second (nb := nb) (sa := sa) r4 (i := i) (by omega) (show st x.1 x.2.1 i + 4 < B.length by omega)
        by_cases c12 : tg B x.1 x.2.1 i = 12
        · obtain ⟨⟨-, hp⟩, ⟨-, hp2⟩⟩ := hG.p12 c12
          rw [y5] at hp
          rw [y6] at hp2
          obtain ⟨t, q1, q2, q3, w, ce, q4, q5⟩ := tb _ hp
          obtain ⟨t', q1', q2', q3', w', ce', q4', q5'⟩ := tb _ hp2
          have N3 := hn.set [.int (nI (tg B x.1 x.2.1 i)), .long 0, .ref t, .ref nb, .ref nb]
          have N4 := N3.set [.int (nI (tg B x.1 x.2.1 i)), .long 0, .ref t, .ref t', .ref nb]
          obtain ⟨s1, s2, s3, s4⟩ := rd N3
          have f2' := c_MH_second (nb := nb) (sa := sa) s4 (i := i) (by omega) (show st x.1 x.2.1 i + 4 < B.length by omega)
          have fi := fin _ t t' nb 0 (tg B x.1 x.2.1 i, 0, tx B x.1 x.2.1 (b2 B (st x.1 x.2.1 i + 1)), tx B x.1 x.2.1 (b2 B (st x.1 x.2.1 i + 3)), []) none N4 q2 q2' hnb (by rw [mng12 c12, y5, y6, c12])
          refine Ex_mv rfl rfl ?_; refine Ex_getf rfl cu rfl ?_; refine Ex_mv rfl rfl ?_; refine Ex_mv rfl rfl ?_; refine Ex_ift n1 ?_; refine Ex_mv rfl rfl ?_; refine Ex_getf rfl cu rfl ?_; refine Ex_mv rfl rfl ?_; refine Ex_mv rfl rfl ?_; refine Ex_inv rfl (by rfl) (by rfl) (by rfl) (hin) ?_; refine Ex_mv rfl rfl ?_; refine Ex_ift (show nI 0 = 0 from rfl) ?_; refine Ex_mv rfl rfl ?_; refine Ex_getf rfl cu rfl ?_; refine Ex_mv rfl rfl ?_; refine Ex_mv rfl rfl ?_; refine Ex_iff n7 ?_; refine Ex_mv rfl rfl ?_; refine Ex_getf rfl cu rfl ?_; refine Ex_mv rfl rfl ?_; refine Ex_mv rfl rfl ?_; refine Ex_ift n8 ?_; refine Ex_mv rfl rfl ?_; refine Ex_getf rfl cu rfl ?_; refine Ex_mv rfl rfl ?_; refine Ex_mv rfl rfl ?_; refine Ex_iff (by rw [c12]; exact not_not_intro rfl) ?_; refine Ex_mv rfl rfl ?_; refine Ex_mv rfl rfl ?_; refine Ex_getf rfl r1 rfl ?_; refine Ex_mv rfl rfl ?_; refine Ex_mv rfl rfl ?_; refine Ex_invV rfl (by rfl) (by rfl) r1 (by rfl) (f1) ?_; refine Ex_aald rfl r3 rfl (vp_in_nI (by omega) (by decide)) q1 ?_; refine Ex_putf rfl cu rfl rfl ?_; refine Ex_mv rfl rfl ?_; refine Ex_mv rfl rfl ?_; refine Ex_getf rfl s1 rfl ?_; refine Ex_mv rfl rfl ?_; refine Ex_mv rfl rfl ?_; refine Ex_invV rfl (by rfl) (by rfl) s1 (by rfl) (f2') ?_; refine Ex_aald rfl s3 rfl (vp_in_nI (by omega) (by decide)) q1' ?_; refine Ex_putf rfl hs_at rfl rfl ?_; refine Ex_mv rfl rfl ?_
          exact fi
        · have c9 : 9 ≤ tg B x.1 x.2.1 i ∧ tg B x.1 x.2.1 i ≤ 11 := by omega
          obtain ⟨⟨-, hp7⟩, ⟨-, hp12⟩⟩ := hG.p9 c9
          have hpa := (hG.p7 (Or.inl hp7)).2
          obtain ⟨⟨-, hpb⟩, ⟨-, hpc⟩⟩ := hG.p12 hp12
          rw [y5] at hp7
          rw [y6] at hp12
          obtain ⟨z1, z2, z3, z4, z5, z6⟩ := hG.st11 (i := b2 B (st x.1 x.2.1 i + 1)) (by omega)
          obtain ⟨v1, v2, v3, v4, v5, v6⟩ := hG.st11 (i := b2 B (st x.1 x.2.1 i + 3)) (by omega)
          rw [y5, z5] at hpa
          rw [y6, v5] at hpb
          rw [y6, v6] at hpc
          obtain ⟨ta, qa, qa2, qa3, -⟩ := tb _ hpa
          obtain ⟨tbb, qb, qb2, qb3, -⟩ := tb _ hpb
          obtain ⟨tc, qc, qc2, qc3, -⟩ := tb _ hpc
          have N3 := hn.set [.int (nI (tg B x.1 x.2.1 i)), .long 0, .ref ta, .ref nb, .ref nb]
          have N4 := N3.set [.int (nI (tg B x.1 x.2.1 i)), .long 0, .ref ta, .ref tbb, .ref nb]
          have N5 := N4.set [.int (nI (tg B x.1 x.2.1 i)), .long 0, .ref ta, .ref tbb, .ref tc]
          obtain ⟨s1, s2, s3, s4⟩ := rd N3
          obtain ⟨w1, w2, w3, w4⟩ := rd N4
          have f1' := c_MH_first (nb := nb) (sa := sa) r4 (i := b2 B (st x.1 x.2.1 i + 1)) (by omega) (by omega)
          have f3 := c_MH_first (nb := nb) (sa := sa) s4 (i := b2 B (st x.1 x.2.1 i + 3)) (by omega) (by omega)
          have f4' := c_MH_second (nb := nb) (sa := sa) w4 (i := b2 B (st x.1 x.2.1 i + 3)) (by omega) (by omega)
          have fi := fun x4 => fin _ ta tbb tc 0 (tg B x.1 x.2.1 i, 0, tx B x.1 x.2.1 (b2 B (st x.1 x.2.1 (b2 B (st x.1 x.2.1 i + 1)) + 1)), tx B x.1 x.2.1 (b2 B (st x.1 x.2.1 (b2 B (st x.1 x.2.1 i + 3)) + 1)), tx B x.1 x.2.1 (b2 B (st x.1 x.2.1 (b2 B (st x.1 x.2.1 i + 3)) + 3))) x4 N5 qa2 qb2 qc2 (by rw [mng9 c9, y5, y6, z5, v5, v6])
          refine Ex_mv rfl rfl ?_; refine Ex_getf rfl cu rfl ?_; refine Ex_mv rfl rfl ?_; refine Ex_mv rfl rfl ?_; refine Ex_ift n1 ?_; refine Ex_mv rfl rfl ?_; refine Ex_getf rfl cu rfl ?_; refine Ex_mv rfl rfl ?_; refine Ex_mv rfl rfl ?_; refine Ex_inv rfl (by rfl) (by rfl) (by rfl) (hin) ?_; refine Ex_mv rfl rfl ?_; refine Ex_ift (show nI 0 = 0 from rfl) ?_; refine Ex_mv rfl rfl ?_; refine Ex_getf rfl cu rfl ?_; refine Ex_mv rfl rfl ?_; refine Ex_mv rfl rfl ?_; refine Ex_iff n7 ?_; refine Ex_mv rfl rfl ?_; refine Ex_getf rfl cu rfl ?_; refine Ex_mv rfl rfl ?_; refine Ex_mv rfl rfl ?_; refine Ex_ift n8 ?_; refine Ex_mv rfl rfl ?_; refine Ex_getf rfl cu rfl ?_; refine Ex_mv rfl rfl ?_; refine Ex_mv rfl rfl ?_; refine Ex_ift (fun z => c12 ((nI_eq (by omega) (by decide)).mp z)) ?_; refine Ex_mv rfl rfl ?_; refine Ex_mv rfl rfl ?_; refine Ex_invV rfl (by rfl) (by rfl) r1 (by rfl) (f2) ?_; refine Ex_mv rfl rfl ?_; refine Ex_mv rfl rfl ?_; refine Ex_mv rfl rfl ?_; refine Ex_getf rfl r1 rfl ?_; refine Ex_mv rfl rfl ?_; refine Ex_mv rfl rfl ?_; refine Ex_mv rfl rfl ?_; refine Ex_invV rfl (by rfl) (by rfl) r1 (by rfl) (f1) ?_; refine Ex_invV rfl (by rfl) (by rfl) r1 (by rfl) (f1') ?_; refine Ex_aald rfl r3 rfl (vp_in_nI (by omega) (by decide)) qa ?_; refine Ex_putf rfl cu rfl rfl ?_; refine Ex_mv rfl rfl ?_; refine Ex_mv rfl rfl ?_; refine Ex_getf rfl s1 rfl ?_; refine Ex_mv rfl rfl ?_; refine Ex_mv rfl rfl ?_; refine Ex_invV rfl (by rfl) (by rfl) s1 (by rfl) (f3) ?_; refine Ex_aald rfl s3 rfl (vp_in_nI (by omega) (by decide)) qb ?_; refine Ex_putf rfl hs_at rfl rfl ?_; refine Ex_mv rfl rfl ?_; refine Ex_mv rfl rfl ?_; refine Ex_getf rfl w1 rfl ?_; refine Ex_mv rfl rfl ?_; refine Ex_mv rfl rfl ?_; refine Ex_invV rfl (by rfl) (by rfl) w1 (by rfl) (f4') ?_; refine Ex_aald rfl w3 rfl (vp_in_nI (by omega) (by decide)) qc ?_; refine Ex_putf rfl hs_at rfl rfl ?_
          exact fi _
end REFQ
