/-! the other side: a file parsed -/
theorem memL_len (B : List Nat) : ∀ d p, (memL B d p).length = d
  | 0, _ => rfl
  | d + 1, p => by rw [memL, List.length_cons, memL_len B d]
/-- a parsed file's rows say what was read -/
def FilP (h : Hp) (f : Nat) (B : List Nat) (x : Fs) (pl be fa : Int32) (ow : Value) (gt ga : Nat → Int32) (gx g5 g6 : Nat → Option Nat) (gc : Nat → Int32) : Prop :=
  EnR h f B x.1 gt ga gx ∧ pl = nI x.2.1 ∧ be = nI x.2.2.1 ∧ fa = nI (b2 B (x.2.2.1 + 6)) ∧ (∃ o, ow = .ref o ∧ ATk (muP f) h o B x.2.2.2.1) ∧ gc 0 = nI x.2.2.2.2.1.length ∧ gc 1 = nI x.2.2.2.2.2.1.length ∧ (∀ j, j < x.2.2.2.2.1.length → ∃ u, g5 j = some u ∧ MBk (muP f) h u B (x.2.2.2.2.1.getD j 0)) ∧ ∀ j, j < x.2.2.2.2.2.1.length → ∃ u, g6 j = some u ∧ MBk (muP f) h u B (x.2.2.2.2.2.1.getD j 0)
theorem FilP.hf {h : Hp} {f b : Nat} {mu : Nat → Prop} {B : List Nat} {x : Fs} {pl be fa : Int32} {ow : Value} {gt ga gc : Nat → Int32} {gx g5 g6 : Nat → Option Nat} (hP : FilP h f B x pl be fa ow gt ga gx g5 g6 gc) (hC : HC h f b pl be fa ow gt ga gx g5 g6 gc) (hA : BA h b B) (hG : GF B x) (hm : ∀ t, okA (muP f) h t → okA mu h t) (hm2 : ∀ t, f ≤ t → t < f + 9 → okA mu h t) (hb : b = f + 8) : HF mu h f (B, x) := by
  obtain ⟨E1, rfl, rfl, rfl, ⟨o, rfl, hO⟩, q0, q1, l0, l1⟩ := hP
  obtain ⟨c1, c2, c3, c4, ⟨gm, c5, c5', c5''⟩, c6, c7, c8⟩ := hC
  obtain ⟨⟨-, -, -, hz, -⟩, -, -, -, -, -, hm0, -, -, hm1, -, -, -, -, -, -, m0, m1, -⟩ := hG
  have est : ∀ j, st x.1 x.2.1 j = x.1 j := fun j => by
    unfold st
    by_cases hj : j < x.2.1
    · rw [if_pos hj]
    · rw [if_neg hj, hz j (by omega)]
  have et : ∀ j, tg B x.1 x.2.1 j = if x.1 j = 0 then 0 else b1 B (x.1 j) := fun j => by unfold tg; rw [est]
  refine ⟨b, f + 1, f + 2, f + 3, f + 4, f + 5, f + 6, f + 7, o, gt, ga, gc, gx, gm, c1, hm2 _ (by omega) (by omega), ⟨hA, hm2 _ (by omega) (by omega)⟩, ⟨c2, hm2 _ (by omega) (by omega), fun j hj => by rw [(E1 j hj).2.1]; show nI _ = nI (tg B x.1 x.2.1 j); rw [et]⟩, ⟨c3, hm2 _ (by omega) (by omega), fun j hj => by rw [(E1 j hj).1]; show nI _ = nI (st x.1 x.2.1 j); rw [est]⟩, ⟨c4, hm2 _ (by omega) (by omega), fun j hj ht => ?_⟩, ⟨c5, hm2 _ (by omega) (by omega), c5', c5'', ⟨g5, c6, fun j hj => ?_, hm2 _ (by omega) (by omega), ?_⟩, ⟨g6, c7, fun j hj => ?_, hm2 _ (by omega) (by omega), ?_⟩⟩, ⟨c8, hm2 _ (by omega) (by omega), q0, q1⟩, hO.mono hm⟩
  · have ht' : tg B x.1 x.2.1 j = 1 := ht
    have hs0 : x.1 j ≠ 0 := fun z => by rw [et, if_pos z] at ht'; cases ht'
    have hb1 : b1 B (x.1 j) = 1 := by rw [et, if_neg hs0] at ht'; exact ht'
    obtain ⟨t, t1, t2⟩ := (E1 j hj).2.2 hs0 hb1
    refine ⟨t, t1, BAk.mono hm ?_⟩
    have : tx B x.1 x.2.1 j = sl B (x.1 j + 3) (b2 B (x.1 j + 1)) := by
      unfold tx tz tw
      rw [if_pos ht', est, if_neg hs0]
    show BAk (muP f) h t (tx B x.1 x.2.1 j)
    rw [this]; exact t2
  · obtain ⟨u, u1, u2⟩ := l0 j hj
    exact ⟨u, u1, u2.mono hm⟩
  · show x.2.2.2.2.1.length ≤ 12
    rw [m0, memL_len]; exact hm0
  · obtain ⟨u, u1, u2⟩ := l1 j hj
    exact ⟨u, u1, u2.mono hm⟩
  · show x.2.2.2.2.2.1.length ≤ 12
    rw [m1, memL_len]; exact hm1
theorem MBk.fz {m0 f : Nat} {h h' : Hp} {u k : Nat} {B : List Nat} (hM : MBk (muP f) h u B k) (F : PF (muP f) h h') : MBk (muP f) h' u B k := hM.pf F
section REFC
variable {nb sa : Nat} {m0 f b : Nat} {a : Nat → Value} {B : List Nat}
theorem Fk.pf {kk : Nat} {h h' : Hp} (F : Fk m0 f kk h h') (hd : m0 < f) (hk : kk < 2) : PF (muP f) h h' := ⟨F.1, F.2.2.1, fun q hq => by
  have h1 := hq.1
  have h2 : ¬ q < f + 8 := hq.2
  exact F.2.2.2.2 q h1 (by omega) (by omega) (by omega)⟩
theorem Fk.fz {kk : Nat} {h h' : Hp} (F : Fk m0 f kk h h') (hk : kk < 2) : Fz m0 f h h' 36 120 := ⟨F.1, F.2.1, F.2.2.1, F.2.2.2.1, fun q h1 h2 h3 => F.2.2.2.2 q h1 h2 (by omega) (by omega)⟩
theorem c_MO_parse {h : Hp} {pl be fa : Int32} {ow : Value} {gt ga gc : Nat → Int32} {gx g5 g6 : Nat → Option Nat} (hs : RQ h m0 f a B (.inr (0, x00))) (hC : HC h f b pl be fa ow gt ga gx g5 g6 gc) (hA : BA h b B) (h0 : ∀ j, j < 61 → gt j = 0 ∧ ga j = 0) (hd : m0 < f) (hbf : b = f + 8) (hsz : f + 9 ≤ h.1) : EvQ (prog nb sa) m_MO_parse [.ref m0] h (fun v h' => v = none ∧ RQ h' m0 f a B (p_scan B (.inr (0, x00))) ∧ Fz m0 f h h' 136 652 ∧ ∃ pl be fa ow gt ga gx g5 g6 gc, HC h' f b pl be fa ow gt ga gx g5 g6 gc ∧ ∀ a' x', p_scan B (.inr (0, x00)) = .inr (a', x') → FilP h' f B x' pl be fa ow gt ga gx g5 g6 gc) := by
  obtain ⟨wb, gb, hb1, hb2, hb3, hb4⟩ := id hA
  obtain ⟨p, j, fp, hc, hp, hj, hm⟩ := id hs
  have hb : m0 < b := by omega
  refine EvQ_of k_MO_parse 7 [some (.ref m0), none, none, none, none, none, none] rfl (Nat.le_of_ble_eq_true rfl) rfl ?_
  refine Ex_mv rfl rfl ?_; refine Ex_newi rfl (vin (by decide)) ?_
  refine Ex_mv rfl rfl ?_; refine Ex_mv rfl rfl ?_; refine Ex_mv rfl rfl ?_; refine Ex_iast rfl hn_at (vp_in_nI (by decide) (by decide)) ?_
  refine Ex_mv rfl rfl ?_; refine Ex_mv rfl rfl ?_; refine Ex_mv rfl rfl ?_; refine Ex_iast rfl hs_at (vp_in_nI (by decide) (by decide)) ?_
  refine Ex_mv rfl rfl ?_; refine Ex_mv rfl rfl ?_; refine Ex_mv rfl rfl ?_; refine Ex_iast rfl hs_at (vp_in_nI (by decide) (by decide)) ?_
  refine Ex_mv rfl rfl ?_; refine Ex_mv rfl rfl ?_; refine Ex_mv rfl rfl ?_; refine Ex_iast rfl hs_at (vp_in_nI (by decide) (by decide)) ?_
  refine Ex_mv rfl rfl ?_; refine Ex_mv rfl rfl ?_; refine Ex_mv rfl rfl ?_
  generalize hg : hset (hset (hset (hset (hnew h _ _) h.1 _) h.1 _) h.1 _) h.1 _ = h1
  have s1 : h1.1 = h.1 + 1 := by rw [← hg]; rfl
  have s2 : h1.2.1 = h.2.1 + 4 := by rw [← hg]; rfl
  have s3 : ∀ q, q < h.1 → h1.2.2 q = h.2.2 q := fun q hq => by rw [← hg]; exact (if_neg (by omega)).trans ((if_neg (by omega)).trans ((if_neg (by omega)).trans ((if_neg (by omega)).trans (if_neg (by omega)))))
  have s4 : ∃ gM, h1.2.2 h.1 = some (true, .inl (1, 4, .inl gM)) ∧ ∀ i, i < 4 → gM i = nI (mgc i) := by
    refine ⟨_, by rw [← hg]; exact hs_at, fun i hi => ?_⟩
    have : i = 0 ∨ i = 1 ∨ i = 2 ∨ i = 3 := by omega
    rcases this with rfl | rfl | rfl | rfl <;> rfl
  clear hg
  obtain ⟨gM, hgM, hgM2⟩ := s4
  have R1 : RQ h1 m0 f a B (.inr (0, x00)) := hs.eq (s3 m0 (by omega))
  have hC1 : HC h1 f b pl be fa ow gt ga gx g5 g6 gc := hC.eq (fun q q1 q2 => s3 q (by omega))
  have hA1 : BA h1 b B := hA.eq (s3 b (by omega))
  refine MO_parse_mag (nb := nb) (sa := sa) hd hb (by omega) hgM2 4 0 h1 _ rfl R1 ⟨⟨_, hC1.1⟩, hA1⟩ hgM (fun p x e => by simp only [Sum.inr.injEq, Prod.mk.injEq] at e; exact e.1.symm) _ ?_
  intro h2 k' R2 F2
  refine MO_parse_cnt (nb := nb) (sa := sa) hd hb hbf R2 (hC1.eq (fun q q1 q2 => F2.2.2 q (by omega))) (hA1.eq (F2.2.2 b (by omega))) _ ?_
  intro h3 x2 R3 C3 t1 t2 t3
  have A3 : BA h3 b B := hA1.eq ((t3 b (by omega) (by omega)).trans (F2.2.2 b (by omega)))
  have Z3 : Fz m0 f h h3 1 4 := ⟨by rw [t1, F2.1]; omega, by rw [t1, F2.1]; omega, by rw [t2, F2.2.1]; omega, by rw [t2, F2.2.1]; omega, fun q g1 g2 g3 => by rw [t3 q g2 (by omega), F2.2.2 q (by omega), s3 q g1]⟩
  have hs4 : ∀ a4 x4, p_skip B 4 (p_mags B 4 0 (.inr (0, x00))) = .inr (a4, x4) → a4 = 8 := by
    intro a4 x4 e
    obtain ⟨y1, e1, e2, -⟩ := k_skip e
    obtain ⟨y2, e3, e4, -⟩ := k_mags 4 0 _ _ _ e1
    simp only [Sum.inr.injEq, Prod.mk.injEq] at e3
    omega
  generalize hS4 : p_skip B 4 (p_mags B 4 0 (.inr (0, x00))) = s4 at *
  have hsc : p_scan B (.inr (0, x00)) = p_end B (p_attrs B (p_aa (p_members B 1 (p_members B 0 (p_tells B (p_many B 8 (p_heads B (p_entries B s4))).1 (p_many B 8 (p_heads B (p_entries B s4))).2))))) := by rw [← hS4]; rfl
  have after : ∀ (h4 : Hp) (i' : Nat) (gt ga : Nat → Int32) (gx : Nat → Option Nat), RQ h4 m0 f a B (p_entries B s4) → HC h4 f b (nI (p_two B s4)) be fa ow gt ga gx g5 g6 gc → BA h4 b B → (∀ p' x', p_entries B s4 = .inr (p', x') → EnR h4 f B x'.1 gt ga gx ∧ p_two B s4 = x'.2.1) → Fz m0 f h h4 62 404 → Ex (prog nb sa) k_MO_parse 163 [some (.ref m0), some (.ref h.1), some (.int x2), some (.int (nI i')), none, none, none] [] h4 (fun v h' => v = none ∧ RQ h' m0 f a B (p_scan B (.inr (0, x00))) ∧ Fz m0 f h h' 136 652 ∧ ∃ pl be fa ow gt ga gx g5 g6 gc, HC h' f b pl be fa ow gt ga gx g5 g6 gc ∧ ∀ a' x', p_scan B (.inr (0, x00)) = .inr (a', x') → FilP h' f B x' pl be fa ow gt ga gx g5 g6 gc) := by
    intro h4 i' gt ga gx R4 C4 A4 E4 Z4
    refine MO_parse_heads (nb := nb) (sa := sa) hd hb hbf R4 C4 A4 _ ?_
    intro h5 be' x3 R5 C5 B5 u1 u2 u3
    have A5 : BA h5 b B := A4.eq (u3 b (by omega) (by omega))
    have Z5 := Z4.tr (Fz.of u1 u2 u3)
    have hz5 : f + 9 ≤ h5.1 := by have := Z4.1; omega
    obtain ⟨c1, c2, c3, c4, ⟨gm, c5, c5', c5''⟩, c6, c7, c8⟩ := id C5
    refine MO_parse_kind (nb := nb) (sa := sa) (kk := 0) (by decide) hd hbf rfl rfl rfl c5' ⟨_, rfl⟩ R5 c1 A5 c5 c8 c6 hz5 _ ?_
    intro h6 x3 x5 x6 g5' R6 F6 v1 v2 v3
    have Z6 := Z5.tr (F6.fz (by decide))
    have hz6 : f + 9 ≤ h6.1 := by have := F6.1; omega
    have o6 : ∀ q, q < h5.1 → q ≠ m0 → q ≠ f + 5 → q ≠ f + 7 → h6.2.2 q = h5.2.2 q := fun q g1 g2 g3 g4 => F6.2.2.2.2 q g1 g2 (by omega) g4
    have A6 : BA h6 b B := A5.eq (o6 b (by omega) (by omega) (by omega) (by omega))
    refine MO_parse_kind (nb := nb) (sa := sa) (kk := 1) (by decide) hd hbf rfl rfl rfl c5'' ⟨_, rfl⟩ R6 ((o6 f (by omega) (by omega) (by omega) (by omega)).trans c1) A6 ((o6 _ (by omega) (by omega) (by omega) (by omega)).trans c5) v2 ((o6 _ (by omega) (by omega) (by omega) (by omega)).trans c7) hz6 _ ?_
    intro h7 x3 x5 x6 g6' R7 F7 w1 w2 w3
    have Z7 := Z6.tr (F7.fz (by decide))
    have hz7 : f + 9 ≤ h7.1 := by have := F7.1; omega
    have o7 : ∀ q, q < h6.1 → q ≠ m0 → q ≠ f + 6 → q ≠ f + 7 → h7.2.2 q = h6.2.2 q := fun q g1 g2 g3 g4 => F7.2.2.2.2 q g1 g2 (by omega) g4
    have A7 : BA h7 b B := A6.eq (o7 b (by omega) (by omega) (by omega) (by omega))
    have oo : ∀ q, f ≤ q → q < f + 5 → h7.2.2 q = h5.2.2 q := fun q g1 g2 => (o7 q (by omega) (by omega) (by omega) (by omega)).trans (o6 q (by omega) (by omega) (by omega) (by omega))
    have C7 : HC h7 f b (nI (p_two B s4)) be' (nI (p_many B 8 (p_heads B (p_entries B s4))).1) ow gt ga gx g5' g6' _ := ⟨(oo _ (by omega) (by omega)).trans c1, (oo _ (by omega) (by omega)).trans c2, (oo _ (by omega) (by omega)).trans c3, (oo _ (by omega) (by omega)).trans c4, ⟨gm, (oo _ (by omega) (by omega)).trans c5, c5', c5''⟩, (o7 _ (by omega) (by omega) (by omega) (by omega)).trans v1, w1, w2⟩
    generalize hT : p_tells B (p_many B 8 (p_heads B (p_entries B s4))).1 (p_many B 8 (p_heads B (p_entries B s4))).2 = sT at *
    have R7' : RQ h7 m0 f a B (p_aa (p_members B 1 (p_members B 0 sT))) := R7.sm (by cases p_members B 1 (p_members B 0 sT) <;> exact rfl)
    refine Ex_mv rfl rfl ?_; refine Ex_mv rfl rfl ?_; refine Ex_mv rfl rfl ?_; refine Ex_ift (by decide) ?_
    refine Ex_mono (MO_parse_own (nb := nb) (sa := sa) hd hb hbf hz7 R7' C7 A7) ?_
    rintro v h8 ⟨rfl, R8, C8, T8, F8⟩
    have Z8 := Z7.tr F8
    refine ⟨rfl, by rw [hsc]; exact R8, Z8, _, _, _, _, _, _, _, _, _, _, C8, fun a' x' e => ?_⟩
    obtain ⟨⟨x3', y1, y2, y3⟩, ⟨yt, y4⟩, ⟨ym, y5⟩, ⟨yn, y6⟩, y7, ⟨yo, y8⟩⟩ := scan_pos e
    obtain ⟨hG, -⟩ := scan_ok e
    obtain ⟨g1, g2, g3, g4, gg5, gg6, gg7, gg8, gg9, gg10, gg11, gg12, gg13, gg14, gg15, gg16, gg17, gg18, gg19⟩ := hG
    rw [hS4] at y1 y4 y5 y6 y7 y8
    rw [hT] at y4 y5 y6 y8
    obtain ⟨E1, E2⟩ := E4 _ _ y1
    have pf5 : PF (muP f) h4 h8 := (((((Fz.of u1 u2 u3).pf hd).tr (F6.pf hd (by decide))).tr (F7.pf hd (by decide)))).tr (F8.pf hd)
    have pf7 : PF (muP f) h6 h8 := (F7.pf hd (by decide)).tr (F8.pf hd)
    have l0 := v3 _ _ _ y4 y5
    have l1 := w3 _ _ _ y5 y6
    have hlen0 : x'.2.2.2.2.1.length = b2 B (fP B x'.2.2.1) := by rw [gg17, memL_len]
    have hlen1 : x'.2.2.2.2.2.1.length = b2 B (mP B x'.2.2.1) := by rw [gg18, memL_len]
    refine ⟨by rw [← y2]; exact E1.pf pf5, by rw [E2, y3], B5 _ _ y1, by rw [y7], ⟨h7.1, rfl, ?_⟩, ?_, ?_, fun j hj => ?_, fun j hj => ?_⟩
    · have := T8 (aP B x'.2.2.1) _ _ (by rw [y6]; rfl) y8
      rw [gg16]; exact this
    · rw [hlen0, pk_un (by decide), pk_us, y4]
      have : (p_many B 12 (.inr (fP B x'.2.2.1, yt))).1 = b2 B (fP B x'.2.2.1) := by
        have e2 := y5
        rw [y4] at e2
        have : p_many B 12 (.inr (fP B x'.2.2.1, yt)) = (b2 B (fP B x'.2.2.1), _) := (if_pos gg6).trans (if_pos gg7)
        rw [this]
      rw [this]
    · rw [hlen1, pk_us, y5]
      have : p_many B 12 (.inr (mP B x'.2.2.1, ym)) = (b2 B (mP B x'.2.2.1), _) := (if_pos gg9).trans (if_pos gg10)
      rw [this]
    · obtain ⟨u, q1, q2⟩ := l0 j (by omega)
      exact ⟨u, q1, by rw [gg17]; exact q2.pf pf7⟩
    · obtain ⟨u, q1, q2⟩ := l1 j (by omega)
      exact ⟨u, q1, by rw [gg18]; exact q2.pf (F8.pf hd)⟩
  obtain ⟨n1, n2⟩ := p_entries_cnt (B := B) s4
  cases hcn : p_cnt B s4 with
  | inl e =>
    have he := n1 e hcn
    rw [hcn] at R3
    obtain ⟨p3, j3, fp3, hc3, hp3, hj3, hm3⟩ := id R3
    obtain ⟨q1, q2, q3⟩ := hm3
    have hv := p_two_lt hb3 s4
    have hf3 := C3.1
    have last := after h3 1 gt ga gx (by rw [he]; exact R3) C3 A3 (fun p' x' e => by rw [he] at e; cases e) (by obtain ⟨k1, k2, k3, k4, k5⟩ := Z3; exact ⟨by omega, by omega, by omega, by omega, k5⟩)
    by_cases hx : p_two B s4 ≤ 1
    · refine Ex_mv rfl rfl ?_; refine Ex_mv rfl rfl ?_; refine Ex_getf rfl (by assumption) rfl ?_; refine Ex_getf rfl (by assumption) rfl ?_; refine Ex_mv rfl rfl ?_; refine Ex_ift (nI_le (by omega) (by omega)) ?_
      exact last
    · refine Ex_mv rfl rfl ?_; refine Ex_mv rfl rfl ?_; refine Ex_getf rfl (by assumption) rfl ?_; refine Ex_getf rfl (by assumption) rfl ?_; refine Ex_mv rfl rfl ?_; refine Ex_iff (nI_ge (by omega) (by omega)) ?_; refine Ex_mv rfl rfl ?_; refine Ex_getf rfl (by assumption) rfl ?_; refine Ex_mv rfl rfl ?_; refine Ex_ift (nI_nz (by omega) (by omega)) ?_
      exact last
  | inr y =>
    cases s4 with
    | inl e => cases hcn
    | inr e =>
      obtain ⟨a4, x4⟩ := e
      have h8 := hs4 a4 x4 rfl
      subst h8
      obtain ⟨m1, m2⟩ := n2 8 x4 rfl y hcn
      subst m1
      rw [hcn] at R3
      have h10 : 8 + 2 ≤ B.length := by
        unfold p_cnt at hcn
        simp only at hcn
        split at hcn
        · assumption
        · cases hcn
      have h61 : 1 ≤ b2 B 8 ∧ b2 B 8 ≤ 61 := by
        unfold p_cnt at hcn
        simp only at hcn
        rw [if_pos h10] at hcn
        split at hcn
        · assumption
        · cases hcn
      have etw : p_two B (.inr (8, x4)) = b2 B 8 := if_pos h10
      rw [etw] at C3
      refine MO_parse_ents (nb := nb) (sa := sa) (n := b2 B 8) hd hbf h61.2 (b2 B 8) 1 (8 + 2) (fun _ => 0, b2 B 8, x4.2.2) h3 gt ga gx (R3.sm rfl) C3 A3 (fun j hj => ⟨(h0 j hj).2, (h0 j hj).1, fun z => absurd rfl z⟩) (by rw [t1, F2.1]; omega) (by decide) (by omega) (by decide) _ ?_
      intro h4 i' gt' ga' gx' R4 C4 E4 Z4
      refine after h4 i' gt' ga' gx' (by rw [m2]; exact R4) (by rw [etw]; exact C4) (A3.eq (Z4.2.2.2.2 b (by rw [t1, F2.1]; omega) (by omega) (by omega))) (fun p' x' e => ⟨E4 p' x' (by rw [← m2]; exact e), ?_⟩) ?_
      · rw [etw]
        obtain ⟨a5, x5, k1, k2, k3, k4, k5, -⟩ := k_entries e
        simp only [Sum.inr.injEq, Prod.mk.injEq] at k1
        rw [k5, ← k1.1]
      · obtain ⟨k1, k2, k3, k4, k5⟩ := Z3.tr Z4
        exact ⟨by omega, by omega, by omega, by omega, k5⟩
end REFC
