/-! the other side: parsing, its last parts -/
section REFB
variable {nb sa : Nat} {m0 f b : Nat} {a : Nat → Value} {B : List Nat}
theorem MO_parse_heads {h : Hp} {s : Rt} {t i' : Nat} {x2 pl be fa : Int32} {ow : Value} {gt ga gc : Nat → Int32} {gx g5 g6 : Nat → Option Nat} (hd : m0 < f) (hb : m0 < b) (hbf : b = f + 8) (hs : RQ h m0 f a B s) (hC : HC h f b pl be fa ow gt ga gx g5 g6 gc) (hA : BA h b B) (R : Option Value → Hp → Prop) (K : ∀ (h' : Hp) (be' x3 : Int32), RQ h' m0 f a B (p_tells B (p_many B 8 (p_heads B s)).1 (p_many B 8 (p_heads B s)).2) → HC h' f b pl be' (nI (p_many B 8 (p_heads B s)).1) ow gt ga gx g5 g6 gc → (∀ p x, s = .inr (p, x) → be' = nI p) → h'.1 = h.1 → h'.2.1 = h.2.1 → (∀ q, q ≠ m0 → q ≠ f → h'.2.2 q = h.2.2 q) → Ex (prog nb sa) k_MO_parse 211 [some (.ref m0), some (.ref t), some (.int x2), some (.int x3), some (.int (nI 0)), none, none] [] h' R) : Ex (prog nb sa) k_MO_parse 163 [some (.ref m0), some (.ref t), some (.int x2), some (.int (nI i')), none, none, none] [] h R := by
  obtain ⟨p, j, fp, hc, hp, hj, hm⟩ := id hs
  obtain ⟨c1, c2, c3, c4, ⟨gm, c5, c5', c5''⟩, c6, c7, c8⟩ := id hC
  refine Ex_mv rfl rfl ?_; refine Ex_getf rfl hc rfl ?_; refine Ex_mv rfl rfl ?_; refine Ex_getf rfl hc rfl ?_; refine Ex_putf rfl c1 rfl rfl ?_
  generalize hg : hset h f _ = h1
  have s1 : h1.1 = h.1 := by rw [← hg]; rfl
  have s2 : h1.2.1 = h.2.1 := by rw [← hg]; rfl
  have s3 : ∀ q, q ≠ f → h1.2.2 q = h.2.2 q := fun q hq => by rw [← hg]; exact if_neg hq
  have hC1 : HC h1 f b pl (nI p) fa ow gt ga gx g5 g6 gc := ⟨by rw [← hg]; exact hs_at, (s3 _ (by omega)).trans c2, (s3 _ (by omega)).trans c3, (s3 _ (by omega)).trans c4, ⟨gm, (s3 _ (by omega)).trans c5, c5', c5''⟩, (s3 _ (by omega)).trans c6, (s3 _ (by omega)).trans c7, (s3 _ (by omega)).trans c8⟩
  clear hg
  have R1 : RQ h1 m0 f a B s := hs.eq (s3 m0 (by omega))
  have hc1 : h1.2.2 m0 = _ := (s3 m0 (by omega)).trans hc
  have hA1 : BA h1 b B := hA.eq (s3 b (by omega))
  have hB1 : HB h1 f b B := ⟨⟨_, hC1.1⟩, hA1⟩
  obtain ⟨_, h2, e2, rfl, R2, F2⟩ := c_MO_goes (nb := nb) (sa := sa) R1 hB1 hd hb (k := 6) (by decide)
  have R2' := R2.sm (smP_heads s)
  have hB2 := hB1.fr F2 (by omega) (by omega)
  obtain ⟨_, h3, e3, rfl, R3, F3⟩ := c_MO_many (nb := nb) (sa := sa) R2' hB2 hd hb (m := 8) (by decide)
  have F23 := F2.tr F3
  obtain ⟨p2, j2, fp2, hc2, -⟩ := id R2
  obtain ⟨p3, j3, fp3, hc3, -⟩ := id R3
  have hC3 : HC h3 f b pl (nI p) fa ow gt ga gx g5 g6 gc := hC1.eq (fun q q1 q2 => F23.2.2 q (by omega))
  obtain ⟨d1, d2, d3, d4, ⟨dm, d5, d5', d5''⟩, d6, d7, d8⟩ := id hC3
  refine Ex_mv rfl rfl ?_; refine Ex_mv rfl rfl ?_; refine Ex_invV rfl (by rfl) (by rfl) hc1 (by rfl) e2 ?_; refine Ex_mv rfl rfl ?_
  refine Ex_mv rfl rfl ?_; refine Ex_getf rfl hc2 rfl ?_; refine Ex_mv rfl rfl ?_; refine Ex_mv rfl rfl ?_; refine Ex_invV rfl (by rfl) (by rfl) hc2 (by rfl) e3 ?_
  refine Ex_putf rfl d1 rfl rfl ?_
  generalize hg : hset h3 f _ = h4
  have t1 : h4.1 = h3.1 := by rw [← hg]; rfl
  have t2 : h4.2.1 = h3.2.1 := by rw [← hg]; rfl
  have t3 : ∀ q, q ≠ f → h4.2.2 q = h3.2.2 q := fun q hq => by rw [← hg]; exact if_neg hq
  have hC4 : HC h4 f b pl (nI p) (nI (p_many B 8 (p_heads B s)).1) ow gt ga gx g5 g6 gc := ⟨by rw [← hg]; exact hs_at, (t3 _ (by omega)).trans d2, (t3 _ (by omega)).trans d3, (t3 _ (by omega)).trans d4, ⟨dm, (t3 _ (by omega)).trans d5, d5', d5''⟩, (t3 _ (by omega)).trans d6, (t3 _ (by omega)).trans d7, (t3 _ (by omega)).trans d8⟩
  clear hg
  have R4 : RQ h4 m0 f a B (p_many B 8 (p_heads B s)).2 := R3.eq (t3 m0 (by omega))
  have hc4 : h4.2.2 m0 = _ := (t3 m0 (by omega)).trans hc3
  have hA4 : BA h4 b B := hA1.eq ((t3 b (by omega)).trans (F23.2.2 b (by omega)))
  have hB4 : HB h4 f b B := ⟨⟨_, hC4.1⟩, hA4⟩
  have hle := p_many_le (B := B) 8 (p_heads B s)
  obtain ⟨_, h5, e5, rfl, R5, F5⟩ := c_MO_goes (nb := nb) (sa := sa) R4 hB4 hd hb (k := 2 * (p_many B 8 (p_heads B s)).1) (by omega)
  have R5' := R5.sm (smP_tells _ _ (fun p x e => by obtain ⟨_, _, _, z, _⟩ := k_many e; exact z))
  have f4 := hC4.1
  have last := fun x3 => K h5 (nI p) x3 R5' (hC4.eq (fun q q1 q2 => F5.2.2 q (by omega))) (fun p' x' e => by subst e; obtain ⟨_, _, z⟩ := hm; rw [z]) (by rw [F5.1, t1, F23.1, s1]) (by rw [F5.2.1, t2, F23.2.1, s2]) (fun q g1 g2 => by rw [F5.2.2 q (by omega), t3 q g2, F23.2.2 q (by omega), s3 q g2])
  refine Ex_mv rfl rfl ?_; refine Ex_mv rfl rfl ?_; refine Ex_mv rfl rfl ?_; refine Ex_getf rfl (by assumption) rfl ?_; refine Ex_getf rfl (by assumption) rfl ?_; (first | refine Ex_mulN rfl ?_ | refine Ex_mv rfl rfl ?_); refine Ex_invV rfl (by rfl) (by rfl) (by assumption) (by rfl) (e5) ?_; refine Ex_mv rfl rfl ?_; refine Ex_mv rfl rfl ?_; refine Ex_mv rfl rfl ?_
  exact last _
/-- what stays while a kind is read -/
def Fk (m0 f kk : Nat) (h h' : Hp) : Prop := h.1 ≤ h'.1 ∧ h'.1 ≤ h.1 + 36 ∧ h.2.1 ≤ h'.2.1 ∧ h'.2.1 ≤ h.2.1 + 120 ∧ ∀ q, q < h.1 → q ≠ m0 → q ≠ f + 5 + kk → q ≠ f + 7 → h'.2.2 q = h.2.2 q
theorem MO_parse_kind {h : Hp} {s : Rt} {t kk : Nat} {x2 x3 : Int32} {x5 x6 : Option Value} {fl : List Value} {gm g : Nat → Option Nat} {gc : Nat → Int32} (hkk : kk < 2) (hd : m0 < f) (hb : b = f + 8) (hf0 : fl[7]? = some (.ref (f + 4))) (hf8 : fl[8]? = some (.ref (f + 7))) (hfb : fl[0]? = some (.ref b)) (hgm : gm kk = some (f + 5 + kk)) (hbB : ∃ r, fl = .ref b :: r) (hs : RQ h m0 f a B s) (hf : h.2.2 f = some (true, .inr (8, fl))) (hA : BA h b B) (hm4 : h.2.2 (f + 4) = some (true, .inl (9, 2, .inr (.inr (.inr (.inr gm)))))) (hm7 : h.2.2 (f + 7) = some (true, .inl (1, 2, .inl gc))) (hg : h.2.2 (f + 5 + kk) = some (true, .inl (8, 12, .inr (.inr (.inr (.inr g)))))) (hsz : f + 9 ≤ h.1) (R : Option Value → Hp → Prop) (K : ∀ (h' : Hp) (x3 : Int32) (x5 x6 : Option Value) (g' : Nat → Option Nat), RQ h' m0 f a B (p_members B kk s) → Fk m0 f kk h h' → h'.2.2 (f + 5 + kk) = some (true, .inl (8, 12, .inr (.inr (.inr (.inr g'))))) → h'.2.2 (f + 7) = some (true, .inl (1, 2, .inl (upd gc kk (nI (p_many B 12 s).1)))) → (∀ p x y, s = .inr (p, x) → p_members B kk s = .inr y → ∀ j, j < b2 B p → ∃ u, g' j = some u ∧ MBk (muP f) h' u B ((memL B (b2 B p) (p + 2)).getD j 0)) → Ex (prog nb sa) k_MO_parse 211 [some (.ref m0), some (.ref t), some (.int x2), some (.int x3), some (.int (nI (kk + 1))), x5, x6] [] h' R) : Ex (prog nb sa) k_MO_parse 211 [some (.ref m0), some (.ref t), some (.int x2), some (.int x3), some (.int (nI kk)), x5, x6] [] h R := by
  obtain ⟨p, j, fp, hc, hp, hj, hm⟩ := id hs
  obtain ⟨rr, hrr⟩ := id hbB
  have hB : HB h f b B := ⟨⟨rr, by rw [hf, hrr]⟩, hA⟩
  obtain ⟨_, h1, e1, rfl, R1, F1⟩ := c_MO_many (nb := nb) (sa := sa) hs hB hd (by omega) (m := 12) (by decide)
  have hle := p_many_le (B := B) 12 s
  have hm7' : h1.2.2 (f + 7) = _ := F1.at hm7 (by omega)
  refine Ex_mv rfl rfl ?_; refine Ex_mv rfl rfl ?_; refine Ex_mv rfl rfl ?_; refine Ex_iff (nI_ge (by omega) (by omega)) ?_
  refine Ex_mv rfl rfl ?_; refine Ex_getf rfl hc rfl ?_; refine Ex_getf rfl hf hf8 ?_; refine Ex_mv rfl rfl ?_; refine Ex_mv rfl rfl ?_; refine Ex_mv rfl rfl ?_
  refine Ex_invV rfl (by rfl) (by rfl) hc (by rfl) e1 ?_
  refine Ex_iast rfl hm7' (vp_in_nI (by omega) (by decide)) ?_
  generalize hg2 : hset h1 (f + 7) _ = h2
  have s1 : h2.1 = h.1 := by rw [← hg2]; exact F1.1
  have s2 : h2.2.1 = h.2.1 := by rw [← hg2]; exact F1.2.1
  have s3 : ∀ q, q ≠ f + 7 → h2.2.2 q = h1.2.2 q := fun q hq => by rw [← hg2]; exact if_neg hq
  have s4 : h2.2.2 (f + 7) = some (true, .inl (1, 2, .inl (upd gc kk (nI (p_many B 12 s).1)))) := by rw [← hg2, hs_at, nI_clamp (by omega)]
  clear hg2
  have o2 : ∀ q, q ≠ m0 → q ≠ f + 7 → h2.2.2 q = h.2.2 q := fun q g1 g2 => by rw [s3 q g2, F1.2.2 q (by omega)]
  refine Ex_mv rfl rfl ?_; refine Ex_mv rfl rfl ?_
  refine MO_parse_mem (nb := nb) (sa := sa) (a := a) (B := B) (c := (p_many B 12 s).1) hkk hd hb hf0 hf8 hfb hgm (pk_us) hle hbB (p_many B 12 s).1 0 _ _ h2 (p_many B 12 s).2 g (Nat.zero_add _) (R1.eq (s3 m0 (by omega))) ((o2 f (by omega) (by omega)).trans hf) (hA.eq (o2 b (by omega) (by omega))) ((o2 _ (by omega) (by omega)).trans hm4) s4 ((o2 _ (by omega) (by omega)).trans hg) (by omega) R ?_
  intro h' x3' x5' x6' g' z1 z2 z3 z4 z5
  refine Ex_incN rfl rfl ?_; refine Ex_mv rfl rfl ?_
  obtain ⟨y1, y2, y3, y4, y5⟩ := z2
  refine K h' _ _ _ g' z1 ⟨by omega, by omega, by omega, by omega, fun q g1 g2 g3 g4 => by rw [y5 q (by omega) g2 g3, o2 q g2 g4]⟩ z3 (by rw [y5 _ (by omega) (by omega) (by omega)]; exact s4) (fun p x y hq hy j hj => ?_)
  subst hq
  obtain ⟨a1, x1, w1, w2, w3, -⟩ := k_members hy
  simp only [Sum.inr.injEq, Prod.mk.injEq] at w1
  obtain ⟨rfl, rfl⟩ := w1
  have em : p_many B 12 (.inr (p, x)) = (b2 B p, .inr (p + 2, x)) := (if_pos w2).trans (if_pos w3)
  have hy' : p_mems B kk (p_many B 12 (.inr (p, x))).1 (p_many B 12 (.inr (p, x))).2 = .inr y := hy
  rw [em] at z5 hy'
  have := z5 (p + 2) x y rfl hy' j hj
  rw [Nat.zero_add] at this
  exact this
/-- the last: the file's own attributes -/
theorem MO_parse_own {h : Hp} {s : Rt} {t : Nat} {x2 x3 pl be fa : Int32} {x5 x6 : Option Value} {ow : Value} {gt ga gc : Nat → Int32} {gx g5 g6 : Nat → Option Nat} (hd : m0 < f) (hb : m0 < b) (hbf : b = f + 8) (hsz : f + 9 ≤ h.1) (hs : RQ h m0 f a B s) (hC : HC h f b pl be fa ow gt ga gx g5 g6 gc) (hA : BA h b B) : Ex (prog nb sa) k_MO_parse 319 [some (.ref m0), some (.ref t), some (.int x2), some (.int x3), some (.int (nI 2)), x5, x6] [] h (fun v h' => v = none ∧ RQ h' m0 f a B (p_end B (p_attrs B s)) ∧ HC h' f b pl be fa (.ref h.1) gt ga gx g5 g6 gc ∧ (∀ p x y, s = .inr (p, x) → p_attrs B s = .inr y → ATk (muP f) h' h.1 B p) ∧ Fz m0 f h h' 2 8) := by
  obtain ⟨p, j, fp, hc, hp, hj, hm⟩ := id hs
  obtain ⟨wb, gb, hb1, hb2⟩ := id hA
  have hB : HB h f b B := ⟨⟨_, hC.1⟩, hA⟩
  obtain ⟨_, h1, e1, rfl, R1, t1, t2, t3, t4⟩ := c_MO_attributes (nb := nb) (sa := sa) hs hB hd hb (by omega) (by omega)
  have hC1 : HC h1 f b pl be fa ow gt ga gx g5 g6 gc := hC.eq (fun q q1 q2 => t3 q (by omega) (by omega))
  obtain ⟨c1, c2, c3, c4, ⟨gm, c5, c5', c5''⟩, c6, c7, c8⟩ := id hC1
  have hc' := hC.1
  refine Ex_mv rfl rfl ?_; refine Ex_getf rfl hc rfl ?_; refine Ex_mv rfl rfl ?_; refine Ex_invV rfl (by rfl) (by rfl) hc (by rfl) e1 ?_; refine Ex_putf rfl c1 rfl rfl ?_
  generalize hg : hset h1 f _ = h2
  have s1 : h2.1 = h.1 + 2 := by rw [← hg]; exact t1
  have s2 : h2.2.1 = h.2.1 + 8 := by rw [← hg]; exact t2
  have s3 : ∀ q, q ≠ f → h2.2.2 q = h1.2.2 q := fun q hq => by rw [← hg]; exact if_neg hq
  have hC2 : HC h2 f b pl be fa (.ref h.1) gt ga gx g5 g6 gc := ⟨by rw [← hg]; exact hs_at, (s3 _ (by omega)).trans c2, (s3 _ (by omega)).trans c3, (s3 _ (by omega)).trans c4, ⟨gm, (s3 _ (by omega)).trans c5, c5', c5''⟩, (s3 _ (by omega)).trans c6, (s3 _ (by omega)).trans c7, (s3 _ (by omega)).trans c8⟩
  clear hg
  have R2 : RQ h2 m0 f a B (p_attrs B s) := R1.eq (s3 m0 (by omega))
  have fin : ∀ h3, FrI m0 (m0 + 1) h2 h3 → RQ h3 m0 f a B (p_end B (p_attrs B s)) → (RQ h3 m0 f a B (p_end B (p_attrs B s)) ∧ HC h3 f b pl be fa (.ref h.1) gt ga gx g5 g6 gc ∧ (∀ p x y, s = .inr (p, x) → p_attrs B s = .inr y → ATk (muP f) h3 h.1 B p) ∧ Fz m0 f h h3 2 8) := by
    intro h3 F3 R3
    refine ⟨R3, hC2.eq (fun q q1 q2 => F3.2.2 q (by omega)), fun p x y z1 z2 => ?_, by rw [F3.1]; omega, by rw [F3.1]; omega, by rw [F3.2.1]; omega, by rw [F3.2.1]; omega, fun q g1 g2 g3 => by rw [F3.2.2 q (by omega), s3 q (by omega), t3 q g1 g2]⟩
    obtain ⟨g, w1, w2, w3⟩ := t4 p x y z1 z2
    refine ⟨h.1 + 1, g, ?_, ?_, w3, ⟨by rw [F3.1]; omega, fun z => by simp only [muP] at z; omega⟩, ⟨by rw [F3.1]; omega, fun z => by simp only [muP] at z; omega⟩⟩
    · rw [F3.2.2 _ (by omega), s3 _ (by omega)]; exact w1
    · rw [F3.2.2 _ (by omega), s3 _ (by omega)]; exact w2
  have hf2 := hC2.1
  have hb2' : h2.2.2 b = _ := (s3 b (by omega)).trans ((t3 b (by omega) (by omega)).trans hb1)
  obtain ⟨p2, j2, fp2, hc2, hp2, hj2, hm2⟩ := id R2
  have hl4 := hb2.2.2
  cases hr : p_attrs B s with
  | inl e =>
    rw [hr] at hm2 fin R2
    obtain ⟨q1, q2, q3⟩ := hm2
    refine Ex_mv rfl rfl ?_; refine Ex_getf rfl (by assumption) rfl ?_; refine Ex_mv rfl rfl ?_; refine Ex_ift (nI_nz (by omega) (by omega)) ?_
    refine Ex_rt rfl rfl ?_
    exact ⟨rfl, fin h2 FrI.rf R2⟩
  | inr e =>
    obtain ⟨a1, x⟩ := e
    rw [hr] at hm2 fin R2
    obtain ⟨q1, q2, q3⟩ := hm2
    subst q1
    subst q3
    by_cases hlt : p2 < B.length
    · have ee : p_end B (.inr (p2, x)) = .inl (6, p2) := if_pos hlt
      rw [ee] at fin ⊢
      obtain ⟨_, h3, e3, rfl, R3, F3⟩ := c_MO_fails (nb := nb) (sa := sa) R2 (k := 6) (w := p2) (by decide) (by decide)
      refine Ex_mv rfl rfl ?_; refine Ex_getf rfl (by assumption) rfl ?_; refine Ex_mv rfl rfl ?_; refine Ex_iff (by decide) ?_; refine Ex_mv rfl rfl ?_; refine Ex_getf rfl (by assumption) rfl ?_; refine Ex_mv rfl rfl ?_; refine Ex_getf rfl (by assumption) rfl ?_; refine Ex_getf rfl (by assumption) rfl ?_; refine Ex_alen rfl (by assumption) rfl ?_; refine Ex_mv rfl rfl ?_; refine Ex_iff (nI_ge (by omega) (by omega)) ?_; refine Ex_mv rfl rfl ?_; refine Ex_mv rfl rfl ?_; refine Ex_mv rfl rfl ?_; refine Ex_getf rfl (by assumption) rfl ?_; refine Ex_invV rfl (by rfl) (by rfl) (by assumption) (by rfl) (e3) ?_
      refine Ex_rt rfl rfl ?_
      exact ⟨rfl, fin h3 F3 R3⟩
    · have ee : p_end B (.inr (p2, x)) = .inr (p2, x) := if_neg hlt
      rw [ee] at fin ⊢
      refine Ex_mv rfl rfl ?_; refine Ex_getf rfl (by assumption) rfl ?_; refine Ex_mv rfl rfl ?_; refine Ex_iff (by decide) ?_; refine Ex_mv rfl rfl ?_; refine Ex_getf rfl (by assumption) rfl ?_; refine Ex_mv rfl rfl ?_; refine Ex_getf rfl (by assumption) rfl ?_; refine Ex_getf rfl (by assumption) rfl ?_; refine Ex_alen rfl (by assumption) rfl ?_; refine Ex_mv rfl rfl ?_; refine Ex_ift (nI_le (by omega) (by omega)) ?_
      refine Ex_rt rfl rfl ?_
      exact ⟨rfl, fin h2 FrI.rf R2⟩
end REFB
