/-! the other side: members -/
theorem smP_sy {s t : Rt} (z : smP s t) : smP t s := by
  cases s <;> cases t <;> first | exact absurd z id | exact Eq.symm z
theorem smP_many {B : List Nat} {m : Nat} {s s' : Rt} (h : smP s s') : (p_many B m s).1 = (p_many B m s').1 ∧ smP (p_many B m s).2 (p_many B m s').2 := by
  cases s with
  | inl e => cases s' with
    | inl e' => have : e = e' := h; subst this; exact ⟨rfl, rfl⟩
    | inr e' => exact absurd h id
  | inr e => cases s' with
    | inl e' => exact absurd h id
    | inr e' =>
      obtain ⟨p, x⟩ := e
      obtain ⟨p', x'⟩ := e'
      have q : p = p' := h
      subst q
      unfold p_many
      by_cases h1 : p + 2 ≤ B.length
      · by_cases h2 : b2 B p ≤ m
        · simp only [h1, h2, if_true]; exact ⟨trivial, rfl⟩
        · simp only [h1, h2, if_true, if_false]; exact ⟨trivial, rfl⟩
      · simp only [h1, if_false]; exact ⟨trivial, rfl⟩
theorem smP_attrs {B : List Nat} {s s' : Rt} (h : smP s s') : smP (p_attrs B s) (p_attrs B s') := by
  unfold p_attrs
  obtain ⟨h1, h2⟩ := @smP_many B 6 s s' h
  rw [h1]
  exact smP_atts _ _ _ h2
theorem smP_mem {B : List Nat} {k p : Nat} {x : Fs} : smP (p_attrs B (p_skip B 6 (.inr (p, x)))) (p_mem B k p x) := by
  unfold p_mem
  refine smP_attrs ?_
  refine smP_tr ?_ (smP_tell _)
  rw [show (6 : Nat) = 2 + 2 + 2 from rfl, ← skip_skip (j := 2) (k := 2 + 2), ← skip_skip (j := 2) (k := 2)]
  refine smP_skip (smP_tr ?_ (smP_tell _))
  exact smP_skip (smP_skip (show smP (.inr (p, x)) (.inr (p, addM x k p)) from rfl))
theorem smP_mems {B : List Nat} {k : Nat} : ∀ (d : Nat) (s s' : Rt), smP s s' → smP (p_mems B k d s) (p_mems B k d s')
  | 0, s, s', h => h
  | d + 1, s, s', h => by
    cases s with
    | inl e => cases s' with
      | inl e' => exact h
      | inr e' => exact absurd h id
    | inr e => cases s' with
      | inl e' => exact absurd h id
      | inr e' =>
        obtain ⟨p, x⟩ := e
        obtain ⟨p', x'⟩ := e'
        have q : p = p' := h
        subst q
        refine smP_mems d _ _ (smP_tr (smP_sy (@smP_mem B k p x)) (smP_tr (smP_attrs (smP_skip (show smP (.inr (p, x)) (.inr (p, x')) from rfl))) (@smP_mem B k p x')))
section REF5
variable {nb sa : Nat} {m0 f b : Nat} {a : Nat → Value} {B : List Nat}
/-- what stays while members of a kind are read -/
def Fm (m0 y : Nat) (h h' : Hp) (c s : Nat) : Prop := h.1 ≤ h'.1 ∧ h'.1 ≤ h.1 + c ∧ h.2.1 ≤ h'.2.1 ∧ h'.2.1 ≤ h.2.1 + s ∧ ∀ q, q < h.1 → q ≠ m0 → q ≠ y → h'.2.2 q = h.2.2 q
theorem Fm.tr {m0 y : Nat} {h h1 h2 : Hp} {c s c' s' : Nat} (u : Fm m0 y h h1 c s) (v : Fm m0 y h1 h2 c' s') : Fm m0 y h h2 (c + c') (s + s') := by
  obtain ⟨u1, u2, u3, u4, u5⟩ := u
  obtain ⟨v1, v2, v3, v4, v5⟩ := v
  exact ⟨by omega, by omega, by omega, by omega, fun q g1 g2 g3 => (v5 q (by omega) g2 g3).trans (u5 q g1 g2 g3)⟩
theorem MO_parse_mem {kk c : Nat} {fl : List Value} {gm : Nat → Option Nat} {gc : Nat → Int32} {x1 : Option Value} {x2 : Int32} (hkk : kk < 2) (hd : m0 < f) (hb : b = f + 8) (hf0 : fl[7]? = some (.ref (f + 4))) (hf8 : fl[8]? = some (.ref (f + 7))) (hfb : fl[0]? = some (.ref b)) (hgm : gm kk = some (f + 5 + kk)) (hgc : gc kk = nI c) (hc12 : c ≤ 12) (hbB : ∃ r, fl = .ref b :: r) : ∀ (d k : Nat) (x3 : Int32) (x6 : Option Value) (h : Hp) (s : Rt) (g : Nat → Option Nat), k + d = c → RQ h m0 f a B s → h.2.2 f = some (true, .inr (8, fl)) → BA h b B → h.2.2 (f + 4) = some (true, .inl (9, 2, .inr (.inr (.inr (.inr gm))))) → h.2.2 (f + 7) = some (true, .inl (1, 2, .inl gc)) → h.2.2 (f + 5 + kk) = some (true, .inl (8, 12, .inr (.inr (.inr (.inr g))))) → f + 9 ≤ h.1 → ∀ R : Option Value → Hp → Prop, (∀ (h' : Hp) (x3 : Int32) (x5 : Nat) (x6 : Option Value) (g' : Nat → Option Nat), RQ h' m0 f a B (p_mems B kk d s) → Fm m0 (f + 5 + kk) h h' (3 * d) (10 * d) → h'.2.2 (f + 5 + kk) = some (true, .inl (8, 12, .inr (.inr (.inr (.inr g'))))) → (∀ j, j < k → g' j = g j) → (∀ p x y, s = .inr (p, x) → p_mems B kk d s = .inr y → ∀ j, j < d → ∃ u, g' (k + j) = some u ∧ MBk (muP f) h' u B ((memL B d p).getD j 0)) → Ex (prog nb sa) k_MO_parse 313 [some (.ref m0), x1, some (.int x2), some (.int x3), some (.int (nI kk)), some (.int (nI x5)), x6] [] h' R) → Ex (prog nb sa) k_MO_parse 236 [some (.ref m0), x1, some (.int x2), some (.int x3), some (.int (nI kk)), some (.int (nI k)), x6] [] h R
  | 0, k, x3, x6, h, s, g, hk, hs, hf, hA, hm4, hm7, hg, hsz, R, K => by
    obtain ⟨p, j, fp, hc, hp, hj, hm⟩ := id hs
    have e1 : gc (nI kk).toNatClampNeg = nI c := by rw [nI_clamp (by omega)]; exact hgc
    refine Ex_mv rfl rfl ?_; refine Ex_mv rfl rfl ?_; refine Ex_getf rfl hc rfl ?_; refine Ex_getf rfl hf hf8 ?_; refine Ex_mv rfl rfl ?_; refine Ex_iald rfl hm7 (vp_in_nI (by omega) (by decide)) ?_
    rw [e1]
    refine Ex_mv rfl rfl ?_; refine Ex_ift (nI_le (by omega) (by omega)) ?_
    exact K h x3 k x6 g hs ⟨Nat.le_refl _, by omega, Nat.le_refl _, by omega, fun _ _ _ _ => rfl⟩ hg (fun _ _ => rfl) (fun p x y _ _ j hj => by omega)
  | d + 1, k, x3, x6, h, s, g, hk, hs, hf, hA, hm4, hm7, hg, hsz, R, K => by
    obtain ⟨p, j, fp, hc, hp, hj, hm⟩ := id hs
    have e1 : gc (nI kk).toNatClampNeg = nI c := by rw [nI_clamp (by omega)]; exact hgc
    have e2 : gm (nI kk).toNatClampNeg = some (f + 5 + kk) := by rw [nI_clamp (by omega)]; exact hgm
    refine Ex_mv rfl rfl ?_; refine Ex_mv rfl rfl ?_; refine Ex_getf rfl hc rfl ?_; refine Ex_getf rfl hf hf8 ?_; refine Ex_mv rfl rfl ?_; refine Ex_iald rfl hm7 (vp_in_nI (by omega) (by decide)) ?_
    rw [e1]
    refine Ex_mv rfl rfl ?_; refine Ex_iff (nI_ge (by omega) (by omega)) ?_
    refine Ex_mv rfl rfl ?_; refine Ex_getf rfl hc rfl ?_
    cases s with
    | inl e =>
      obtain ⟨q1, q2, q3⟩ := hm
      refine Ex_mv rfl rfl ?_; refine Ex_ift (nI_nz (by omega) (by omega)) ?_
      exact K h x3 k x6 g hs ⟨Nat.le_refl _, by omega, Nat.le_refl _, by omega, fun _ _ _ _ => rfl⟩ hg (fun _ _ => rfl) (fun p x y e => by cases e)
    | inr e =>
      obtain ⟨p0, x⟩ := e
      obtain ⟨q1, q2, q3⟩ := hm
      subst q1
      subst q3
      refine Ex_mv rfl rfl ?_; refine Ex_iff (by decide) ?_
      have mb : Ev (prog nb sa) m_MB_init [.ref h.1] (hnew h 2 (.inr (10, [.int 0, .null]))) none (hnew h 2 (.inr (10, [.int 0, .null]))) := by
        refine Ev_ofL k_MB_init 1 [some (.ref h.1)] rfl (Nat.le_of_ble_eq_true rfl) rfl ?_
        refine Ex_mv rfl rfl ?_; refine Ex_mv rfl rfl ?_
        exact Ex_rt rfl rfl ⟨rfl, rfl⟩
      refine Ex_new rfl ?_; refine Ex_mv rfl rfl ?_; refine Ex_invI rfl (by rfl) (by rfl) (by rfl) mb ?_; refine Ex_mv rfl rfl ?_; refine Ex_mv rfl rfl ?_; refine Ex_mv rfl rfl ?_
      refine Ex_getf rfl (hn_ne (by omega) hc) rfl ?_; refine Ex_putf rfl hn_at rfl rfl ?_
      generalize hg1 : hset (hnew h 2 _) h.1 _ = h1
      have s1 : h1.1 = h.1 + 1 := by rw [← hg1]; rfl
      have s2 : h1.2.1 = h.2.1 + 2 := by rw [← hg1]; rfl
      have s3 : h1.2.2 h.1 = some (true, .inr (10, [.int (nI p), .null])) := by rw [← hg1]; exact hs_at
      have s4 : ∀ q, q < h.1 → h1.2.2 q = h.2.2 q := fun q hq => by rw [← hg1]; exact (if_neg (by omega)).trans (if_neg (by omega))
      clear hg1
      have R1 : RQ h1 m0 f a B (.inr (p, x)) := ⟨p, 0, fp, (s4 m0 (by omega)).trans hc, hp, by decide, rfl, q2, rfl⟩
      obtain ⟨wA, gA, A1, A2⟩ := id hA
      have hA1 : BA h1 b B := ⟨wA, gA, (s4 b (by omega)).trans A1, A2⟩
      obtain ⟨rr, hrr⟩ := hbB
      have hB1 : HB h1 f b B := ⟨⟨rr, by rw [s4 f (by omega), hf, hrr]⟩, hA1⟩
      obtain ⟨_, h2, f2, rfl, R2, F2⟩ := c_MO_goes (nb := nb) (sa := sa) R1 hB1 hd (by omega) (k := 6) (by decide)
      have hB2 := hB1.fr F2 (by omega) (by omega)
      obtain ⟨_, h3, f3, rfl, R3, t1, t2, t3, t4⟩ := c_MO_attributes (nb := nb) (sa := sa) R2 hB2 hd (by omega) (by rw [F2.1]; omega) (by rw [F2.1]; omega)
      have hc1 : h1.2.2 m0 = _ := (s4 m0 (by omega)).trans hc
      obtain ⟨p2, j2, fp2, hc2, -⟩ := id R2
      obtain ⟨p3, j3, fp3, hc3, -⟩ := id R3
      have s23 : h2.2.2 h.1 = some (true, .inr (10, [.int (nI p), .null])) := F2.at s3 (by omega)
      have s33 : h3.2.2 h.1 = some (true, .inr (10, [.int (nI p), .null])) := (t3 h.1 (by rw [F2.1]; omega) (by omega)).trans s23
      have hh2 : h2.1 = h.1 + 1 := by rw [F2.1]; exact s1
      have o3 : ∀ q, q < h.1 → q ≠ m0 → h3.2.2 q = h.2.2 q := fun q g1 g2 => by rw [t3 q (by omega) g2, F2.2.2 q (by omega), s4 q g1]
      refine Ex_mv rfl rfl ?_; refine Ex_mv rfl rfl ?_; refine Ex_invV rfl (by rfl) (by rfl) hc1 (by rfl) f2 ?_; refine Ex_mv rfl rfl ?_
      refine Ex_mv rfl rfl ?_; refine Ex_mv rfl rfl ?_; refine Ex_invV rfl (by rfl) (by rfl) hc2 (by rfl) f3 ?_; refine Ex_putf rfl s33 rfl rfl ?_
      generalize hg4 : hset h3 h.1 _ = h4
      have u1 : h4.1 = h.1 + 3 := by rw [← hg4]; show h3.1 = _; omega
      have u2 : h4.2.1 = h.2.1 + 10 := by rw [← hg4]; show h3.2.1 = _; rw [t2, F2.2.1, s2]
      have u3 : h4.2.2 h.1 = some (true, .inr (10, [.int (nI p), .ref h2.1])) := by rw [← hg4]; exact hs_at
      have u4 : ∀ q, q ≠ h.1 → h4.2.2 q = h3.2.2 q := fun q hq => by rw [← hg4]; exact if_neg hq
      clear hg4
      have o4 : ∀ q, q < h.1 → q ≠ m0 → h4.2.2 q = h.2.2 q := fun q g1 g2 => (u4 q (by omega)).trans (o3 q g1 g2)
      have hc4 : h4.2.2 m0 = _ := (u4 m0 (by omega)).trans hc3
      refine Ex_mv rfl rfl ?_; refine Ex_getf rfl hc4 rfl ?_; refine Ex_getf rfl ((o4 f (by omega) (by omega)).trans hf) hf0 ?_; refine Ex_mv rfl rfl ?_
      refine Ex_aald rfl ((o4 (f + 4) (by omega) (by omega)).trans hm4) rfl (vp_in_nI (by omega) (by decide)) e2 ?_
      refine Ex_mv rfl rfl ?_; refine Ex_mv rfl rfl ?_
      refine Ex_aast rfl ((o4 (f + 5 + kk) (by omega) (by omega)).trans hg) u3 rfl (vp_in_nI (by omega) (by decide)) ?_
      refine Ex_incN rfl rfl ?_; refine Ex_mv rfl rfl ?_
      generalize hg5 : hset h4 (f + 5 + kk) _ = h5
      have v1 : h5.1 = h.1 + 3 := by rw [← hg5]; exact u1
      have v2 : h5.2.1 = h.2.1 + 10 := by rw [← hg5]; exact u2
      have v3 : h5.2.2 (f + 5 + kk) = some (true, .inl (8, 12, .inr (.inr (.inr (.inr (va_up g k (some h.1))))))) := by rw [← hg5, hs_at, nI_clamp (by omega)]
      have v4 : ∀ q, q ≠ f + 5 + kk → h5.2.2 q = h4.2.2 q := fun q hq => by rw [← hg5]; exact if_neg hq
      clear hg5
      have o5 : ∀ q, q < h.1 → q ≠ m0 → q ≠ f + 5 + kk → h5.2.2 q = h.2.2 q := fun q g1 g2 g3 => (v4 q g3).trans (o4 q g1 g2)
      have hsm := @smP_mem B kk p x
      have R5 : RQ h5 m0 f a B (p_mem B kk p x) := by
        refine RQ.sm ?_ hsm
        obtain ⟨y1, y2, y3, y4, y5⟩ := R3
        exact ⟨y1, y2, y3, (v4 m0 (by omega)).trans ((u4 m0 (by omega)).trans y4), y5⟩
      have fm5 : Fm m0 (f + 5 + kk) h h5 3 10 := ⟨by omega, by omega, by omega, by omega, o5⟩
      refine MO_parse_mem hkk hd hb hf0 hf8 hfb hgm hgc hc12 ⟨rr, hrr⟩ d (k + 1) _ _ h5 _ _ (by omega) R5 ((o5 f (by omega) (by omega) (by omega)).trans hf) ⟨wA, gA, (o5 b (by omega) (by omega) (by omega)).trans A1, A2⟩ ((o5 _ (by omega) (by omega) (by omega)).trans hm4) ((o5 _ (by omega) (by omega) (by omega)).trans hm7) v3 (by omega) R ?_
      intro h' x3' x5' x6' g' z1 z2 z3 z4 z5
      refine K h' x3' x5' x6' g' z1 ?_ z3 (fun j hj => ?_) (fun p' x' y hq hy j hj => ?_)
      · have := fm5.tr z2
        rw [show 3 * (d + 1) = 3 + 3 * d by omega, show 10 * (d + 1) = 10 + 10 * d by omega]; exact this
      · rw [z4 j (by omega)]; simp [va_up, show j ≠ k by omega]
      · simp only [Sum.inr.injEq, Prod.mk.injEq] at hq
        obtain ⟨rfl, rfl⟩ := hq
        have hy' : p_mems B kk d (p_mem B kk p x) = .inr y := hy
        cases hpm : p_mem B kk p x with
        | inl e => rw [hpm, p_mems_bad] at hy'; cases hy'
        | inr e =>
          obtain ⟨a1, x1'⟩ := e
          have hmm := k_mems 1 p a1 x x1' hp (show p_mems B kk 1 (.inr (p, x)) = .inr (a1, x1') from hpm)
          cases j with
          | zero =>
            refine ⟨h.1, by rw [Nat.add_zero, z4 k (by omega)]; simp [va_up], ?_⟩
            have hatt : ∃ y, p_attrs B (p_skip B 6 (.inr (p, x))) = .inr y := by
              have hs2 := hsm
              rw [hpm] at hs2
              cases hq2 : p_attrs B (p_skip B 6 (.inr (p, x))) with
              | inl e => rw [hq2] at hs2; exact absurd hs2 id
              | inr e => exact ⟨e, rfl⟩
            obtain ⟨y2, hy2⟩ := hatt
            have h6 : p_skip B 6 (.inr (p, x)) = .inr (p + 6, x) := by
              cases hq3 : p_skip B 6 (.inr (p, x)) with
              | inl e =>
                rw [hq3] at hy2
                obtain ⟨_, _, e4, -⟩ := k_attrs hy2
                cases e4
              | inr e =>
                obtain ⟨ea, ex⟩ := e
                obtain ⟨a3, e3, e4, -⟩ := k_skip hq3
                simp only [Sum.inr.injEq, Prod.mk.injEq] at e3
                obtain ⟨rfl, rfl⟩ := e3
                rw [e4]
            rw [h6] at hy2 t4
            obtain ⟨ga', w1, w2, w3⟩ := t4 (p + 6) x y2 rfl hy2
            have keep : ∀ q, h.1 ≤ q → q < h.1 + 3 → h'.2.2 q = h5.2.2 q := fun q g1 g2 => z2.2.2.2.2 q (by omega) (by omega) (by omega)
            have hle' : h5.1 ≤ h'.1 := z2.1
            refine ⟨h2.1, ?_, ⟨h2.1 + 1, ga', ?_, ?_, w3, ⟨by omega, fun z => by simp only [muP] at z; omega⟩, ⟨by omega, fun z => by simp only [muP] at z; omega⟩⟩, ⟨by omega, fun z => by simp only [muP] at z; omega⟩⟩
            · rw [keep _ (by omega) (by omega), v4 _ (by omega)]; exact u3
            · rw [keep _ (by omega) (by omega), v4 _ (by omega), u4 _ (by omega)]; exact w1
            · rw [keep _ (by omega) (by omega), v4 _ (by omega), u4 _ (by omega)]; exact w2
          | succ j =>
            obtain ⟨u, g1, g2⟩ := z5 a1 x1' y hpm hy' j (by omega)
            refine ⟨u, by rw [← g1, show k + (j + 1) = k + 1 + j by omega], ?_⟩
            have : (memL B (d + 1) p).getD (j + 1) 0 = (memL B d a1).getD j 0 := by
              have e : a1 = attE B (p + 6) := hmm.1
              rw [memL, e]; rfl
            rw [this]; exact g2
end REF5
