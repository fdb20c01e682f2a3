/-! the other side: parts, attributes -/
def smP (s s' : Rt) : Prop := match s, s' with
  | .inl e, .inl e' => e = e'
  | .inr (a, _), .inr (a', _) => a = a'
  | _, _ => False
theorem RQ.sm {h : Hp} {m0 f : Nat} {a : Nat → Value} {B : List Nat} {s s' : Rt} (hs : RQ h m0 f a B s) (e : smP s s') : RQ h m0 f a B s' := by
  obtain ⟨p, k, fp, h1, h2, h3, h4⟩ := hs
  refine ⟨p, k, fp, h1, h2, h3, ?_⟩
  cases s with
  | inl q => cases s' with
    | inl q' => have : q = q' := e; subst this; exact h4
    | inr q' => exact absurd e id
  | inr q => cases s' with
    | inl q' => exact absurd e id
    | inr q' => obtain ⟨g1, g2, g3⟩ := h4; have : q.1 = q'.1 := e; exact ⟨g1, g2, g3.trans this⟩
theorem smP_tell {B : List Nat} {w : Nat} (s : Rt) : smP (p_skip B 2 s) (p_tell B w s) := by
  cases s with
  | inl e => exact rfl
  | inr e =>
    unfold p_skip p_tell
    by_cases h : e.1 + 2 ≤ B.length
    · simp only [h, if_true]; exact rfl
    · simp only [h, if_false]; exact rfl
theorem smP_rf (s : Rt) : smP s s := by cases s <;> exact rfl
theorem smP_tr {s s1 s2 : Rt} (h1 : smP s s1) (h2 : smP s1 s2) : smP s s2 := by
  cases s <;> cases s1 <;> cases s2 <;> first | exact absurd h1 id | exact absurd h2 id | exact Eq.trans h1 h2
theorem smP_skip {B : List Nat} {k : Nat} {s s' : Rt} (h : smP s s') : smP (p_skip B k s) (p_skip B k s') := by
  cases s <;> cases s'
  · exact h
  · exact absurd h id
  · exact absurd h id
  · next x y =>
    have e : x.1 = y.1 := h
    unfold p_skip
    by_cases q : x.1 + k ≤ B.length
    · have q' : y.1 + k ≤ B.length := by omega
      simp only [q, q', if_true]; exact congrArg (· + k) e
    · have q' : ¬ y.1 + k ≤ B.length := by omega
      simp only [q, q', if_false]; exact rfl
theorem skip_skip {B : List Nat} {j k : Nat} (s : Rt) : p_skip B j (p_skip B k s) = p_skip B (k + j) s := by
  cases s with
  | inl e => rfl
  | inr e =>
    unfold p_skip
    by_cases q : e.1 + k ≤ B.length
    · simp only [q, if_true]
      by_cases r : e.1 + k + j ≤ B.length
      · rw [if_pos r, if_pos (by omega), Nat.add_assoc]
      · rw [if_neg r, if_neg (by omega)]
    · simp only [q, if_false]
      rw [if_neg (by omega)]
theorem smP_att {B : List Nat} {p : Nat} {x : Fs} : smP (if p + 6 ≤ B.length then (if 2 ^ 31 ≤ b4 B (p + 2) then .inl (5, p + 2) else p_skip B (b4 B (p + 2)) (.inr (p + 6, x))) else .inl (1, B.length)) (p_att B (.inr (p, x))) := by
  unfold p_att
  by_cases h : p + 6 ≤ B.length
  · have e : p_skip B 4 (p_tell B 1 (.inr (p, x))) = .inr (p + 2 + 4, addT x p 1) := by
      unfold p_tell p_skip
      simp only [show p + 2 ≤ B.length by omega, if_true, show p + 2 + 4 ≤ B.length by omega]
    rw [if_pos h, e]
    simp only [show p + 2 + 4 - 4 = p + 2 by omega]
    by_cases g : 2 ^ 31 ≤ b4 B (p + 2)
    · rw [if_pos g, if_pos g]; exact rfl
    · rw [if_neg g, if_neg g]
      exact smP_skip (show smP (.inr (p + 6, x)) (.inr (p + 2 + 4, addT x p 1)) from (by show p + 6 = p + 2 + 4; omega))
  · rw [if_neg h]
    have e : p_skip B 4 (p_tell B 1 (.inr (p, x))) = .inl (1, B.length) := by
      unfold p_tell p_skip
      by_cases g : p + 2 ≤ B.length
      · simp only [g, if_true, show ¬ p + 2 + 4 ≤ B.length by omega, if_false]
      · simp only [g, if_false]
    rw [e]; exact rfl
theorem smP_atts {B : List Nat} : ∀ (d : Nat) (s s' : Rt), smP s s' → smP (p_atts B d s) (p_atts B d s')
  | 0, s, s', h => h
  | d + 1, s, s', h => by
    cases s with
    | inl e => cases s' with
      | inl e' => exact h
      | inr e' => exact absurd h id
    | inr e => cases s' with
      | inl e' => exact absurd h id
      | inr e' =>
        have q : e.1 = e'.1 := h
        refine smP_atts d _ _ ?_
        obtain ⟨p, x⟩ := e
        obtain ⟨p', x'⟩ := e'
        have q : p = p' := q
        subst q
        have h1 := @smP_att B p x
        have h2 := @smP_att B p x'
        have sy : ∀ {s t : Rt}, smP s t → smP t s := by
          intro s t z
          cases s <;> cases t <;> first | exact absurd z id | exact Eq.symm z
        refine smP_tr (sy h1) (smP_tr ?_ h2)
        split
        · split
          · exact rfl
          · exact smP_skip (show smP (.inr (p + 6, x)) (.inr (p + 6, x')) from rfl)
        · exact rfl
section REF3
variable {nb sa : Nat} {h : Hp} {m0 f b : Nat} {a : Nat → Value} {B : List Nat}
theorem c_MO_partT {t L k n : Nat} {w : Bool} {g : Nat → Int32} {X : List Nat} (ht : h.2.2 t = some (w, .inl (0, L, .inl g))) (hlt : t < h.1) (hX : X.length = n) (hg : ∀ j, j < n → g (k + j) = sb_b (X.getD j 0)) (hk : k + n ≤ L) (hL : L ≤ 408) (hb : ∀ x ∈ X, x < 256) (hn : n ≤ 400) : EvQ (prog nb sa) m_MO_part [.ref t, .int (nI k), .int (nI n)] h (fun v h' => v = some (.ref h.1) ∧ (∃ g, h'.2.2 h.1 = some (true, .inl (0, X.length, .inl g)) ∧ (∀ j, j < X.length → g j = sb_b (X.getD j 0)) ∧ (∀ x ∈ X, x < 256) ∧ X.length ≤ 400) ∧ h'.1 = h.1 + 1 ∧ h'.2.1 = h.2.1 + n ∧ ∀ q, q < h.1 → h'.2.2 q = h.2.2 q) := by
  have e0 : (nI n).toNatClampNeg = n := nI_clamp (by omega)
  have ek : (nI k).toNatClampNeg = k := nI_clamp (by omega)
  have t1 : ∀ c c', (hnew h c c').2.2 t = _ := fun c c' => hn_ne (by omega) ht
  refine EvQ_of k_MO_part 4 [some (.ref t), some (.int (nI k)), some (.int (nI n)), none] rfl (Nat.le_of_ble_eq_true rfl) rfl ?_
  refine Ex_mv rfl rfl ?_; refine Ex_newi rfl (vin (by omega)) ?_; refine Ex_mv rfl rfl ?_; refine Ex_mv rfl rfl ?_; refine Ex_mv rfl rfl ?_; refine Ex_mv rfl rfl ?_; refine Ex_mv rfl rfl ?_; refine Ex_mv rfl rfl ?_; refine Ex_acp rfl rfl (t1 _ _) hn_at rfl (nI_pos (by omega)) (nI_pos (by omega)) (by decide) (by rw [e0, ek]; exact hk) (by rw [show (nI 0).toNatClampNeg = 0 from by decide]; omega) ?_; refine Ex_mv rfl rfl ?_
  refine Ex_rt rfl rfl ?_
  refine ⟨rfl, ⟨_, by rw [hX]; exact (by rw [e0]; exact hs_at), fun j hj => ?_, hb, by omega⟩, rfl, by show h.2.1 + _ = _; rw [e0], fun q hq => (if_neg (by omega)).trans (if_neg (by omega))⟩
  rw [show (nI 0).toNatClampNeg = 0 from by decide, ek, pk_cpy_in (by omega) (by omega), Nat.sub_zero]
  exact hg j (by omega)
theorem c_MO_part {t L k n : Nat} {w : Bool} {g : Nat → Int32} {X : List Nat} (ht : h.2.2 t = some (w, .inl (0, L, .inl g))) (hlt : t < h.1) (hX : X.length = n) (hg : ∀ j, j < n → g (k + j) = sb_b (X.getD j 0)) (hk : k + n ≤ L) (hL : L ≤ 408) (hb : ∀ x ∈ X, x < 256) (hn : n ≤ 400) : EvQ (prog nb sa) m_MO_part [.ref t, .int (nI k), .int (nI n)] h (fun v h' => v = some (.ref h.1) ∧ BA h' h.1 X ∧ h'.1 = h.1 + 1 ∧ h'.2.1 = h.2.1 + n ∧ ∀ q, q < h.1 → h'.2.2 q = h.2.2 q) := by
  obtain ⟨v, h', e, q1, ⟨g', q2⟩, q3⟩ := c_MO_partT (nb := nb) (sa := sa) ht hlt hX hg hk hL hb hn
  exact ⟨v, h', e, q1, ⟨true, g', q2⟩, q3⟩
theorem MO_attributes_loop {t u c : Nat} (hd : m0 < f) (hb : m0 < b) (htu : m0 < t ∧ m0 < u ∧ t ≠ u ∧ f ≠ u ∧ b ≠ u) (hc6 : c ≤ 6) : ∀ (d k : Nat) (x3 x4 : Option Value) (h : Hp) (s : Rt) (g : Nat → Int32), k + d = c → RQ h m0 f a B s → HB h f b B → h.2.2 t = some (true, .inr (7, [.int (nI c), .ref u])) → h.2.2 u = some (true, .inl (1, 6, .inl g)) → Ex (prog nb sa) k_MO_attributes 20 [some (.ref m0), some (.ref t), some (.int (nI k)), x3, x4] [] h (fun v h' => v = some (.ref t) ∧ RQ h' m0 f a B (p_atts B d s) ∧ h'.1 = h.1 ∧ h'.2.1 = h.2.1 ∧ (∀ q, q ≠ m0 → q ≠ u → h'.2.2 q = h.2.2 q) ∧ ∃ g', h'.2.2 u = some (true, .inl (1, 6, .inl g')) ∧ (∀ j, j < k → g' j = g j) ∧ ∀ p x y, s = .inr (p, x) → p_atts B d s = .inr y → ∀ j, k ≤ j → j < c → g' j = nI (atP B (j - k) p))
  | 0, k, x3, x4, h, s, g, hk, hs, hB, ht, hu => by
    refine Ex_mv rfl rfl ?_; refine Ex_mv rfl rfl ?_; refine Ex_getf rfl (by assumption) rfl ?_; refine Ex_mv rfl rfl ?_; refine Ex_ift (nI_le (by omega) (by omega)) ?_; refine Ex_mv rfl rfl ?_
    refine Ex_rt rfl rfl ?_
    exact ⟨rfl, hs, rfl, rfl, fun _ _ _ => rfl, g, hu, fun _ _ => rfl, fun p x y _ _ j h1 h2 => by omega⟩
  | d + 1, k, x3, x4, h, s, g, hk, hs, hB, ht, hu => by
    obtain ⟨p, j, fp, hc, hp, hj, hm⟩ := id hs
    obtain ⟨⟨r, hf⟩, w, gb, e1, e2, e3, e4⟩ := id hB
    cases s with
    | inl e =>
      obtain ⟨q1, q2, q3⟩ := hm
      refine Ex_mv rfl rfl ?_; refine Ex_mv rfl rfl ?_; refine Ex_getf rfl (by assumption) rfl ?_; refine Ex_mv rfl rfl ?_; refine Ex_iff (nI_ge (by omega) (by omega)) ?_; refine Ex_mv rfl rfl ?_; refine Ex_getf rfl (by assumption) rfl ?_; refine Ex_mv rfl rfl ?_; refine Ex_ift (nI_nz (by omega) (by omega)) ?_; refine Ex_mv rfl rfl ?_
      refine Ex_rt rfl rfl ?_
      exact ⟨rfl, hs, rfl, rfl, fun _ _ _ => rfl, g, hu, fun _ _ => rfl, fun p x y e => by cases e⟩
    | inr e =>
      obtain ⟨p0, x⟩ := e
      obtain ⟨q1, q2, q3⟩ := hm
      subst q1
      subst q3
      have F0 : ∀ z, FrI u (u + 1) h (hset h u z) := fun z => FrI.rf.set (by omega) (by omega)
      have h0c : ∀ z, (hset h u z).2.2 m0 = _ := fun z => hs_ne (by omega) hc
      have R0 : RQ (hset h u (.inl (1, 6, .inl (upd g (nI k).toNatClampNeg (nI p))))) m0 f a B (.inr (p, x)) := ⟨p, 0, fp, hs_ne (by omega) hc, hp, by decide, rfl, q2, rfl⟩
      have hB0 : HB (hset h u (.inl (1, 6, .inl (upd g (nI k).toNatClampNeg (nI p))))) f b B := hB.fr (F0 _) (by omega) (by omega)
      obtain ⟨_, h1, f1, rfl, R1, F1⟩ := c_MO_goes (nb := nb) (sa := sa) R0 hB0 hd hb (k := 6) (by decide)
      have hB1 := hB0.fr F1 (by omega) (by omega)
      obtain ⟨r1, hf1⟩ := hB1.1
      have ht1 : h1.2.2 t = _ := F1.at (hs_ne (show t ≠ u by omega) ht) (by omega)
      have hu1 : h1.2.2 u = _ := F1.at hs_at (by omega)
      have sat := @smP_att B p x
      have hb4 := b4_lt e3 (p + 2)
      obtain ⟨p1, j1, fp1, hc1, hp1, hj1, hm1⟩ := id R1
      have fin : ∀ (h2 : Hp) (s2 : Rt) (x3 x4 : Option Value), RQ h2 m0 f a B s2 → smP s2 (p_att B (.inr (p, x))) → FrI m0 (m0 + 1) h1 h2 → Ex (prog nb sa) k_MO_attributes 90 [some (.ref m0), some (.ref t), some (.int (nI k)), x3, x4] [] h2 (fun v h' => v = some (.ref t) ∧ RQ h' m0 f a B (p_atts B (d + 1) (.inr (p, x))) ∧ h'.1 = h.1 ∧ h'.2.1 = h.2.1 ∧ (∀ q, q ≠ m0 → q ≠ u → h'.2.2 q = h.2.2 q) ∧ ∃ g', h'.2.2 u = some (true, .inl (1, 6, .inl g')) ∧ (∀ j, j < k → g' j = g j) ∧ ∀ p' x' y, (.inr (p, x) : Rt) = .inr (p', x') → p_atts B (d + 1) (.inr (p, x)) = .inr y → ∀ j, k ≤ j → j < c → g' j = nI (atP B (j - k) p')) := by
        intro h2 s2 x3 x4 R2 hsm F2
        have ih := MO_attributes_loop hd hb htu hc6 d (k + 1) x3 x4 h2 (p_att B (.inr (p, x))) _ (by omega) (R2.sm hsm) (hB1.fr F2 (by omega) (by omega)) (F2.at ht1 (by omega)) (F2.at hu1 (by omega))
        refine Ex_incN rfl rfl ?_; refine Ex_mv rfl rfl ?_
        refine Ex_mono ih ?_
        rintro v h' ⟨rfl, z1, z2, z3, z4, g', z5, z6, z7⟩
        refine ⟨rfl, z1, z2.trans (F2.1.trans F1.1), z3.trans (F2.2.1.trans F1.2.1), fun q g1 g2 => ?_, g', z5, fun j hj => ?_, fun p' x' y hq hy j g1 g2 => ?_⟩
        · rw [z4 q g1 g2, F2.2.2 q (by omega), F1.2.2 q (by omega)]; exact if_neg g2
        · rw [z6 j (by omega), nI_clamp (by omega), pk_un (by omega)]
        · simp only [Sum.inr.injEq, Prod.mk.injEq] at hq
          obtain ⟨rfl, rfl⟩ := hq
          by_cases hjk : j = k
          · subst hjk
            rw [z6 j (by omega), nI_clamp (by omega), pk_us, Nat.sub_self]; rfl
          · have hy' : p_atts B d (p_att B (.inr (p, x))) = .inr y := hy
            cases hpa : p_att B (.inr (p, x)) with
            | inl e => rw [hpa, p_atts_bad] at hy'; cases hy'
            | inr e =>
              obtain ⟨a1, x1⟩ := e
              obtain ⟨a2, x2, e5, e6, -⟩ := k_att hpa
              simp only [Sum.inr.injEq, Prod.mk.injEq] at e5
              obtain ⟨rfl, rfl⟩ := e5
              rw [z7 a1 x1 y hpa hy' j (by omega) g2, e6, show j - k = (j - (k + 1)) + 1 by omega]; rfl
      by_cases h6 : p + 6 ≤ B.length
      · have es : p_skip B 6 (.inr (p, x)) = .inr (p + 6, x) := if_pos h6
        rw [es] at hm1 f1 R1
        obtain ⟨q1, q4, q3⟩ := hm1
        subst q1
        subst q3
        rw [if_pos h6] at sat
        by_cases hn : 2 ^ 31 ≤ b4 B (p + 2)
        · rw [if_pos hn] at sat
          obtain ⟨_, h2, f2, rfl, R2, F2⟩ := c_MO_fails (nb := nb) (sa := sa) R1 (k := 5) (w := p + 6 - 4) (by decide) (by decide)
          rw [show p + 6 - 4 = p + 2 by omega] at R2
          obtain ⟨_, h3, f3, rfl, R3, F3⟩ := c_MO_goesB (nb := nb) (sa := sa) R2 (nI (b4 B (p + 2)))
          have hng : ¬ (0 : Int32) ≤ nI (b4 B (p + 2)) := nI_neg32 hn hb4
          obtain ⟨p2, j2, fp2, hc2, -⟩ := id R2
          refine Ex_mv rfl rfl ?_; refine Ex_mv rfl rfl ?_; refine Ex_getf rfl (by assumption) rfl ?_; refine Ex_mv rfl rfl ?_; refine Ex_iff (nI_ge (by omega) (by omega)) ?_; refine Ex_mv rfl rfl ?_; refine Ex_getf rfl (by assumption) rfl ?_; refine Ex_mv rfl rfl ?_; refine Ex_iff (by decide) ?_; refine Ex_mv rfl rfl ?_; refine Ex_getf rfl (by assumption) rfl ?_; refine Ex_mv rfl rfl ?_; refine Ex_mv rfl rfl ?_; refine Ex_getf rfl (by assumption) rfl ?_; refine Ex_iast rfl hu (vp_in_nI (by omega) (by decide)) ?_; refine Ex_mv rfl rfl ?_; refine Ex_mv rfl rfl ?_; refine Ex_invV rfl (by rfl) (by rfl) (h0c _) (by rfl) (f1) ?_; refine Ex_mv rfl rfl ?_; refine Ex_iff (show ¬ nI 1 = 0 by decide) ?_; refine Ex_mv rfl rfl ?_; refine Ex_getf rfl (by assumption) rfl ?_; refine Ex_mv rfl rfl ?_; refine Ex_getf rfl (by assumption) rfl ?_; refine Ex_mv rfl rfl ?_; (first | refine Ex_subN rfl (by omega) ?_ | refine Ex_mv rfl rfl ?_); refine Ex_invV rfl (by rfl) (by rfl) (by assumption) (by rfl) (c_MH_four hB1 (by omega)) ?_
          rw [show p + 6 - 4 = p + 2 by omega]
          refine Ex_mv rfl rfl ?_; refine Ex_mv rfl rfl ?_; refine Ex_mv rfl rfl ?_; refine Ex_iff hng ?_; refine Ex_mv rfl rfl ?_; refine Ex_mv rfl rfl ?_; refine Ex_mv rfl rfl ?_; refine Ex_getf rfl (by assumption) rfl ?_; refine Ex_mv rfl rfl ?_; (first | refine Ex_subN rfl (by omega) ?_ | refine Ex_mv rfl rfl ?_); refine Ex_invV rfl (by rfl) (by rfl) (by assumption) (by rfl) (f2) ?_; refine Ex_mv rfl rfl ?_; refine Ex_mv rfl rfl ?_; refine Ex_invV rfl (by rfl) (by rfl) (by assumption) (by rfl) (f3) ?_; refine Ex_mv rfl rfl ?_
          exact fin h3 _ _ _ R3 sat (F2.tr F3)
        · rw [if_neg hn] at sat
          obtain ⟨_, h3, f3, rfl, R3, F3⟩ := c_MO_goes (nb := nb) (sa := sa) R1 hB1 hd hb (k := b4 B (p + 2)) (by omega)
          refine Ex_mv rfl rfl ?_; refine Ex_mv rfl rfl ?_; refine Ex_getf rfl (by assumption) rfl ?_; refine Ex_mv rfl rfl ?_; refine Ex_iff (nI_ge (by omega) (by omega)) ?_; refine Ex_mv rfl rfl ?_; refine Ex_getf rfl (by assumption) rfl ?_; refine Ex_mv rfl rfl ?_; refine Ex_iff (by decide) ?_; refine Ex_mv rfl rfl ?_; refine Ex_getf rfl (by assumption) rfl ?_; refine Ex_mv rfl rfl ?_; refine Ex_mv rfl rfl ?_; refine Ex_getf rfl (by assumption) rfl ?_; refine Ex_iast rfl hu (vp_in_nI (by omega) (by decide)) ?_; refine Ex_mv rfl rfl ?_; refine Ex_mv rfl rfl ?_; refine Ex_invV rfl (by rfl) (by rfl) (h0c _) (by rfl) (f1) ?_; refine Ex_mv rfl rfl ?_; refine Ex_iff (show ¬ nI 1 = 0 by decide) ?_; refine Ex_mv rfl rfl ?_; refine Ex_getf rfl (by assumption) rfl ?_; refine Ex_mv rfl rfl ?_; refine Ex_getf rfl (by assumption) rfl ?_; refine Ex_mv rfl rfl ?_; (first | refine Ex_subN rfl (by omega) ?_ | refine Ex_mv rfl rfl ?_); refine Ex_invV rfl (by rfl) (by rfl) (by assumption) (by rfl) (c_MH_four hB1 (by omega)) ?_
          rw [show p + 6 - 4 = p + 2 by omega]
          refine Ex_mv rfl rfl ?_; refine Ex_mv rfl rfl ?_; refine Ex_mv rfl rfl ?_; refine Ex_ift (nI_pos' (by omega)) ?_; refine Ex_mv rfl rfl ?_; refine Ex_mv rfl rfl ?_; refine Ex_invV rfl (by rfl) (by rfl) (by assumption) (by rfl) (f3) ?_; refine Ex_mv rfl rfl ?_
          exact fin h3 _ _ _ R3 sat F3
      · have es : p_skip B 6 (.inr (p, x)) = .inl (1, B.length) := if_neg h6
        rw [es] at f1 R1
        rw [if_neg h6] at sat
        refine Ex_mv rfl rfl ?_; refine Ex_mv rfl rfl ?_; refine Ex_getf rfl (by assumption) rfl ?_; refine Ex_mv rfl rfl ?_; refine Ex_iff (nI_ge (by omega) (by omega)) ?_; refine Ex_mv rfl rfl ?_; refine Ex_getf rfl (by assumption) rfl ?_; refine Ex_mv rfl rfl ?_; refine Ex_iff (by decide) ?_; refine Ex_mv rfl rfl ?_; refine Ex_getf rfl (by assumption) rfl ?_; refine Ex_mv rfl rfl ?_; refine Ex_mv rfl rfl ?_; refine Ex_getf rfl (by assumption) rfl ?_; refine Ex_iast rfl hu (vp_in_nI (by omega) (by decide)) ?_; refine Ex_mv rfl rfl ?_; refine Ex_mv rfl rfl ?_; refine Ex_invV rfl (by rfl) (by rfl) (h0c _) (by rfl) (f1) ?_; refine Ex_mv rfl rfl ?_; refine Ex_ift (show nI 0 = 0 from rfl) ?_
        exact fin h1 _ _ _ R1 sat FrI.rf
theorem c_MO_attributes {s : Rt} (hs : RQ h m0 f a B s) (hB : HB h f b B) (hd : m0 < f) (hb : m0 < b) (hf1 : f < h.1) (hb1 : b < h.1) : EvQ (prog nb sa) m_MO_attributes [.ref m0] h (fun v h' => v = some (.ref h.1) ∧ RQ h' m0 f a B (p_attrs B s) ∧ h'.1 = h.1 + 2 ∧ h'.2.1 = h.2.1 + 8 ∧ (∀ q, q < h.1 → q ≠ m0 → h'.2.2 q = h.2.2 q) ∧ ∀ p x y, s = .inr (p, x) → p_attrs B s = .inr y → ∃ g, h'.2.2 h.1 = some (true, .inr (7, [.int (nI (b2 B p)), .ref (h.1 + 1)])) ∧ h'.2.2 (h.1 + 1) = some (true, .inl (1, 6, .inl g)) ∧ ∀ i, i < b2 B p → g i = nI (atP B i (p + 2))) := by
  obtain ⟨p, j, fp, hc, hp, hj, hm⟩ := id hs
  obtain ⟨⟨r, hf⟩, w, gb, e1, e2⟩ := id hB
  have key : EvQ (prog nb sa) m_MA_init [.ref h.1] (hnew h 2 (.inr (7, [.int 0, .null]))) (fun v h' => v = none ∧ h'.1 = h.1 + 2 ∧ h'.2.1 = h.2.1 + 8 ∧ (∀ q, q < h.1 → h'.2.2 q = h.2.2 q) ∧ h'.2.2 h.1 = some (true, .inr (7, [.int 0, .ref (h.1 + 1)])) ∧ h'.2.2 (h.1 + 1) = some (true, .inl (1, 6, .inl (fun _ => 0)))) := by
    have n1 : ∀ c c', (hnew (hnew h 2 (.inr (7, [.int 0, .null]))) c c').2.2 h.1 = _ := fun c c' => hn_ne (show h.1 ≠ h.1 + 1 by omega) hn_at
    refine EvQ_of k_MA_init 1 [some (.ref h.1)] rfl (Nat.le_of_ble_eq_true rfl) rfl ?_
    refine Ex_mv rfl rfl ?_; refine Ex_mv rfl rfl ?_; refine Ex_mv rfl rfl ?_; refine Ex_mv rfl rfl ?_; refine Ex_newi rfl (vin (by decide)) ?_; refine Ex_putf rfl (n1 _ _) rfl rfl ?_
    refine Ex_rt rfl rfl ?_
    exact ⟨rfl, rfl, rfl, fun q hq => (if_neg (by omega)).trans ((if_neg (show q ≠ h.1 + 1 by omega)).trans (if_neg (by omega))), hs_at, hs_ne (by omega) (if_pos rfl)⟩
  obtain ⟨_, h1, f1, rfl, s1, s2, s3, s4, s5⟩ := key
  have hc1 : h1.2.2 m0 = _ := (s3 m0 (by omega)).trans hc
  have R1 : RQ h1 m0 f a B s := ⟨p, j, fp, hc1, hp, hj, hm⟩
  have hB1 : HB h1 f b B := ⟨⟨r, (s3 f hf1).trans hf⟩, w, gb, (s3 b hb1).trans e1, e2⟩
  obtain ⟨_, h2, f2, rfl, R2, F2⟩ := c_MO_many (nb := nb) (sa := sa) R1 hB1 hd hb (m := 6) (by decide)
  have ht2 := F2.at s4 (by omega)
  have hu2 := F2.at s5 (by omega)
  have hle := p_many_le (B := B) 6 s
  have F3 : ∀ z, FrI h.1 (h.1 + 1) h2 (hset h2 h.1 z) := fun z => FrI.rf.set (by omega) (by omega)
  have R3 : ∀ z, RQ (hset h2 h.1 z) m0 f a B (p_many B 6 s).2 := fun z => by
    obtain ⟨p2, j2, fp2, hc2, hr⟩ := R2
    exact ⟨p2, j2, fp2, hs_ne (by omega) hc2, hr⟩
  have ih := MO_attributes_loop (nb := nb) (sa := sa) (a := a) (B := B) (t := h.1) (u := h.1 + 1) (c := (p_many B 6 s).1) hd hb (by omega) hle (p_many B 6 s).1 0 none none (hset h2 h.1 (.inr (7, [.int (nI (p_many B 6 s).1), .ref (h.1 + 1)]))) (p_many B 6 s).2 (fun _ => 0) (by omega) (R3 _) ((hB1.fr F2 (by omega) (by omega)).fr (F3 _) (by omega) (by omega)) hs_at (hs_ne (by omega) hu2)
  have hc1' := hc1
  refine EvQ_of k_MO_attributes 5 [some (.ref m0), none, none, none, none] rfl (Nat.le_of_ble_eq_true rfl) rfl ?_
  refine Ex_new rfl ?_; refine Ex_mv rfl rfl ?_; refine Ex_invI rfl (by rfl) (by rfl) (by rfl) (f1) ?_; refine Ex_mv rfl rfl ?_; refine Ex_mv rfl rfl ?_; refine Ex_mv rfl rfl ?_; refine Ex_mv rfl rfl ?_; refine Ex_invV rfl (by rfl) (by rfl) (by assumption) (by rfl) (f2) ?_; refine Ex_putf rfl ht2 rfl rfl ?_; refine Ex_mv rfl rfl ?_; refine Ex_mv rfl rfl ?_
  refine Ex_mono ih ?_
  rintro v h' ⟨rfl, z1, z2, z3, z4, g', z5, z6, z7⟩
  refine ⟨rfl, z1, by rw [z2]; show h2.1 = _; rw [F2.1, s1], by rw [z3]; show h2.2.1 = _; rw [F2.2.1, s2], fun q g1 g2 => ?_, fun p x y hq hy => ?_⟩
  · rw [z4 q g2 (by omega), (F3 _).2.2 q (by omega), F2.2.2 q (by omega), s3 q g1]
  · subst hq
    obtain ⟨a1, x1, e5, r1, r2, r3, r4, r5⟩ := k_attrs hy
    simp only [Sum.inr.injEq, Prod.mk.injEq] at e5
    obtain ⟨rfl, rfl⟩ := e5
    have em : p_many B 6 (.inr (p, x)) = (b2 B p, .inr (p + 2, x)) := (if_pos r1).trans (if_pos r2)
    refine ⟨g', ?_, z5, fun i hi => ?_⟩
    · rw [z4 h.1 (by omega) (by omega), hs_at, em]
    · have hy' : p_atts B (p_many B 6 (.inr (p, x))).1 (p_many B 6 (.inr (p, x))).2 = .inr y := hy
      rw [z7 (p + 2) x y (by rw [em]) hy' i (Nat.zero_le _) (by rw [em]; exact hi), Nat.sub_zero]
end REF3
