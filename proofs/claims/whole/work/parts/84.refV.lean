/-! the other side: alike, its parts -/
def Gw (h h' : Hp) (c s : Nat) : Prop := h.1 ≤ h'.1 ∧ h'.1 ≤ h.1 + c ∧ h.2.1 ≤ h'.2.1 ∧ h'.2.1 ≤ h.2.1 + s ∧ ∀ q, q < h.1 → h'.2.2 q = h.2.2 q
theorem Gw.tr {h h1 h2 : Hp} {c s c' s' : Nat} (u : Gw h h1 c s) (v : Gw h1 h2 c' s') : Gw h h2 (c + c') (s + s') := by
  obtain ⟨u1, u2, u3, u4, u5⟩ := u
  obtain ⟨v1, v2, v3, v4, v5⟩ := v
  exact ⟨by omega, by omega, by omega, by omega, fun q g1 => (v5 q (by omega)).trans (u5 q g1)⟩
theorem Gw.mono {h h1 : Hp} {c s c' s' : Nat} (u : Gw h h1 c s) (h1' : c ≤ c') (h2 : s ≤ s') : Gw h h1 c' s' := by
  obtain ⟨u1, u2, u3, u4, u5⟩ := u
  exact ⟨by omega, by omega, by omega, by omega, u5⟩
theorem Gw.rf {h : Hp} : Gw h h 0 0 := ⟨Nat.le_refl _, by omega, Nat.le_refl _, by omega, fun _ _ => rfl⟩
theorem Gw.pf {h h' : Hp} {c s : Nat} {mu : Nat → Prop} (u : Gw h h' c s) : PF mu h h' := ⟨u.1, u.2.2.1, fun q hq => u.2.2.2.2 q hq.1⟩
section REFV
variable {nb sa : Nat} {m0 f g : Nat} {B B' : List Nat} {x y : Fs}
theorem sl_snoc {B : List Nat} {p k : Nat} (h : p + k < B.length) : sl B p (k + 1) = sl B p k ++ [b1 B (p + k)] := by
  rw [sl_add, sl1 h]
theorem MO_sameBytes_loop {h : Hp} {b c p q n : Nat} (hB : HB h f b B) (hB' : HB h g c B') (hp : p + n ≤ B.length) (hq : q + n ≤ B'.length) : ∀ (d k : Nat) (P : Prop), k + d = n → (P ↔ sl B p k = sl B' q k) → Ex (prog nb sa) k_MO_sameBytes 6 [some (.ref m0), some (.ref f), some (.int (nI p)), some (.ref g), some (.int (nI q)), some (.int (nI n)), some (.int (nI (bI P))), some (.int (nI k))] [] h (fun v h' => v = some (.int (nI (bI (sl B p n = sl B' q n)))) ∧ h' = h) := by
  obtain ⟨⟨r, hf⟩, w, gb, e1, e2, e3, e4⟩ := hB
  obtain ⟨⟨r', hf'⟩, w', gb', e1', e2', e3', e4'⟩ := hB'
  intro d
  induction d with
  | zero =>
    intro k P hk hP
    have hk' : k = n := by omega
    subst hk'
    by_cases hp' : P
    · rw [bI_t hp', bI_t (hP.mp hp')]
      refine Ex_mv rfl rfl ?_; refine Ex_mv rfl rfl ?_; refine Ex_mv rfl rfl ?_; refine Ex_ift (nI_le (by omega) (by omega)) ?_; refine Ex_mv rfl rfl ?_
      exact Ex_rt rfl rfl ⟨rfl, rfl⟩
    · rw [bI_f hp', bI_f (fun z => hp' (hP.mpr z))]
      refine Ex_mv rfl rfl ?_; refine Ex_mv rfl rfl ?_; refine Ex_mv rfl rfl ?_; refine Ex_ift (nI_le (by omega) (by omega)) ?_; refine Ex_mv rfl rfl ?_
      exact Ex_rt rfl rfl ⟨rfl, rfl⟩
  | succ d ih =>
    intro k P hk hP
    have eA : gb (nI (p + k)).toNatClampNeg = sb_b (b1 B (p + k)) := BA.get (T := B) e2 e4 (by omega)
    have eB : gb' (nI (q + k)).toNatClampNeg = sb_b (b1 B' (q + k)) := BA.get (T := B') e2' e4' (by omega)
    have lA := b1_lt e3 (p + k)
    have lB := b1_lt e3' (q + k)
    have ih' := fun P' hP' => ih (k + 1) P' (by omega) hP'
    rw [sl_snoc (show p + k < B.length by omega), sl_snoc (show q + k < B'.length by omega)] at ih'
    have hl : (sl B p k).length = (sl B' q k).length := by rw [sl_len (by omega), sl_len (by omega)]
    by_cases e : b1 B (p + k) = b1 B' (q + k)
    · have ih2 := ih' P (by rw [app_iff hl, e]; exact ⟨fun z => ⟨hP.mp z, rfl⟩, fun z => hP.mpr z.1⟩)
      have an : nI (bI P) &&& nI 1 = nI (bI P) := by
        by_cases hp' : P
        · rw [bI_t hp']; decide
        · rw [bI_f hp']; decide
      refine Ex_mv rfl rfl ?_; refine Ex_mv rfl rfl ?_; refine Ex_mv rfl rfl ?_; refine Ex_iff (nI_ge (by omega) (by omega)) ?_; refine Ex_mv rfl rfl ?_; refine Ex_mv rfl rfl ?_; refine Ex_getf rfl hf rfl ?_; refine Ex_mv rfl rfl ?_; refine Ex_mv rfl rfl ?_; (first | refine Ex_addN rfl ?_ | refine Ex_mv rfl rfl ?_); refine Ex_iald rfl e1 (vp_in_nI (by omega) (by omega)) ?_
      rw [eA]
      refine Ex_mv rfl rfl ?_; refine Ex_getf rfl hf' rfl ?_; refine Ex_mv rfl rfl ?_; refine Ex_mv rfl rfl ?_; (first | refine Ex_addN rfl ?_ | refine Ex_mv rfl rfl ?_); refine Ex_iald rfl e1' (vp_in_nI (by omega) (by omega)) ?_
      rw [eB]
      refine Ex_mv rfl rfl ?_; refine Ex_iff (by rw [e]; exact not_not_intro rfl) ?_; refine Ex_mv rfl rfl ?_; refine Ex_mv rfl rfl ?_; refine Ex_iand rfl ?_
      rw [an]
      refine Ex_mv rfl rfl ?_; (first | refine Ex_incN rfl rfl ?_ | refine Ex_mv rfl rfl ?_); refine Ex_mv rfl rfl ?_
      exact ih2
    · have ih2 := ih' False (by
        rw [app_iff hl]
        exact ⟨fun z => z.elim, fun z => e (by simpa using z.2)⟩)
      rw [bI_f (fun z => z)] at ih2
      have an : nI (bI P) &&& nI 0 = nI 0 := by
        by_cases hp' : P
        · rw [bI_t hp']; decide
        · rw [bI_f hp']; decide
      have nb1 : ¬ sb_b (b1 B (p + k)) = sb_b (b1 B' (q + k)) := fun z => e (by
        have := congrArg (fun y => y &&& nI 255) z
        simp only [sb_and lA, sb_and lB] at this
        exact (nI_eq (by omega) (by omega)).mp this)
      refine Ex_mv rfl rfl ?_; refine Ex_mv rfl rfl ?_; refine Ex_mv rfl rfl ?_; refine Ex_iff (nI_ge (by omega) (by omega)) ?_; refine Ex_mv rfl rfl ?_; refine Ex_mv rfl rfl ?_; refine Ex_getf rfl hf rfl ?_; refine Ex_mv rfl rfl ?_; refine Ex_mv rfl rfl ?_; (first | refine Ex_addN rfl ?_ | refine Ex_mv rfl rfl ?_); refine Ex_iald rfl e1 (vp_in_nI (by omega) (by omega)) ?_
      rw [eA]
      refine Ex_mv rfl rfl ?_; refine Ex_getf rfl hf' rfl ?_; refine Ex_mv rfl rfl ?_; refine Ex_mv rfl rfl ?_; (first | refine Ex_addN rfl ?_ | refine Ex_mv rfl rfl ?_); refine Ex_iald rfl e1' (vp_in_nI (by omega) (by omega)) ?_
      rw [eB]
      refine Ex_mv rfl rfl ?_; refine Ex_ift nb1 ?_; refine Ex_mv rfl rfl ?_; refine Ex_iand rfl ?_
      rw [an]
      refine Ex_mv rfl rfl ?_; (first | refine Ex_incN rfl rfl ?_ | refine Ex_mv rfl rfl ?_); refine Ex_mv rfl rfl ?_
      exact ih2
theorem c_MO_sameBytes {h : Hp} {b c p q n : Nat} (hB : HB h f b B) (hB' : HB h g c B') (hp : p + n ≤ B.length) (hq : q + n ≤ B'.length) : Ev (prog nb sa) m_MO_sameBytes [.ref m0, .ref f, .int (nI p), .ref g, .int (nI q), .int (nI n)] h (some (.int (nI (bI (sl B p n = sl B' q n))))) h := by
  have lp := MO_sameBytes_loop (nb := nb) (sa := sa) (m0 := m0) hB hB' hp hq n 0 True (by omega) (by rw [sl_nil, sl_nil]; exact ⟨fun _ => rfl, fun _ => trivial⟩)
  rw [bI_t trivial] at lp
  refine Ev_ofL k_MO_sameBytes 8 [some (.ref m0), some (.ref f), some (.int (nI p)), some (.ref g), some (.int (nI q)), some (.int (nI n)), none, none] rfl (Nat.le_of_ble_eq_true rfl) rfl ?_
  refine Ex_mv rfl rfl ?_; refine Ex_mv rfl rfl ?_; refine Ex_mv rfl rfl ?_; refine Ex_mv rfl rfl ?_
  exact lp
/-- two files and what is needed of them -/
def TwF (h : Hp) (m0 nb f g : Nat) (B B' : List Nat) (x y : Fs) (cl : List Value) : Prop := HF (muM m0) h f (B, x) ∧ HF (muM m0) h g (B', y) ∧ BAk (muM m0) h nb [] ∧ h.2.2 m0 = some (true, .inr (11, cl)) ∧ m0 + 8 ≤ h.1
theorem TwF.gw {h h' : Hp} {cl : List Value} {c s : Nat} (a : TwF h m0 nb f g B B' x y cl) (F : Gw h h' c s) : TwF h' m0 nb f g B B' x y cl := by
  obtain ⟨a1, a2, a3, a4, a5⟩ := a
  exact ⟨a1.pf F.pf, a2.pf F.pf, a3.pf F.pf, (F.2.2.2.2 m0 (by omega)).trans a4, Nat.le_trans a5 F.1⟩
theorem c_MO_samePlace {h : Hp} {cl : List Value} {p q : Nat} (hT : TwF h m0 nb f g B B' x y cl) (hG : GG B x) (hG' : GG B' y) (hp : p + 1 < B.length) (hq : q + 1 < B'.length) (hi : b2 B p = 0 ∨ tg B x.1 x.2.1 (b2 B p) ≠ 0) (hj : b2 B' q = 0 ∨ tg B' y.1 y.2.1 (b2 B' q) ≠ 0) : EvQ (prog nb sa) m_MO_samePlace [.ref m0, .ref f, .int (nI p), .ref g, .int (nI q)] h (fun v h' => v = some (.int (nI (bI (SPq (mng B x.1 x.2.1) (mng B' y.1 y.2.1) (b2 B p) (b2 B' q))))) ∧ Gw h h' 2 10) := by
  obtain ⟨hF, hF', hnb, hc, h7⟩ := id hT
  obtain ⟨bb, hb, -⟩ := hF.hb
  obtain ⟨bc, hb', -⟩ := hF'.hb
  obtain ⟨⟨r, hf⟩, -⟩ := id hb
  obtain ⟨⟨r', hf'⟩, -⟩ := id hb'
  have l1 := b2_lt hF.lt.1 p
  have l2 := b2_lt hF'.lt.1 q
  have t1 := c_MH_two (nb := nb) (sa := sa) hb hp
  have t2 := c_MH_two (nb := nb) (sa := sa) hb' hq
  refine EvQ_of k_MO_samePlace 7 [some (.ref m0), some (.ref f), some (.int (nI p)), some (.ref g), some (.int (nI q)), none, none] rfl (Nat.le_of_ble_eq_true rfl) rfl ?_
  unfold SPq
  by_cases h0 : b2 B p = 0 ∨ b2 B' q = 0
  · rw [if_pos h0]
    have fin : ∀ (R : Option Value → Hp → Prop), Ex (prog nb sa) k_MO_samePlace 25 [some (.ref m0), some (.ref f), some (.int (nI p)), some (.ref g), some (.int (nI q)), some (.int (nI (b2 B p))), some (.int (nI (b2 B' q)))] [] h R → Ex (prog nb sa) k_MO_samePlace 0 [some (.ref m0), some (.ref f), some (.int (nI p)), some (.ref g), some (.int (nI q)), none, none] [] h R := by
      intro R K
      by_cases e1 : b2 B p = 0
      · rw [e1] at K t1
        refine Ex_mv rfl rfl ?_; refine Ex_mv rfl rfl ?_; refine Ex_invV rfl (by rfl) (by rfl) hf (by rfl) (t1) ?_; refine Ex_mv rfl rfl ?_; refine Ex_mv rfl rfl ?_; refine Ex_mv rfl rfl ?_; refine Ex_invV rfl (by rfl) (by rfl) hf' (by rfl) (t2) ?_; refine Ex_mv rfl rfl ?_; refine Ex_mv rfl rfl ?_; refine Ex_mv rfl rfl ?_; refine Ex_ift (show nI 0 = 0 from rfl) ?_
        exact K
      · have e2 : b2 B' q = 0 := h0.elim (fun z => absurd z e1) id
        rw [e2] at K t2
        refine Ex_mv rfl rfl ?_; refine Ex_mv rfl rfl ?_; refine Ex_invV rfl (by rfl) (by rfl) hf (by rfl) (t1) ?_; refine Ex_mv rfl rfl ?_; refine Ex_mv rfl rfl ?_; refine Ex_mv rfl rfl ?_; refine Ex_invV rfl (by rfl) (by rfl) hf' (by rfl) (t2) ?_; refine Ex_mv rfl rfl ?_; refine Ex_mv rfl rfl ?_; refine Ex_mv rfl rfl ?_; refine Ex_iff (nI_nz e1 (by omega)) ?_; refine Ex_mv rfl rfl ?_; refine Ex_mv rfl rfl ?_; refine Ex_iff (not_not_intro (show nI 0 = 0 from rfl)) ?_
        exact K
    refine fin _ ?_
    by_cases e : b2 B p = b2 B' q
    · rw [bI_t e]
      refine Ex_mv rfl rfl ?_; refine Ex_mv rfl rfl ?_; refine Ex_mv rfl rfl ?_; refine Ex_iff (by rw [e]; exact not_not_intro rfl) ?_; refine Ex_mv rfl rfl ?_; refine Ex_mv rfl rfl ?_
      refine Ex_rt rfl rfl ?_
      exact ⟨rfl, Gw.rf.mono (by omega) (by omega)⟩
    · rw [bI_f e]
      refine Ex_mv rfl rfl ?_; refine Ex_mv rfl rfl ?_; refine Ex_mv rfl rfl ?_; refine Ex_ift (fun z => e ((nI_eq (by omega) (by omega)).mp z)) ?_; refine Ex_mv rfl rfl ?_; refine Ex_mv rfl rfl ?_
      refine Ex_rt rfl rfl ?_
      exact ⟨rfl, Gw.rf.mono (by omega) (by omega)⟩
  · rw [if_neg h0]
    have n1 : ¬ b2 B p = 0 := fun z => h0 (Or.inl z)
    have n2 : ¬ b2 B' q = 0 := fun z => h0 (Or.inr z)
    obtain ⟨_, h1, e1, rfl, G1, s1, s2, s3⟩ := c_MO_meaningOf (nb := nb) (sa := sa) (m0 := m0) hF hG hnb (fun q hq => muM_lt h7 hq) (i := b2 B p) (hi.elim (fun z => absurd z n1) id)
    have W1 : Gw h h1 1 5 := ⟨by omega, by omega, by omega, by omega, s3⟩
    obtain ⟨hF1, hF1', hnb1, hc1, h71⟩ := hT.gw W1
    obtain ⟨_, h2, e2, rfl, G2, u1, u2, u3⟩ := c_MO_meaningOf (nb := nb) (sa := sa) (m0 := m0) hF1' hG' hnb1 (fun q hq => muM_lt h71 hq) (i := b2 B' q) (hj.elim (fun z => absurd z n2) id)
    have W2 : Gw h1 h2 1 5 := ⟨by omega, by omega, by omega, by omega, u3⟩
    have cm := c_MO_compare_ (nb := nb) (sa := sa) (G1.pf W2.pf) G2
    by_cases e : mng B x.1 x.2.1 (b2 B p) = mng B' y.1 y.2.1 (b2 B' q)
    · rw [bI_t e]
      rw [cmpM_eq.mpr e] at cm
      refine Ex_mv rfl rfl ?_; refine Ex_mv rfl rfl ?_; refine Ex_invV rfl (by rfl) (by rfl) hf (by rfl) (t1) ?_; refine Ex_mv rfl rfl ?_; refine Ex_mv rfl rfl ?_; refine Ex_mv rfl rfl ?_; refine Ex_invV rfl (by rfl) (by rfl) hf' (by rfl) (t2) ?_; refine Ex_mv rfl rfl ?_; refine Ex_mv rfl rfl ?_; refine Ex_mv rfl rfl ?_; refine Ex_iff (nI_nz n1 (by omega)) ?_; refine Ex_mv rfl rfl ?_; refine Ex_mv rfl rfl ?_; refine Ex_ift (nI_nz n2 (by omega)) ?_; refine Ex_mv rfl rfl ?_; refine Ex_mv rfl rfl ?_; refine Ex_mv rfl rfl ?_; refine Ex_invV rfl (by rfl) (by rfl) hc (by rfl) (e1) ?_; refine Ex_mv rfl rfl ?_; refine Ex_mv rfl rfl ?_; refine Ex_mv rfl rfl ?_; refine Ex_invV rfl (by rfl) (by rfl) hc1 (by rfl) (e2) ?_; refine Ex_inv rfl (by rfl) (by rfl) (by rfl) (cm) ?_; refine Ex_mv rfl rfl ?_; refine Ex_iff (not_not_intro (show nI 0 = 0 from rfl)) ?_; refine Ex_mv rfl rfl ?_; refine Ex_mv rfl rfl ?_
      refine Ex_rt rfl rfl ?_
      exact ⟨rfl, W1.tr W2⟩
    · rw [bI_f e]
      have ne : ¬ cmpM (mng B x.1 x.2.1 (b2 B p)) (mng B' y.1 y.2.1 (b2 B' q)) = nI 0 := fun z => e (cmpM_eq.mp z)
      refine Ex_mv rfl rfl ?_; refine Ex_mv rfl rfl ?_; refine Ex_invV rfl (by rfl) (by rfl) hf (by rfl) (t1) ?_; refine Ex_mv rfl rfl ?_; refine Ex_mv rfl rfl ?_; refine Ex_mv rfl rfl ?_; refine Ex_invV rfl (by rfl) (by rfl) hf' (by rfl) (t2) ?_; refine Ex_mv rfl rfl ?_; refine Ex_mv rfl rfl ?_; refine Ex_mv rfl rfl ?_; refine Ex_iff (nI_nz n1 (by omega)) ?_; refine Ex_mv rfl rfl ?_; refine Ex_mv rfl rfl ?_; refine Ex_ift (nI_nz n2 (by omega)) ?_; refine Ex_mv rfl rfl ?_; refine Ex_mv rfl rfl ?_; refine Ex_mv rfl rfl ?_; refine Ex_invV rfl (by rfl) (by rfl) hc (by rfl) (e1) ?_; refine Ex_mv rfl rfl ?_; refine Ex_mv rfl rfl ?_; refine Ex_mv rfl rfl ?_; refine Ex_invV rfl (by rfl) (by rfl) hc1 (by rfl) (e2) ?_; refine Ex_inv rfl (by rfl) (by rfl) (by rfl) (cm) ?_; refine Ex_mv rfl rfl ?_; refine Ex_ift ne ?_; refine Ex_mv rfl rfl ?_
      refine Ex_rt rfl rfl ?_
      exact ⟨rfl, W1.tr W2⟩
theorem SPq_ne {F G : Nat → Mng} {i j : Nat} (hi : i ≠ 0) (hj : j ≠ 0) : SPq F G i j ↔ F i = G j := by unfold SPq; rw [if_neg (fun z => z.elim hi hj)]
/-- attributes, from one on; counted alike -/
theorem MO_same_loop {cl : List Value} {a b ua ub qa qb n : Nat} {ga gb : Nat → Int32} (hG : GG B x) (hG' : GG B' y) (hA : AttG B n (qa + 2)) (hA' : AttG B' n (qb + 2)) (hw : ∀ k, k < n → tg B x.1 x.2.1 (b2 B (atP B k (qa + 2))) ≠ 0) (hw' : ∀ k, k < n → tg B' y.1 y.2.1 (b2 B' (atP B' k (qb + 2))) ≠ 0) (hga : ∀ k, k < n → ga k = nI (atP B k (qa + 2))) (hgb : ∀ k, k < n → gb k = nI (atP B' k (qb + 2))) (hn6 : n ≤ 6) : ∀ (d k : Nat) (x7 : Option Value) (h : Hp), k + d = n → TwF h m0 nb f g B B' x y cl → h.2.2 a = some (true, .inr (7, [.int (nI n), .ref ua])) → h.2.2 b = some (true, .inr (7, [.int (nI n), .ref ub])) → h.2.2 ua = some (true, .inl (1, 6, .inl ga)) → h.2.2 ub = some (true, .inl (1, 6, .inl gb)) → a < h.1 → b < h.1 → ua < h.1 → ub < h.1 → Ex (prog nb sa) k_MO_same 22 [some (.ref m0), some (.ref f), some (.ref a), some (.ref g), some (.ref b), some (.int (nI 1)), some (.int (nI k)), x7] [] h (fun v h' => v = some (.int (nI (bI (eqA B B' (mng B x.1 x.2.1) (mng B' y.1 y.2.1) d (atP B k (qa + 2)) (atP B' k (qb + 2)))))) ∧ Gw h h' (2 * d) (10 * d))
  | 0, k, x7, h, hk, hT, a1, a2, a3, a4, l1, l2, l3, l4 => by
    rw [show eqA B B' (mng B x.1 x.2.1) (mng B' y.1 y.2.1) 0 (atP B k (qa + 2)) (atP B' k (qb + 2)) = True from rfl, bI_t trivial]
    refine Ex_mv rfl rfl ?_; refine Ex_mv rfl rfl ?_; refine Ex_getf rfl a1 rfl ?_; refine Ex_mv rfl rfl ?_; refine Ex_ift (nI_le (by omega) (by omega)) ?_; refine Ex_mv rfl rfl ?_
    refine Ex_rt rfl rfl ?_
    exact ⟨rfl, Gw.rf⟩
  | d + 1, k, x7, h, hk, hT, a1, a2, a3, a4, l1, l2, l3, l4 => by
    obtain ⟨hF, hF', hnb, hc, h7⟩ := id hT
    obtain ⟨bb, hb, -⟩ := hF.hb
    obtain ⟨bc, hb', -⟩ := hF'.hb
    obtain ⟨⟨r, hf⟩, -⟩ := id hb
    obtain ⟨⟨r', hf'⟩, -⟩ := id hb'
    obtain ⟨p1, p2, -⟩ := AttG_at n (qa + 2) k hA (by omega)
    obtain ⟨q1, q2, -⟩ := AttG_at n (qb + 2) k hA' (by omega)
    have hl := hF.lt.2
    have hl' := hF'.lt.2
    have hwk := hw k (by omega)
    have hwk' := hw' k (by omega)
    have e1 : ga (nI k).toNatClampNeg = nI (atP B k (qa + 2)) := by rw [nI_clamp (by omega)]; exact hga k (by omega)
    have e2 : gb (nI k).toNatClampNeg = nI (atP B' k (qb + 2)) := by rw [nI_clamp (by omega)]; exact hgb k (by omega)
    have nz : b2 B (atP B k (qa + 2)) ≠ 0 := fun z => by
      rw [z] at hwk
      have h0 : x.1 0 = 0 := hG.1.1.1
      exact (tg_at rfl hwk).2.1 h0
    have nz' : b2 B' (atP B' k (qb + 2)) ≠ 0 := fun z => by
      rw [z] at hwk'
      have h0 : y.1 0 = 0 := hG'.1.1.1
      exact (tg_at rfl hwk').2.1 h0
    have ihh := fun (h1 : Hp) (W : Gw h h1 2 10) (x7 : Option Value) => MO_same_loop hG hG' hA hA' hw hw' hga hgb hn6 d (k + 1) x7 h1 (by omega) (hT.gw W) ((W.2.2.2.2 a l1).trans a1) ((W.2.2.2.2 b l2).trans a2) ((W.2.2.2.2 ua l3).trans a3) ((W.2.2.2.2 ub l4).trans a4) (Nat.lt_of_lt_of_le l1 W.1) (Nat.lt_of_lt_of_le l2 W.1) (Nat.lt_of_lt_of_le l3 W.1) (Nat.lt_of_lt_of_le l4 W.1)
    rw [atP_succ, atP_succ] at ihh
    generalize hpp : atP B k (qa + 2) = p at *
    generalize hqq : atP B' k (qb + 2) = q at *
    obtain ⟨_, h1, es, rfl, W1⟩ := c_MO_samePlace (nb := nb) (sa := sa) hT hG hG' (p := p) (q := q) (by omega) (by omega) (Or.inr hwk) (Or.inr hwk')
    rw [bI_eq (SPq_ne nz nz')] at es
    have ff := c_MH_four (nb := nb) (sa := sa) hb (p := p + 2) (by omega)
    obtain ⟨hF1, hF1', hnb1, hc1, h71⟩ := hT.gw W1
    obtain ⟨bb1, hb1, -⟩ := hF1.hb
    obtain ⟨bc1, hb1', -⟩ := hF1'.hb
    obtain ⟨⟨r1, hf1⟩, -⟩ := id hb1
    obtain ⟨⟨r1', hf1'⟩, -⟩ := id hb1'
    have fg := c_MH_four (nb := nb) (sa := sa) hb1' (p := q + 2) (by omega)
    have b4l := b4_lt hF.lt.1 (p + 2)
    have b4l' := b4_lt hF'.lt.1 (q + 2)
    have a11 : h1.2.2 a = _ := (W1.2.2.2.2 a l1).trans a1
    have a21 : h1.2.2 b = _ := (W1.2.2.2.2 b l2).trans a2
    have a31 : h1.2.2 ua = _ := (W1.2.2.2.2 ua l3).trans a3
    have a41 : h1.2.2 ub = _ := (W1.2.2.2.2 ub l4).trans a4
    -- the end with no
    have bad : ∀ (n7 : Nat), ¬ (mng B x.1 x.2.1 (b2 B p) = mng B' y.1 y.2.1 (b2 B' q) ∧ b4 B (p + 2) = b4 B' (q + 2) ∧ sl B (p + 6) (b4 B (p + 2)) = sl B' (q + 6) (b4 B (p + 2))) → Ex (prog nb sa) k_MO_same 130 [some (.ref m0), some (.ref f), some (.ref a), some (.ref g), some (.ref b), some (.int (nI 1)), some (.int (nI k)), some (.int (nI n7))] [] h1 (fun v h' => v = some (.int (nI (bI (eqA B B' (mng B x.1 x.2.1) (mng B' y.1 y.2.1) (d + 1) p q)))) ∧ Gw h h' (2 * (d + 1)) (10 * (d + 1))) := by
      intro n7 hno
      rw [bI_f (fun z => hno z.1)]
      have W2 : Gw h h1 (2 * (d + 1)) (10 * (d + 1)) := W1.mono (by omega) (by omega)
      by_cases hkn : n ≤ k + 1
      · refine Ex_mv rfl rfl ?_; refine Ex_mv rfl rfl ?_; (first | refine Ex_incN rfl rfl ?_ | refine Ex_mv rfl rfl ?_); refine Ex_mv rfl rfl ?_; refine Ex_mv rfl rfl ?_; refine Ex_mv rfl rfl ?_; refine Ex_getf rfl a11 rfl ?_; refine Ex_mv rfl rfl ?_; refine Ex_ift (nI_le (by omega) (by omega)) ?_; refine Ex_mv rfl rfl ?_
        refine Ex_rt rfl rfl ?_
        exact ⟨rfl, W2⟩
      · refine Ex_mv rfl rfl ?_; refine Ex_mv rfl rfl ?_; (first | refine Ex_incN rfl rfl ?_ | refine Ex_mv rfl rfl ?_); refine Ex_mv rfl rfl ?_; refine Ex_mv rfl rfl ?_; refine Ex_mv rfl rfl ?_; refine Ex_getf rfl a11 rfl ?_; refine Ex_mv rfl rfl ?_; refine Ex_iff (nI_ge (by omega) (by omega)) ?_; refine Ex_mv rfl rfl ?_; refine Ex_mv rfl rfl ?_; refine Ex_ift (show nI 0 = 0 from rfl) ?_; refine Ex_mv rfl rfl ?_
        refine Ex_rt rfl rfl ?_
        exact ⟨rfl, W2⟩
    by_cases c1 : mng B x.1 x.2.1 (b2 B p) = mng B' y.1 y.2.1 (b2 B' q)
    · rw [bI_t c1] at es
      by_cases c2 : b4 B (p + 2) = b4 B' (q + 2)
      · have sb := c_MO_sameBytes (nb := nb) (sa := sa) (m0 := m0) hb1 hb1' (p := p + 6) (q := q + 6) (n := b4 B (p + 2)) (by omega) (by omega)
        by_cases c3 : sl B (p + 6) (b4 B (p + 2)) = sl B' (q + 6) (b4 B (p + 2))
        · rw [bI_t c3] at sb
          have ee : eqA B B' (mng B x.1 x.2.1) (mng B' y.1 y.2.1) (d + 1) p q ↔ eqA B B' (mng B x.1 x.2.1) (mng B' y.1 y.2.1) d (p + 6 + b4 B (p + 2)) (q + 6 + b4 B' (q + 2)) := ⟨fun z => z.2, fun z => ⟨⟨c1, c2, c3⟩, z⟩⟩
          rw [bI_eq ee]
          have ih := fun x7 => ihh h1 W1 x7
          refine Ex_mv rfl rfl ?_; refine Ex_mv rfl rfl ?_; refine Ex_getf rfl a1 rfl ?_; refine Ex_mv rfl rfl ?_; refine Ex_iff (nI_ge (by omega) (by omega)) ?_; refine Ex_mv rfl rfl ?_; refine Ex_mv rfl rfl ?_; refine Ex_iff (show ¬ nI 1 = 0 by decide) ?_; refine Ex_mv rfl rfl ?_; refine Ex_mv rfl rfl ?_; refine Ex_getf rfl a1 rfl ?_; refine Ex_mv rfl rfl ?_; refine Ex_iald rfl a3 (vp_in_nI (by omega) (by decide)) ?_
          rw [e1]
          refine Ex_mv rfl rfl ?_; (first | refine Ex_addN rfl ?_ | refine Ex_mv rfl rfl ?_); refine Ex_invV rfl (by rfl) (by rfl) hf (by rfl) (ff) ?_; refine Ex_mv rfl rfl ?_; refine Ex_mv rfl rfl ?_; refine Ex_mv rfl rfl ?_; refine Ex_mv rfl rfl ?_; refine Ex_getf rfl a1 rfl ?_; refine Ex_mv rfl rfl ?_; refine Ex_iald rfl a3 (vp_in_nI (by omega) (by decide)) ?_
          rw [e1]
          refine Ex_mv rfl rfl ?_; refine Ex_mv rfl rfl ?_; refine Ex_getf rfl a2 rfl ?_; refine Ex_mv rfl rfl ?_; refine Ex_iald rfl a4 (vp_in_nI (by omega) (by decide)) ?_
          rw [e2]
          refine Ex_invV rfl (by rfl) (by rfl) hc (by rfl) (es) ?_; refine Ex_mv rfl rfl ?_; refine Ex_iff (show ¬ nI 1 = 0 by decide) ?_; refine Ex_mv rfl rfl ?_; refine Ex_mv rfl rfl ?_; refine Ex_mv rfl rfl ?_; refine Ex_getf rfl a21 rfl ?_; refine Ex_mv rfl rfl ?_; refine Ex_iald rfl a41 (vp_in_nI (by omega) (by decide)) ?_
          rw [e2]
          refine Ex_mv rfl rfl ?_; (first | refine Ex_addN rfl ?_ | refine Ex_mv rfl rfl ?_); refine Ex_invV rfl (by rfl) (by rfl) hf1' (by rfl) (fg) ?_; refine Ex_mv rfl rfl ?_; refine Ex_iff (by rw [c2]; exact not_not_intro rfl) ?_; refine Ex_mv rfl rfl ?_; refine Ex_mv rfl rfl ?_; refine Ex_mv rfl rfl ?_; refine Ex_getf rfl a11 rfl ?_; refine Ex_mv rfl rfl ?_; refine Ex_iald rfl a31 (vp_in_nI (by omega) (by decide)) ?_
          rw [e1]
          refine Ex_mv rfl rfl ?_; (first | refine Ex_addN rfl ?_ | refine Ex_mv rfl rfl ?_); refine Ex_mv rfl rfl ?_; refine Ex_mv rfl rfl ?_; refine Ex_getf rfl a21 rfl ?_; refine Ex_mv rfl rfl ?_; refine Ex_iald rfl a41 (vp_in_nI (by omega) (by decide)) ?_
          rw [e2]
          refine Ex_mv rfl rfl ?_; (first | refine Ex_addN rfl ?_ | refine Ex_mv rfl rfl ?_); refine Ex_mv rfl rfl ?_; refine Ex_invV rfl (by rfl) (by rfl) hc1 (by rfl) (sb) ?_; refine Ex_mv rfl rfl ?_; refine Ex_iff (show ¬ nI 1 = 0 by decide) ?_; refine Ex_mv rfl rfl ?_; refine Ex_mv rfl rfl ?_; refine Ex_mv rfl rfl ?_; (first | refine Ex_incN rfl rfl ?_ | refine Ex_mv rfl rfl ?_); refine Ex_mv rfl rfl ?_
          exact Ex_mono (ih _) (fun v h' z => ⟨z.1, (W1.tr z.2).mono (by omega) (by omega)⟩)
        · rw [bI_f c3] at sb
          have bd := bad (b4 B (p + 2)) (fun z => c3 z.2.2)
          refine Ex_mv rfl rfl ?_; refine Ex_mv rfl rfl ?_; refine Ex_getf rfl a1 rfl ?_; refine Ex_mv rfl rfl ?_; refine Ex_iff (nI_ge (by omega) (by omega)) ?_; refine Ex_mv rfl rfl ?_; refine Ex_mv rfl rfl ?_; refine Ex_iff (show ¬ nI 1 = 0 by decide) ?_; refine Ex_mv rfl rfl ?_; refine Ex_mv rfl rfl ?_; refine Ex_getf rfl a1 rfl ?_; refine Ex_mv rfl rfl ?_; refine Ex_iald rfl a3 (vp_in_nI (by omega) (by decide)) ?_
          rw [e1]
          refine Ex_mv rfl rfl ?_; (first | refine Ex_addN rfl ?_ | refine Ex_mv rfl rfl ?_); refine Ex_invV rfl (by rfl) (by rfl) hf (by rfl) (ff) ?_; refine Ex_mv rfl rfl ?_; refine Ex_mv rfl rfl ?_; refine Ex_mv rfl rfl ?_; refine Ex_mv rfl rfl ?_; refine Ex_getf rfl a1 rfl ?_; refine Ex_mv rfl rfl ?_; refine Ex_iald rfl a3 (vp_in_nI (by omega) (by decide)) ?_
          rw [e1]
          refine Ex_mv rfl rfl ?_; refine Ex_mv rfl rfl ?_; refine Ex_getf rfl a2 rfl ?_; refine Ex_mv rfl rfl ?_; refine Ex_iald rfl a4 (vp_in_nI (by omega) (by decide)) ?_
          rw [e2]
          refine Ex_invV rfl (by rfl) (by rfl) hc (by rfl) (es) ?_; refine Ex_mv rfl rfl ?_; refine Ex_iff (show ¬ nI 1 = 0 by decide) ?_; refine Ex_mv rfl rfl ?_; refine Ex_mv rfl rfl ?_; refine Ex_mv rfl rfl ?_; refine Ex_getf rfl a21 rfl ?_; refine Ex_mv rfl rfl ?_; refine Ex_iald rfl a41 (vp_in_nI (by omega) (by decide)) ?_
          rw [e2]
          refine Ex_mv rfl rfl ?_; (first | refine Ex_addN rfl ?_ | refine Ex_mv rfl rfl ?_); refine Ex_invV rfl (by rfl) (by rfl) hf1' (by rfl) (fg) ?_; refine Ex_mv rfl rfl ?_; refine Ex_iff (by rw [c2]; exact not_not_intro rfl) ?_; refine Ex_mv rfl rfl ?_; refine Ex_mv rfl rfl ?_; refine Ex_mv rfl rfl ?_; refine Ex_getf rfl a11 rfl ?_; refine Ex_mv rfl rfl ?_; refine Ex_iald rfl a31 (vp_in_nI (by omega) (by decide)) ?_
          rw [e1]
          refine Ex_mv rfl rfl ?_; (first | refine Ex_addN rfl ?_ | refine Ex_mv rfl rfl ?_); refine Ex_mv rfl rfl ?_; refine Ex_mv rfl rfl ?_; refine Ex_getf rfl a21 rfl ?_; refine Ex_mv rfl rfl ?_; refine Ex_iald rfl a41 (vp_in_nI (by omega) (by decide)) ?_
          rw [e2]
          refine Ex_mv rfl rfl ?_; (first | refine Ex_addN rfl ?_ | refine Ex_mv rfl rfl ?_); refine Ex_mv rfl rfl ?_; refine Ex_invV rfl (by rfl) (by rfl) hc1 (by rfl) (sb) ?_; refine Ex_mv rfl rfl ?_; refine Ex_ift (show nI 0 = 0 from rfl) ?_
          exact bd
      · have bd := bad (b4 B (p + 2)) (fun z => c2 z.2.1)
        refine Ex_mv rfl rfl ?_; refine Ex_mv rfl rfl ?_; refine Ex_getf rfl a1 rfl ?_; refine Ex_mv rfl rfl ?_; refine Ex_iff (nI_ge (by omega) (by omega)) ?_; refine Ex_mv rfl rfl ?_; refine Ex_mv rfl rfl ?_; refine Ex_iff (show ¬ nI 1 = 0 by decide) ?_; refine Ex_mv rfl rfl ?_; refine Ex_mv rfl rfl ?_; refine Ex_getf rfl a1 rfl ?_; refine Ex_mv rfl rfl ?_; refine Ex_iald rfl a3 (vp_in_nI (by omega) (by decide)) ?_
        rw [e1]
        refine Ex_mv rfl rfl ?_; (first | refine Ex_addN rfl ?_ | refine Ex_mv rfl rfl ?_); refine Ex_invV rfl (by rfl) (by rfl) hf (by rfl) (ff) ?_; refine Ex_mv rfl rfl ?_; refine Ex_mv rfl rfl ?_; refine Ex_mv rfl rfl ?_; refine Ex_mv rfl rfl ?_; refine Ex_getf rfl a1 rfl ?_; refine Ex_mv rfl rfl ?_; refine Ex_iald rfl a3 (vp_in_nI (by omega) (by decide)) ?_
        rw [e1]
        refine Ex_mv rfl rfl ?_; refine Ex_mv rfl rfl ?_; refine Ex_getf rfl a2 rfl ?_; refine Ex_mv rfl rfl ?_; refine Ex_iald rfl a4 (vp_in_nI (by omega) (by decide)) ?_
        rw [e2]
        refine Ex_invV rfl (by rfl) (by rfl) hc (by rfl) (es) ?_; refine Ex_mv rfl rfl ?_; refine Ex_iff (show ¬ nI 1 = 0 by decide) ?_; refine Ex_mv rfl rfl ?_; refine Ex_mv rfl rfl ?_; refine Ex_mv rfl rfl ?_; refine Ex_getf rfl a21 rfl ?_; refine Ex_mv rfl rfl ?_; refine Ex_iald rfl a41 (vp_in_nI (by omega) (by decide)) ?_
        rw [e2]
        refine Ex_mv rfl rfl ?_; (first | refine Ex_addN rfl ?_ | refine Ex_mv rfl rfl ?_); refine Ex_invV rfl (by rfl) (by rfl) hf1' (by rfl) (fg) ?_; refine Ex_mv rfl rfl ?_; refine Ex_ift (fun z => c2 (nI_inj32 b4l b4l' z)) ?_
        exact bd
    · rw [bI_f c1] at es
      have bd := bad (b4 B (p + 2)) (fun z => c1 z.1)
      refine Ex_mv rfl rfl ?_; refine Ex_mv rfl rfl ?_; refine Ex_getf rfl a1 rfl ?_; refine Ex_mv rfl rfl ?_; refine Ex_iff (nI_ge (by omega) (by omega)) ?_; refine Ex_mv rfl rfl ?_; refine Ex_mv rfl rfl ?_; refine Ex_iff (show ¬ nI 1 = 0 by decide) ?_; refine Ex_mv rfl rfl ?_; refine Ex_mv rfl rfl ?_; refine Ex_getf rfl a1 rfl ?_; refine Ex_mv rfl rfl ?_; refine Ex_iald rfl a3 (vp_in_nI (by omega) (by decide)) ?_
      rw [e1]
      refine Ex_mv rfl rfl ?_; (first | refine Ex_addN rfl ?_ | refine Ex_mv rfl rfl ?_); refine Ex_invV rfl (by rfl) (by rfl) hf (by rfl) (ff) ?_; refine Ex_mv rfl rfl ?_; refine Ex_mv rfl rfl ?_; refine Ex_mv rfl rfl ?_; refine Ex_mv rfl rfl ?_; refine Ex_getf rfl a1 rfl ?_; refine Ex_mv rfl rfl ?_; refine Ex_iald rfl a3 (vp_in_nI (by omega) (by decide)) ?_
      rw [e1]
      refine Ex_mv rfl rfl ?_; refine Ex_mv rfl rfl ?_; refine Ex_getf rfl a2 rfl ?_; refine Ex_mv rfl rfl ?_; refine Ex_iald rfl a4 (vp_in_nI (by omega) (by decide)) ?_
      rw [e2]
      refine Ex_invV rfl (by rfl) (by rfl) hc (by rfl) (es) ?_; refine Ex_mv rfl rfl ?_; refine Ex_ift (show nI 0 = 0 from rfl) ?_
      exact bd
theorem c_MO_same {h : Hp} {cl : List Value} {a b qa qb : Nat} (hT : TwF h m0 nb f g B B' x y cl) (hG : GG B x) (hG' : GG B' y) (hAk : ATk (muM m0) h a B qa) (hBk : ATk (muM m0) h b B' qb) (hA : AttG B (b2 B qa) (qa + 2)) (hA' : AttG B' (b2 B' qb) (qb + 2)) (h6 : b2 B qa ≤ 6) (h6' : b2 B' qb ≤ 6) (hw : ∀ k, k < b2 B qa → tg B x.1 x.2.1 (b2 B (atP B k (qa + 2))) ≠ 0) (hw' : ∀ k, k < b2 B' qb → tg B' y.1 y.2.1 (b2 B' (atP B' k (qb + 2))) ≠ 0) : EvQ (prog nb sa) m_MO_same [.ref m0, .ref f, .ref a, .ref g, .ref b] h (fun v h' => v = some (.int (nI (bI (eqQ B B' (mng B x.1 x.2.1) (mng B' y.1 y.2.1) qa qb)))) ∧ Gw h h' 12 60) := by
  obtain ⟨ua, ga, a1, a2, a3, a4, a5⟩ := hAk
  obtain ⟨ub, gb, b1', b2', b3', b4', b5'⟩ := hBk
  refine EvQ_of k_MO_same 8 [some (.ref m0), some (.ref f), some (.ref a), some (.ref g), some (.ref b), none, none, none] rfl (Nat.le_of_ble_eq_true rfl) rfl ?_
  unfold eqQ
  by_cases e : b2 B qa = b2 B' qb
  · rw [← e] at b1' b3' hA' hw'
    have lp := MO_same_loop (nb := nb) (sa := sa) (m0 := m0) hG hG' hA hA' hw hw' a3 b3' h6 (b2 B qa) 0 none h (Nat.zero_add _) hT a1 b1' a2 b2' a4.1 b4'.1 a5.1 b5'.1
    rw [show bI (b2 B qa = b2 B' qb ∧ eqA B B' (mng B x.1 x.2.1) (mng B' y.1 y.2.1) (b2 B qa) (qa + 2) (qb + 2)) = bI (eqA B B' (mng B x.1 x.2.1) (mng B' y.1 y.2.1) (b2 B qa) (atP B 0 (qa + 2)) (atP B' 0 (qb + 2))) from bI_eq ⟨fun z => z.2, fun z => ⟨e, z⟩⟩]
    refine Ex_mv rfl rfl ?_; refine Ex_getf rfl a1 rfl ?_; refine Ex_mv rfl rfl ?_; refine Ex_getf rfl b1' rfl ?_; refine Ex_mv rfl rfl ?_; refine Ex_iff (not_not_intro rfl) ?_; refine Ex_mv rfl rfl ?_; refine Ex_mv rfl rfl ?_; refine Ex_mv rfl rfl ?_; refine Ex_mv rfl rfl ?_; refine Ex_mv rfl rfl ?_
    exact Ex_mono lp (fun v h' z => ⟨z.1, z.2.mono (by omega) (by omega)⟩)
  · rw [bI_f (fun z => e z.1)]
    have ne : ¬ nI (b2 B qa) = nI (b2 B' qb) := fun z => e ((nI_eq (by omega) (by omega)).mp z)
    have W : Gw h h 12 60 := Gw.rf.mono (by omega) (by omega)
    by_cases c0 : b2 B qa = 0
    · refine Ex_mv rfl rfl ?_; refine Ex_getf rfl a1 rfl ?_; refine Ex_mv rfl rfl ?_; refine Ex_getf rfl b1' rfl ?_; refine Ex_mv rfl rfl ?_; refine Ex_ift ne ?_; refine Ex_mv rfl rfl ?_; refine Ex_mv rfl rfl ?_; refine Ex_mv rfl rfl ?_; refine Ex_mv rfl rfl ?_; refine Ex_mv rfl rfl ?_; refine Ex_mv rfl rfl ?_; refine Ex_getf rfl a1 rfl ?_; refine Ex_mv rfl rfl ?_; refine Ex_ift (nI_le (by omega) (by omega)) ?_; refine Ex_mv rfl rfl ?_
      refine Ex_rt rfl rfl ?_
      exact ⟨rfl, W⟩
    · refine Ex_mv rfl rfl ?_; refine Ex_getf rfl a1 rfl ?_; refine Ex_mv rfl rfl ?_; refine Ex_getf rfl b1' rfl ?_; refine Ex_mv rfl rfl ?_; refine Ex_ift ne ?_; refine Ex_mv rfl rfl ?_; refine Ex_mv rfl rfl ?_; refine Ex_mv rfl rfl ?_; refine Ex_mv rfl rfl ?_; refine Ex_mv rfl rfl ?_; refine Ex_mv rfl rfl ?_; refine Ex_getf rfl a1 rfl ?_; refine Ex_mv rfl rfl ?_; refine Ex_iff (nI_ge (by omega) (by omega)) ?_; refine Ex_mv rfl rfl ?_; refine Ex_mv rfl rfl ?_; refine Ex_ift (show nI 0 = 0 from rfl) ?_; refine Ex_mv rfl rfl ?_
      refine Ex_rt rfl rfl ?_
      exact ⟨rfl, W⟩
end REFV
