/-! the other side: alike -/
def MG1 (B : List Nat) (x : Fs) (m : Nat) : Prop := m + 8 ≤ B.length ∧ tg B x.1 x.2.1 (b2 B (m + 2)) ≠ 0 ∧ tg B x.1 x.2.1 (b2 B (m + 4)) ≠ 0 ∧ b2 B (m + 6) ≤ 6 ∧ AttG B (b2 B (m + 6)) (m + 8) ∧ ∀ k, k < b2 B (m + 6) → tg B x.1 x.2.1 (b2 B (atP B k (m + 8))) ≠ 0
theorem GG.mg1 {B : List Nat} {x : Fs} (hG : GG B x) {kk m : Nat} (hk : kk < 2) (hm : m ∈ mK x.2.2.2.2.1 x.2.2.2.2.2.1 kk) : MG1 B x m := by
  obtain ⟨t2, t4⟩ := hG.mem (mK_or hm)
  obtain ⟨j, hj, e⟩ := List.getElem_of_mem hm
  have ha : aO x.2.2.2.1 x.2.2.2.2.1 x.2.2.2.2.2.1 kk j = some (m + 6) := by
    unfold aO mO
    rw [if_neg (by omega), if_pos hj, List.getD_eq_getElem?_getD, List.getElem?_eq_getElem hj, e]; rfl
  obtain ⟨a1, a2, a3, a4⟩ := hG.1.att ha
  exact ⟨hG.1.memle hm, by omega, by omega, a2, a3, fun k hk => by have := (hG.attN ha hk).1; rw [show m + 6 + 2 = m + 8 from rfl] at this; omega⟩
section REFW
variable {nb sa : Nat} {m0 f g : Nat} {B B' : List Nat} {x y : Fs} {cl : List Value}
theorem GG.fct (hG : GG B x) {k : Nat} (hk : k < b2 B (x.2.2.1 + 6)) : tg B x.1 x.2.1 (b2 B (x.2.2.1 + 8 + 2 * k)) ≠ 0 := by
  rcases hG.1.cls (k := k + 2) (by omega) with ⟨q1, -⟩ | q
  · omega
  · rw [if_neg (by omega), show x.2.2.1 + (4 + 2 * (k + 2)) = x.2.2.1 + 8 + 2 * k by omega] at q
    have := (wrg0 (hG.2.1 _ q)).2.1
    have e : tg B x.1 x.2.1 (b2 B (x.2.2.1 + 8 + 2 * k)) = 7 := this
    omega
theorem tg_nz (hG : GG B x) {i : Nat} (ht : tg B x.1 x.2.1 i ≠ 0) : i ≠ 0 := fun z => by
  rw [z] at ht
  have h0 : x.1 0 = 0 := hG.1.1.1
  exact (tg_at rfl ht).2.1 h0
/-- no -/
theorem MO_isAlike_z (R : Option Value → Hp → Prop) {h : Hp} (hR : R (some (.int (nI 0))) h) : ∀ (d kk : Nat) (x5 x6 x7 : Option Value), kk + d = 2 → Ex (prog nb sa) k_MO_isAlike 162 [some (.ref m0), some (.ref f), some (.ref g), some (.int (nI 0)), some (.int (nI kk)), x5, x6, x7] [] h R
  | 0, kk, x5, x6, x7, hk => by
    refine Ex_mv rfl rfl ?_; refine Ex_mv rfl rfl ?_; refine Ex_mv rfl rfl ?_; refine Ex_ift (nI_le (by omega) (by omega)) ?_; refine Ex_mv rfl rfl ?_; refine Ex_mv rfl rfl ?_; refine Ex_ift (show nI 0 = 0 from rfl) ?_; refine Ex_mv rfl rfl ?_
    refine Ex_rt rfl rfl ?_
    exact hR
  | d + 1, kk, x5, x6, x7, hk => by
    have ih := fun x5 => MO_isAlike_z R hR d (kk + 1) x5 x6 x7 (by omega)
    refine Ex_mv rfl rfl ?_; refine Ex_mv rfl rfl ?_; refine Ex_mv rfl rfl ?_; refine Ex_iff (nI_ge (by omega) (by omega)) ?_; refine Ex_mv rfl rfl ?_; refine Ex_mv rfl rfl ?_; refine Ex_ift (show nI 0 = 0 from rfl) ?_; refine Ex_mv rfl rfl ?_; refine Ex_mv rfl rfl ?_; refine Ex_mv rfl rfl ?_; refine Ex_mv rfl rfl ?_; refine Ex_mv rfl rfl ?_; refine Ex_mv rfl rfl ?_; refine Ex_ift (show nI 0 = 0 from rfl) ?_; (first | refine Ex_incN rfl rfl ?_ | refine Ex_mv rfl rfl ?_); refine Ex_mv rfl rfl ?_
    exact ih _
theorem MO_isAlike_fac (hG : GG B x) (hG' : GG B' y) (hc : b2 B (x.2.2.1 + 6) = b2 B' (y.2.2.1 + 6)) {R : Option Value → Hp → Prop} : ∀ (d k : Nat) (h : Hp), k + d = b2 B (x.2.2.1 + 6) → TwF h m0 nb f g B B' x y cl → (∀ (h' : Hp) (k' : Nat), eqF B B' (mng B x.1 x.2.1) (mng B' y.1 y.2.1) d (x.2.2.1 + 8 + 2 * k) (y.2.2.1 + 8 + 2 * k) → Gw h h' (2 * d) (10 * d) → Ex (prog nb sa) k_MO_isAlike 159 [some (.ref m0), some (.ref f), some (.ref g), some (.int (nI 1)), some (.int (nI k')), none, none, none] [] h' R) → (∀ (h' : Hp) (k' : Nat), ¬ eqF B B' (mng B x.1 x.2.1) (mng B' y.1 y.2.1) d (x.2.2.1 + 8 + 2 * k) (y.2.2.1 + 8 + 2 * k) → Gw h h' (2 * d) (10 * d) → Ex (prog nb sa) k_MO_isAlike 159 [some (.ref m0), some (.ref f), some (.ref g), some (.int (nI 0)), some (.int (nI k')), none, none, none] [] h' R) → Ex (prog nb sa) k_MO_isAlike 109 [some (.ref m0), some (.ref f), some (.ref g), some (.int (nI 1)), some (.int (nI k)), none, none, none] [] h R
  | 0, k, h, hk, hT, Kt, Kf => by
    obtain ⟨hF, hF', hnb, hcm, h7⟩ := id hT
    obtain ⟨b, t1, t2, t3, t7, t8, ow, o1, -⟩ := hF.ow
    have h8 := hG.1.2.2.2.2.1
    have f0 := Kt h k trivial Gw.rf
    refine Ex_mv rfl rfl ?_; refine Ex_mv rfl rfl ?_; refine Ex_getf rfl o1 rfl ?_; refine Ex_mv rfl rfl ?_; refine Ex_ift (nI_le (by omega) (by omega)) ?_
    exact f0
  | d + 1, k, h, hk, hT, Kt, Kf => by
    obtain ⟨hF, hF', hnb, hcm, h7⟩ := id hT
    obtain ⟨b, t1, t2, t3, t7, t8, ow, o1, -⟩ := hF.ow
    obtain ⟨b', t1', t2', t3', t7', t8', ow', o1', -⟩ := hF'.ow
    have h8 := hG.1.2.2.2.2.1
    have hf2 : fP B x.2.2.1 + 2 ≤ B.length := hG.1.2.2.2.2.2.1
    have hf2' : fP B' y.2.2.1 + 2 ≤ B'.length := hG'.1.2.2.2.2.2.1
    unfold fP at hf2 hf2'
    have tn := hG.fct (k := k) (by omega)
    have tn' := hG'.fct (k := k) (by omega)
    obtain ⟨_, h1, es, rfl, W1⟩ := c_MO_samePlace (nb := nb) (sa := sa) hT hG hG' (p := x.2.2.1 + 8 + 2 * k) (q := y.2.2.1 + 8 + 2 * k) (by omega) (by omega) (Or.inr tn) (Or.inr tn')
    rw [bI_eq (SPq_ne (tg_nz hG tn) (tg_nz hG' tn'))] at es
    obtain ⟨hF1, -, -, -, -⟩ := hT.gw W1
    obtain ⟨b9, t19, t29, t39, t79, t89, ow9, o19, -⟩ := hF1.ow
    by_cases c1 : mng B x.1 x.2.1 (b2 B (x.2.2.1 + 8 + 2 * k)) = mng B' y.1 y.2.1 (b2 B' (y.2.2.1 + 8 + 2 * k))
    · rw [bI_t c1] at es
      have e2 : x.2.2.1 + 8 + 2 * (k + 1) = x.2.2.1 + 8 + 2 * k + 2 := by omega
      have e3 : y.2.2.1 + 8 + 2 * (k + 1) = y.2.2.1 + 8 + 2 * k + 2 := by omega
      have ih := MO_isAlike_fac hG hG' hc d (k + 1) h1 (by omega) (hT.gw W1) (fun h' k' z1 z2 => Kt h' k' ⟨c1, by rw [← e2, ← e3]; exact z1⟩ ((W1.tr z2).mono (by omega) (by omega))) (fun h' k' z1 z2 => Kf h' k' (fun z => z1 (by rw [e2, e3]; exact z.2)) ((W1.tr z2).mono (by omega) (by omega)))
      refine Ex_mv rfl rfl ?_; refine Ex_mv rfl rfl ?_; refine Ex_getf rfl o1 rfl ?_; refine Ex_mv rfl rfl ?_; refine Ex_iff (nI_ge (by omega) (by omega)) ?_; refine Ex_mv rfl rfl ?_; refine Ex_mv rfl rfl ?_; refine Ex_iff (show ¬ nI 1 = 0 by decide) ?_; refine Ex_mv rfl rfl ?_; refine Ex_mv rfl rfl ?_; refine Ex_mv rfl rfl ?_; refine Ex_getf rfl o1 rfl ?_; refine Ex_mv rfl rfl ?_; (first | refine Ex_addN rfl ?_ | refine Ex_mv rfl rfl ?_); refine Ex_mv rfl rfl ?_; refine Ex_mv rfl rfl ?_; (first | refine Ex_mulN rfl ?_ | refine Ex_mv rfl rfl ?_); (first | refine Ex_addN rfl ?_ | refine Ex_mv rfl rfl ?_); refine Ex_mv rfl rfl ?_; refine Ex_mv rfl rfl ?_; refine Ex_getf rfl o1' rfl ?_; refine Ex_mv rfl rfl ?_; (first | refine Ex_addN rfl ?_ | refine Ex_mv rfl rfl ?_); refine Ex_mv rfl rfl ?_; refine Ex_mv rfl rfl ?_; (first | refine Ex_mulN rfl ?_ | refine Ex_mv rfl rfl ?_); (first | refine Ex_addN rfl ?_ | refine Ex_mv rfl rfl ?_); refine Ex_invV rfl (by rfl) (by rfl) hcm (by rfl) (es) ?_; refine Ex_mv rfl rfl ?_; (first | refine Ex_incN rfl rfl ?_ | refine Ex_mv rfl rfl ?_); refine Ex_mv rfl rfl ?_
      exact ih
    · rw [bI_f c1] at es
      have f0 := Kf h1 (k + 1) (fun z => c1 z.1) (W1.mono (by omega) (by omega))
      have last : Ex (prog nb sa) k_MO_isAlike 109 [some (.ref m0), some (.ref f), some (.ref g), some (.int (nI 0)), some (.int (nI (k + 1))), none, none, none] [] h1 R := by
        by_cases hx : b2 B (x.2.2.1 + 6) ≤ k + 1
        · refine Ex_mv rfl rfl ?_; refine Ex_mv rfl rfl ?_; refine Ex_getf rfl o19 rfl ?_; refine Ex_mv rfl rfl ?_; refine Ex_ift (nI_le (by omega) (by omega)) ?_
          exact f0
        · refine Ex_mv rfl rfl ?_; refine Ex_mv rfl rfl ?_; refine Ex_getf rfl o19 rfl ?_; refine Ex_mv rfl rfl ?_; refine Ex_iff (nI_ge (by omega) (by omega)) ?_; refine Ex_mv rfl rfl ?_; refine Ex_mv rfl rfl ?_; refine Ex_ift (show nI 0 = 0 from rfl) ?_
          exact f0
      refine Ex_mv rfl rfl ?_; refine Ex_mv rfl rfl ?_; refine Ex_getf rfl o1 rfl ?_; refine Ex_mv rfl rfl ?_; refine Ex_iff (nI_ge (by omega) (by omega)) ?_; refine Ex_mv rfl rfl ?_; refine Ex_mv rfl rfl ?_; refine Ex_iff (show ¬ nI 1 = 0 by decide) ?_; refine Ex_mv rfl rfl ?_; refine Ex_mv rfl rfl ?_; refine Ex_mv rfl rfl ?_; refine Ex_getf rfl o1 rfl ?_; refine Ex_mv rfl rfl ?_; (first | refine Ex_addN rfl ?_ | refine Ex_mv rfl rfl ?_); refine Ex_mv rfl rfl ?_; refine Ex_mv rfl rfl ?_; (first | refine Ex_mulN rfl ?_ | refine Ex_mv rfl rfl ?_); (first | refine Ex_addN rfl ?_ | refine Ex_mv rfl rfl ?_); refine Ex_mv rfl rfl ?_; refine Ex_mv rfl rfl ?_; refine Ex_getf rfl o1' rfl ?_; refine Ex_mv rfl rfl ?_; (first | refine Ex_addN rfl ?_ | refine Ex_mv rfl rfl ?_); refine Ex_mv rfl rfl ?_; refine Ex_mv rfl rfl ?_; (first | refine Ex_mulN rfl ?_ | refine Ex_mv rfl rfl ?_); (first | refine Ex_addN rfl ?_ | refine Ex_mv rfl rfl ?_); refine Ex_invV rfl (by rfl) (by rfl) hcm (by rfl) (es) ?_; refine Ex_mv rfl rfl ?_; (first | refine Ex_incN rfl rfl ?_ | refine Ex_mv rfl rfl ?_); refine Ex_mv rfl rfl ?_
      exact last
theorem MO_isAlike_mem {kk : Nat} (hkk : kk < 2) (hG : GG B x) (hG' : GG B' y) (hlen : (mK x.2.2.2.2.1 x.2.2.2.2.2.1 kk).length = (mK y.2.2.2.2.1 y.2.2.2.2.2.1 kk).length) {R : Option Value → Hp → Prop} : ∀ (d k p q : Nat) (x6 x7 : Option Value) (h : Hp), k + d = (mK x.2.2.2.2.1 x.2.2.2.2.2.1 kk).length → (mK x.2.2.2.2.1 x.2.2.2.2.2.1 kk).drop k = memL B d p → (mK y.2.2.2.2.1 y.2.2.2.2.2.1 kk).drop k = memL B' d q → TwF h m0 nb f g B B' x y cl → (∀ (h' : Hp) (k' : Nat) (x6 x7 : Option Value), eqM B B' (mng B x.1 x.2.1) (mng B' y.1 y.2.1) d p q → Gw h h' (16 * d) (80 * d) → Ex (prog nb sa) k_MO_isAlike 336 [some (.ref m0), some (.ref f), some (.ref g), some (.int (nI 1)), some (.int (nI kk)), some (.int (nI k')), x6, x7] [] h' R) → (∀ (h' : Hp) (k' : Nat) (x6 x7 : Option Value), ¬ eqM B B' (mng B x.1 x.2.1) (mng B' y.1 y.2.1) d p q → Gw h h' (16 * d) (80 * d) → Ex (prog nb sa) k_MO_isAlike 336 [some (.ref m0), some (.ref f), some (.ref g), some (.int (nI 0)), some (.int (nI kk)), some (.int (nI k')), x6, x7] [] h' R) → Ex (prog nb sa) k_MO_isAlike 198 [some (.ref m0), some (.ref f), some (.ref g), some (.int (nI 1)), some (.int (nI kk)), some (.int (nI k)), x6, x7] [] h R
  | 0, k, p, q, x6, x7, h, hk, hp, hq, hT, Kt, Kf => by
    obtain ⟨hF, hF', hnb, hcm, h7⟩ := id hT
    obtain ⟨b, t1, t2, t3, t7, t8, ow, ak, gm, gc, c1, c2, c3, ⟨_, _, _, _, hml⟩, c5, c6⟩ := hF.kd hkk
    have e1 : gc (nI kk).toNatClampNeg = nI k := by rw [nI_clamp (by omega), c6, ← hk]; rfl
    have f0 := Kt h k x6 x7 trivial Gw.rf
    refine Ex_mv rfl rfl ?_; refine Ex_mv rfl rfl ?_; refine Ex_iff (show ¬ nI 1 = 0 by decide) ?_; refine Ex_mv rfl rfl ?_; refine Ex_mv rfl rfl ?_; refine Ex_getf rfl c1 rfl ?_; refine Ex_mv rfl rfl ?_; refine Ex_iald rfl c5 (vp_in_nI (by omega) (by decide)) ?_
    rw [e1]
    refine Ex_mv rfl rfl ?_; refine Ex_ift (nI_le (by omega) (by omega)) ?_
    exact f0
  | d + 1, k, p, q, x6, x7, h, hk, hp, hq, hT, Kt, Kf => by
    obtain ⟨hF, hF', hnb, hcm, h7⟩ := id hT
    obtain ⟨b, t1, t2, t3, t7, t8, ow, ak, gm, gc, c1, c2, c3, ⟨gk, c4, c4', c4'', hml⟩, c5, c6⟩ := hF.kd hkk
    obtain ⟨b', t1', t2', t3', t7', t8', ow', ak', gm', gc', d1, d2, d3, ⟨gk', d4, d4', d4'', hml'⟩, d5, d6⟩ := hF'.kd hkk
    have e1 : gc (nI kk).toNatClampNeg = nI (k + (d + 1)) := by rw [nI_clamp (by omega), c6, ← hk]
    have e2 : gm (nI kk).toNatClampNeg = some ak := by rw [nI_clamp (by omega), c3]
    have e2' : gm' (nI kk).toNatClampNeg = some ak' := by rw [nI_clamp (by omega), d3]
    obtain ⟨u, u1, wu, u2, u3, u4⟩ := c4' k (by omega)
    obtain ⟨u', u1', wu', u2', u3', u4'⟩ := d4' k (by omega)
    have e3 : gk (nI k).toNatClampNeg = some u := by rw [nI_clamp (by omega), u1]
    have e3' : gk' (nI k).toNatClampNeg = some u' := by rw [nI_clamp (by omega), u1']
    have ep : (mK x.2.2.2.2.1 x.2.2.2.2.2.1 kk).getD k 0 = p := by
      have := congrArg (fun l => l.getD 0 0) hp
      simpa [memL, List.getD_eq_getElem?_getD, List.getElem?_drop] using this
    have eq : (mK y.2.2.2.2.1 y.2.2.2.2.2.1 kk).getD k 0 = q := by
      have := congrArg (fun l => l.getD 0 0) hq
      simpa [memL, List.getD_eq_getElem?_getD, List.getElem?_drop] using this
    have hpm : p ∈ mK x.2.2.2.2.1 x.2.2.2.2.2.1 kk := by
      rw [← ep, List.getD_eq_getElem?_getD, List.getElem?_eq_getElem (by omega)]; exact List.getElem_mem _
    have hqm : q ∈ mK y.2.2.2.2.1 y.2.2.2.2.2.1 kk := by
      rw [← eq, List.getD_eq_getElem?_getD, List.getElem?_eq_getElem (by omega)]; exact List.getElem_mem _
    rw [ep] at u2 u3
    rw [eq] at u2' u3'
    obtain ⟨p8, pt2, pt4, p6, pA, pT⟩ := hG.mg1 hkk hpm
    obtain ⟨q8, qt2, qt4, q6, qA, qT⟩ := hG'.mg1 hkk hqm
    have hdr : (mK x.2.2.2.2.1 x.2.2.2.2.2.1 kk).drop (k + 1) = memL B d (attE B (p + 6)) := by
      have e5 : (mK x.2.2.2.2.1 x.2.2.2.2.2.1 kk).drop (k + 1) = ((mK x.2.2.2.2.1 x.2.2.2.2.2.1 kk).drop k).drop 1 := by rw [List.drop_drop]
      rw [e5, hp]; rfl
    have hdr' : (mK y.2.2.2.2.1 y.2.2.2.2.2.1 kk).drop (k + 1) = memL B' d (attE B' (q + 6)) := by
      have e5 : (mK y.2.2.2.2.1 y.2.2.2.2.2.1 kk).drop (k + 1) = ((mK y.2.2.2.2.1 y.2.2.2.2.2.1 kk).drop k).drop 1 := by rw [List.drop_drop]
      rw [e5, hq]; rfl
    have hl4 := hF.lt.2
    have hl4' := hF'.lt.2
    obtain ⟨bb, hb, -⟩ := hF.hb
    obtain ⟨bc, hb', -⟩ := hF'.hb
    have tw1 := c_MH_two (nb := nb) (sa := sa) hb (p := p) (by omega)
    have tw2' := c_MH_two (nb := nb) (sa := sa) hb' (p := q) (by omega)
    have lp2 := b2_lt hF.lt.1 p
    have lq2 := b2_lt hF'.lt.1 q
    -- to the comparison of the member's parts
    have pre : ∀ R : Option Value → Hp → Prop, Ex (prog nb sa) k_MO_isAlike 238 [some (.ref m0), some (.ref f), some (.ref g), some (.int (nI 1)), some (.int (nI kk)), some (.int (nI k)), some (.ref u), some (.ref u')] [] h R → Ex (prog nb sa) k_MO_isAlike 198 [some (.ref m0), some (.ref f), some (.ref g), some (.int (nI 1)), some (.int (nI kk)), some (.int (nI k)), x6, x7] [] h R := by
      intro R K
      refine Ex_mv rfl rfl ?_; refine Ex_mv rfl rfl ?_; refine Ex_iff (show ¬ nI 1 = 0 by decide) ?_; refine Ex_mv rfl rfl ?_; refine Ex_mv rfl rfl ?_; refine Ex_getf rfl c1 rfl ?_; refine Ex_mv rfl rfl ?_; refine Ex_iald rfl c5 (vp_in_nI (by omega) (by decide)) ?_
      rw [e1]
      refine Ex_mv rfl rfl ?_; refine Ex_iff (nI_ge (by omega) (by omega)) ?_; refine Ex_mv rfl rfl ?_; refine Ex_getf rfl c1 rfl ?_; refine Ex_mv rfl rfl ?_; refine Ex_aald rfl c2 rfl (vp_in_nI (by omega) (by decide)) e2 ?_; refine Ex_mv rfl rfl ?_; refine Ex_aald rfl c4 rfl (vp_in_nI (by omega) (by decide)) e3 ?_; refine Ex_mv rfl rfl ?_; refine Ex_mv rfl rfl ?_; refine Ex_getf rfl d1 rfl ?_; refine Ex_mv rfl rfl ?_; refine Ex_aald rfl d2 rfl (vp_in_nI (by omega) (by decide)) e2' ?_; refine Ex_mv rfl rfl ?_; refine Ex_aald rfl d4 rfl (vp_in_nI (by omega) (by decide)) e3' ?_; refine Ex_mv rfl rfl ?_
      exact K
    refine pre _ ?_
    have ls : okA (muM m0) h u ∧ okA (muM m0) h u' := ⟨u4, u4'⟩
    have bad : ∀ (h1 : Hp), Gw h h1 16 80 → ¬ (b2 B p = b2 B' q ∧ mng B x.1 x.2.1 (b2 B (p + 2)) = mng B' y.1 y.2.1 (b2 B' (q + 2)) ∧ mng B x.1 x.2.1 (b2 B (p + 4)) = mng B' y.1 y.2.1 (b2 B' (q + 4)) ∧ eqQ B B' (mng B x.1 x.2.1) (mng B' y.1 y.2.1) (p + 6) (q + 6)) → Ex (prog nb sa) k_MO_isAlike 328 [some (.ref m0), some (.ref f), some (.ref g), some (.int (nI 1)), some (.int (nI kk)), some (.int (nI k)), some (.ref u), some (.ref u')] [] h1 R := by
      intro h1 W1 hno
      have f0 := Kf h1 (k + 1) (some (.ref u)) (some (.ref u')) (fun z => hno z.1) (W1.mono (by omega) (by omega))
      refine Ex_mv rfl rfl ?_; refine Ex_mv rfl rfl ?_; (first | refine Ex_incN rfl rfl ?_ | refine Ex_mv rfl rfl ?_); refine Ex_mv rfl rfl ?_; refine Ex_mv rfl rfl ?_; refine Ex_mv rfl rfl ?_; refine Ex_ift (show nI 0 = 0 from rfl) ?_
      exact f0
    by_cases a1 : b2 B p = b2 B' q
    · obtain ⟨_, h1, es, rfl, W1⟩ := c_MO_samePlace (nb := nb) (sa := sa) hT hG hG' (p := p + 2) (q := q + 2) (by omega) (by omega) (Or.inr pt2) (Or.inr qt2)
      rw [bI_eq (SPq_ne (tg_nz hG pt2) (tg_nz hG' qt2))] at es
      have T1 := hT.gw W1
      have u21 : h1.2.2 u = _ := (W1.2.2.2.2 u u4.1).trans u2
      have u21' : h1.2.2 u' = _ := (W1.2.2.2.2 u' u4'.1).trans u2'
      by_cases a2 : mng B x.1 x.2.1 (b2 B (p + 2)) = mng B' y.1 y.2.1 (b2 B' (q + 2))
      · rw [bI_t a2] at es
        obtain ⟨_, h2, es2, rfl, W2⟩ := c_MO_samePlace (nb := nb) (sa := sa) T1 hG hG' (p := p + 4) (q := q + 4) (by omega) (by omega) (Or.inr pt4) (Or.inr qt4)
        rw [bI_eq (SPq_ne (tg_nz hG pt4) (tg_nz hG' qt4))] at es2
        have W12 := W1.tr W2
        have T2 := hT.gw W12
        have u22 : h2.2.2 u = _ := (W12.2.2.2.2 u u4.1).trans u2
        have u22' : h2.2.2 u' = _ := (W12.2.2.2.2 u' u4'.1).trans u2'
        obtain ⟨hF1, hF1', -, hcm1, -⟩ := id T1
        obtain ⟨hF2, hF2', -, hcm2, -⟩ := id T2
        by_cases a3 : mng B x.1 x.2.1 (b2 B (p + 4)) = mng B' y.1 y.2.1 (b2 B' (q + 4))
        · rw [bI_t a3] at es2
          obtain ⟨_, h3, es3, rfl, W3⟩ := c_MO_same (nb := nb) (sa := sa) T2 hG hG' (u3.pf W12.pf) (u3'.pf W12.pf) pA qA p6 q6 pT qT
          have W123 := W12.tr W3
          by_cases a4 : eqQ B B' (mng B x.1 x.2.1) (mng B' y.1 y.2.1) (p + 6) (q + 6)
          · rw [bI_t a4] at es3
            have ih := fun x6 x7 => MO_isAlike_mem hkk hG hG' hlen (R := R) d (k + 1) (attE B (p + 6)) (attE B' (q + 6)) x6 x7 h3 (by omega) hdr hdr' (hT.gw W123) (fun h' k' x6 x7 z1 z2 => Kt h' k' x6 x7 ⟨⟨a1, a2, a3, a4⟩, z1⟩ ((W123.tr z2).mono (by omega) (by omega))) (fun h' k' x6 x7 z1 z2 => Kf h' k' x6 x7 (fun z => z1 z.2) ((W123.tr z2).mono (by omega) (by omega)))
            refine Ex_mv rfl rfl ?_; refine Ex_mv rfl rfl ?_; refine Ex_getf rfl u2 rfl ?_; refine Ex_invV rfl (by rfl) (by rfl) c1 (by rfl) (tw1) ?_; refine Ex_mv rfl rfl ?_; refine Ex_mv rfl rfl ?_; refine Ex_getf rfl u2' rfl ?_; refine Ex_invV rfl (by rfl) (by rfl) d1 (by rfl) (tw2') ?_; refine Ex_mv rfl rfl ?_; refine Ex_iff (by rw [a1]; exact not_not_intro rfl) ?_; refine Ex_mv rfl rfl ?_; refine Ex_mv rfl rfl ?_; refine Ex_mv rfl rfl ?_; refine Ex_getf rfl u2 rfl ?_; refine Ex_mv rfl rfl ?_; (first | refine Ex_addN rfl ?_ | refine Ex_mv rfl rfl ?_); refine Ex_mv rfl rfl ?_; refine Ex_mv rfl rfl ?_; refine Ex_getf rfl u2' rfl ?_; refine Ex_mv rfl rfl ?_; (first | refine Ex_addN rfl ?_ | refine Ex_mv rfl rfl ?_); refine Ex_invV rfl (by rfl) (by rfl) hcm (by rfl) (es) ?_; refine Ex_mv rfl rfl ?_; refine Ex_iff (show ¬ nI 1 = 0 by decide) ?_; refine Ex_mv rfl rfl ?_; refine Ex_mv rfl rfl ?_; refine Ex_mv rfl rfl ?_; refine Ex_getf rfl u21 rfl ?_; refine Ex_mv rfl rfl ?_; (first | refine Ex_addN rfl ?_ | refine Ex_mv rfl rfl ?_); refine Ex_mv rfl rfl ?_; refine Ex_mv rfl rfl ?_; refine Ex_getf rfl u21' rfl ?_; refine Ex_mv rfl rfl ?_; (first | refine Ex_addN rfl ?_ | refine Ex_mv rfl rfl ?_); refine Ex_invV rfl (by rfl) (by rfl) hcm1 (by rfl) (es2) ?_; refine Ex_mv rfl rfl ?_; refine Ex_iff (show ¬ nI 1 = 0 by decide) ?_; refine Ex_mv rfl rfl ?_; refine Ex_mv rfl rfl ?_; refine Ex_mv rfl rfl ?_; refine Ex_getf rfl u22 rfl ?_; refine Ex_mv rfl rfl ?_; refine Ex_mv rfl rfl ?_; refine Ex_getf rfl u22' rfl ?_; refine Ex_invV rfl (by rfl) (by rfl) hcm2 (by rfl) (es3) ?_; refine Ex_mv rfl rfl ?_; refine Ex_iff (show ¬ nI 1 = 0 by decide) ?_; refine Ex_mv rfl rfl ?_; refine Ex_mv rfl rfl ?_; refine Ex_mv rfl rfl ?_; (first | refine Ex_incN rfl rfl ?_ | refine Ex_mv rfl rfl ?_); refine Ex_mv rfl rfl ?_
            exact ih _ _
          · rw [bI_f a4] at es3
            have bd := bad h3 (W123.mono (by omega) (by omega)) (fun z => a4 z.2.2.2)
            refine Ex_mv rfl rfl ?_; refine Ex_mv rfl rfl ?_; refine Ex_getf rfl u2 rfl ?_; refine Ex_invV rfl (by rfl) (by rfl) c1 (by rfl) (tw1) ?_; refine Ex_mv rfl rfl ?_; refine Ex_mv rfl rfl ?_; refine Ex_getf rfl u2' rfl ?_; refine Ex_invV rfl (by rfl) (by rfl) d1 (by rfl) (tw2') ?_; refine Ex_mv rfl rfl ?_; refine Ex_iff (by rw [a1]; exact not_not_intro rfl) ?_; refine Ex_mv rfl rfl ?_; refine Ex_mv rfl rfl ?_; refine Ex_mv rfl rfl ?_; refine Ex_getf rfl u2 rfl ?_; refine Ex_mv rfl rfl ?_; (first | refine Ex_addN rfl ?_ | refine Ex_mv rfl rfl ?_); refine Ex_mv rfl rfl ?_; refine Ex_mv rfl rfl ?_; refine Ex_getf rfl u2' rfl ?_; refine Ex_mv rfl rfl ?_; (first | refine Ex_addN rfl ?_ | refine Ex_mv rfl rfl ?_); refine Ex_invV rfl (by rfl) (by rfl) hcm (by rfl) (es) ?_; refine Ex_mv rfl rfl ?_; refine Ex_iff (show ¬ nI 1 = 0 by decide) ?_; refine Ex_mv rfl rfl ?_; refine Ex_mv rfl rfl ?_; refine Ex_mv rfl rfl ?_; refine Ex_getf rfl u21 rfl ?_; refine Ex_mv rfl rfl ?_; (first | refine Ex_addN rfl ?_ | refine Ex_mv rfl rfl ?_); refine Ex_mv rfl rfl ?_; refine Ex_mv rfl rfl ?_; refine Ex_getf rfl u21' rfl ?_; refine Ex_mv rfl rfl ?_; (first | refine Ex_addN rfl ?_ | refine Ex_mv rfl rfl ?_); refine Ex_invV rfl (by rfl) (by rfl) hcm1 (by rfl) (es2) ?_; refine Ex_mv rfl rfl ?_; refine Ex_iff (show ¬ nI 1 = 0 by decide) ?_; refine Ex_mv rfl rfl ?_; refine Ex_mv rfl rfl ?_; refine Ex_mv rfl rfl ?_; refine Ex_getf rfl u22 rfl ?_; refine Ex_mv rfl rfl ?_; refine Ex_mv rfl rfl ?_; refine Ex_getf rfl u22' rfl ?_; refine Ex_invV rfl (by rfl) (by rfl) hcm2 (by rfl) (es3) ?_; refine Ex_mv rfl rfl ?_; refine Ex_ift (show nI 0 = 0 from rfl) ?_
            exact bd
        · rw [bI_f a3] at es2
          have bd := bad h2 (W12.mono (by omega) (by omega)) (fun z => a3 z.2.2.1)
          refine Ex_mv rfl rfl ?_; refine Ex_mv rfl rfl ?_; refine Ex_getf rfl u2 rfl ?_; refine Ex_invV rfl (by rfl) (by rfl) c1 (by rfl) (tw1) ?_; refine Ex_mv rfl rfl ?_; refine Ex_mv rfl rfl ?_; refine Ex_getf rfl u2' rfl ?_; refine Ex_invV rfl (by rfl) (by rfl) d1 (by rfl) (tw2') ?_; refine Ex_mv rfl rfl ?_; refine Ex_iff (by rw [a1]; exact not_not_intro rfl) ?_; refine Ex_mv rfl rfl ?_; refine Ex_mv rfl rfl ?_; refine Ex_mv rfl rfl ?_; refine Ex_getf rfl u2 rfl ?_; refine Ex_mv rfl rfl ?_; (first | refine Ex_addN rfl ?_ | refine Ex_mv rfl rfl ?_); refine Ex_mv rfl rfl ?_; refine Ex_mv rfl rfl ?_; refine Ex_getf rfl u2' rfl ?_; refine Ex_mv rfl rfl ?_; (first | refine Ex_addN rfl ?_ | refine Ex_mv rfl rfl ?_); refine Ex_invV rfl (by rfl) (by rfl) hcm (by rfl) (es) ?_; refine Ex_mv rfl rfl ?_; refine Ex_iff (show ¬ nI 1 = 0 by decide) ?_; refine Ex_mv rfl rfl ?_; refine Ex_mv rfl rfl ?_; refine Ex_mv rfl rfl ?_; refine Ex_getf rfl u21 rfl ?_; refine Ex_mv rfl rfl ?_; (first | refine Ex_addN rfl ?_ | refine Ex_mv rfl rfl ?_); refine Ex_mv rfl rfl ?_; refine Ex_mv rfl rfl ?_; refine Ex_getf rfl u21' rfl ?_; refine Ex_mv rfl rfl ?_; (first | refine Ex_addN rfl ?_ | refine Ex_mv rfl rfl ?_); refine Ex_invV rfl (by rfl) (by rfl) hcm1 (by rfl) (es2) ?_; refine Ex_mv rfl rfl ?_; refine Ex_ift (show nI 0 = 0 from rfl) ?_
          exact bd
      · rw [bI_f a2] at es
        have bd := bad h1 (W1.mono (by omega) (by omega)) (fun z => a2 z.2.1)
        refine Ex_mv rfl rfl ?_; refine Ex_mv rfl rfl ?_; refine Ex_getf rfl u2 rfl ?_; refine Ex_invV rfl (by rfl) (by rfl) c1 (by rfl) (tw1) ?_; refine Ex_mv rfl rfl ?_; refine Ex_mv rfl rfl ?_; refine Ex_getf rfl u2' rfl ?_; refine Ex_invV rfl (by rfl) (by rfl) d1 (by rfl) (tw2') ?_; refine Ex_mv rfl rfl ?_; refine Ex_iff (by rw [a1]; exact not_not_intro rfl) ?_; refine Ex_mv rfl rfl ?_; refine Ex_mv rfl rfl ?_; refine Ex_mv rfl rfl ?_; refine Ex_getf rfl u2 rfl ?_; refine Ex_mv rfl rfl ?_; (first | refine Ex_addN rfl ?_ | refine Ex_mv rfl rfl ?_); refine Ex_mv rfl rfl ?_; refine Ex_mv rfl rfl ?_; refine Ex_getf rfl u2' rfl ?_; refine Ex_mv rfl rfl ?_; (first | refine Ex_addN rfl ?_ | refine Ex_mv rfl rfl ?_); refine Ex_invV rfl (by rfl) (by rfl) hcm (by rfl) (es) ?_; refine Ex_mv rfl rfl ?_; refine Ex_ift (show nI 0 = 0 from rfl) ?_
        exact bd
    · have bd := bad h (Gw.rf.mono (by omega) (by omega)) (fun z => a1 z.1)
      refine Ex_mv rfl rfl ?_; refine Ex_mv rfl rfl ?_; refine Ex_getf rfl u2 rfl ?_; refine Ex_invV rfl (by rfl) (by rfl) c1 (by rfl) (tw1) ?_; refine Ex_mv rfl rfl ?_; refine Ex_mv rfl rfl ?_; refine Ex_getf rfl u2' rfl ?_; refine Ex_invV rfl (by rfl) (by rfl) d1 (by rfl) (tw2') ?_; refine Ex_mv rfl rfl ?_; refine Ex_ift (fun z => a1 ((nI_eq (by omega) (by omega)).mp z)) ?_
      exact bd
/-- a kind -/
theorem MO_isAlike_kind {kk pp qq : Nat} (hkk : kk < 2) (hG : GG B x) (hG' : GG B' y) (hp : mK x.2.2.2.2.1 x.2.2.2.2.2.1 kk = memL B (b2 B pp) (pp + 2)) (hq : mK y.2.2.2.2.1 y.2.2.2.2.2.1 kk = memL B' (b2 B' qq) (qq + 2)) {R : Option Value → Hp → Prop} {x5 x6 x7 : Option Value} {h : Hp} (hT : TwF h m0 nb f g B B' x y cl) (Kt : ∀ (h' : Hp) (x5 x6 x7 : Option Value), eqK B B' (mng B x.1 x.2.1) (mng B' y.1 y.2.1) pp qq → Gw h h' 192 960 → Ex (prog nb sa) k_MO_isAlike 162 [some (.ref m0), some (.ref f), some (.ref g), some (.int (nI 1)), some (.int (nI (kk + 1))), x5, x6, x7] [] h' R) (Kf : ∀ (h' : Hp), ¬ eqK B B' (mng B x.1 x.2.1) (mng B' y.1 y.2.1) pp qq → Gw h h' 192 960 → R (some (.int (nI 0))) h') : Ex (prog nb sa) k_MO_isAlike 162 [some (.ref m0), some (.ref f), some (.ref g), some (.int (nI 1)), some (.int (nI kk)), x5, x6, x7] [] h R := by
  obtain ⟨hF, hF', hnb, hcm, h7⟩ := id hT
  obtain ⟨b, t1, t2, t3, t7, t8, ow, ak, gm, gc, c1, c2, c3, ⟨gk, c4, c4', c4'', hml⟩, c5, c6⟩ := hF.kd hkk
  obtain ⟨b', t1', t2', t3', t7', t8', ow', ak', gm', gc', d1, d2, d3, ⟨gk', d4, d4', d4'', hml'⟩, d5, d6⟩ := hF'.kd hkk
  have l1 : (mK x.2.2.2.2.1 x.2.2.2.2.2.1 kk).length = b2 B pp := by rw [hp, memL_len]
  have l2 : (mK y.2.2.2.2.1 y.2.2.2.2.2.1 kk).length = b2 B' qq := by rw [hq, memL_len]
  have e1 : gc (nI kk).toNatClampNeg = nI (b2 B pp) := by rw [nI_clamp (by omega), c6, l1]
  have e2 : gc' (nI kk).toNatClampNeg = nI (b2 B' qq) := by rw [nI_clamp (by omega), d6, l2]
  by_cases e : b2 B pp = b2 B' qq
  · have ml := fun x6 x7 => MO_isAlike_mem (nb := nb) (sa := sa) (m0 := m0) hkk hG hG' (by omega) (R := R) (b2 B pp) 0 (pp + 2) (qq + 2) x6 x7 h (by omega) (by rw [hp]; rfl) (by rw [hq, e]; rfl) hT (fun h' k' x6 x7 z1 z2 => by
      have f0 := Kt h' (some (.int (nI k'))) x6 x7 ⟨e, z1⟩ (z2.mono (by omega) (by omega))
      refine Ex_incN rfl rfl ?_; refine Ex_mv rfl rfl ?_
      exact f0) (fun h' k' x6 x7 z1 z2 => by
      refine Ex_incN rfl rfl ?_; refine Ex_mv rfl rfl ?_
      exact MO_isAlike_z R (Kf h' (fun z => z1 z.2) (z2.mono (by omega) (by omega))) (1 - kk) (kk + 1) _ _ _ (by omega))
    refine Ex_mv rfl rfl ?_; refine Ex_mv rfl rfl ?_; refine Ex_mv rfl rfl ?_; refine Ex_iff (nI_ge (by omega) (by omega)) ?_; refine Ex_mv rfl rfl ?_; refine Ex_mv rfl rfl ?_; refine Ex_iff (show ¬ nI 1 = 0 by decide) ?_; refine Ex_mv rfl rfl ?_; refine Ex_getf rfl c1 rfl ?_; refine Ex_mv rfl rfl ?_; refine Ex_iald rfl c5 (vp_in_nI (by omega) (by decide)) ?_
    rw [e1]
    refine Ex_mv rfl rfl ?_; refine Ex_getf rfl d1 rfl ?_; refine Ex_mv rfl rfl ?_; refine Ex_iald rfl d5 (vp_in_nI (by omega) (by decide)) ?_
    rw [e2]
    refine Ex_mv rfl rfl ?_; refine Ex_iff (by rw [e]; exact not_not_intro rfl) ?_; refine Ex_mv rfl rfl ?_; refine Ex_mv rfl rfl ?_; refine Ex_mv rfl rfl ?_; refine Ex_mv rfl rfl ?_; refine Ex_mv rfl rfl ?_
    exact ml _ _
  · have bz := fun x5 => MO_isAlike_z (nb := nb) (sa := sa) (m0 := m0) (f := f) (g := g) R (Kf h (fun z => e z.1) (Gw.rf.mono (by omega) (by omega))) (1 - kk) (kk + 1) x5 x6 x7 (by omega)
    refine Ex_mv rfl rfl ?_; refine Ex_mv rfl rfl ?_; refine Ex_mv rfl rfl ?_; refine Ex_iff (nI_ge (by omega) (by omega)) ?_; refine Ex_mv rfl rfl ?_; refine Ex_mv rfl rfl ?_; refine Ex_iff (show ¬ nI 1 = 0 by decide) ?_; refine Ex_mv rfl rfl ?_; refine Ex_getf rfl c1 rfl ?_; refine Ex_mv rfl rfl ?_; refine Ex_iald rfl c5 (vp_in_nI (by omega) (by decide)) ?_
    rw [e1]
    refine Ex_mv rfl rfl ?_; refine Ex_getf rfl d1 rfl ?_; refine Ex_mv rfl rfl ?_; refine Ex_iald rfl d5 (vp_in_nI (by omega) (by decide)) ?_
    rw [e2]
    refine Ex_mv rfl rfl ?_; refine Ex_ift (fun z => e ((nI_eq (by omega) (by omega)).mp z)) ?_; refine Ex_mv rfl rfl ?_; refine Ex_mv rfl rfl ?_; refine Ex_mv rfl rfl ?_; refine Ex_mv rfl rfl ?_; refine Ex_mv rfl rfl ?_; refine Ex_mv rfl rfl ?_; refine Ex_ift (show nI 0 = 0 from rfl) ?_; (first | refine Ex_incN rfl rfl ?_ | refine Ex_mv rfl rfl ?_); refine Ex_mv rfl rfl ?_
    exact bz _
end REFW
