/-! the other side: write -/
def FQ (m0 : Nat) (h h' : Hp) (c s : Nat) : Prop := h.1 ≤ h'.1 ∧ h'.1 ≤ h.1 + c ∧ h.2.1 ≤ h'.2.1 ∧ h'.2.1 ≤ h.2.1 + s ∧ ∀ q, q < h.1 → q ≠ m0 → q ≠ m0 + 5 → q ≠ m0 + 6 → h'.2.2 q = h.2.2 q
theorem FQ.tr {m0 : Nat} {h h1 h2 : Hp} {c s c' s' : Nat} (u : FQ m0 h h1 c s) (v : FQ m0 h1 h2 c' s') : FQ m0 h h2 (c + c') (s + s') := by
  obtain ⟨u1, u2, u3, u4, u5⟩ := u
  obtain ⟨v1, v2, v3, v4, v5⟩ := v
  exact ⟨by omega, by omega, by omega, by omega, fun q g1 g2 g3 g4 => (v5 q (by omega) g2 g3 g4).trans (u5 q g1 g2 g3 g4)⟩
theorem FW.fq {m0 : Nat} {h h' : Hp} {c s : Nat} (u : FW m0 h h' c s) : FQ m0 h h' c s := ⟨u.1, u.2.1, u.2.2.1, u.2.2.2.1, fun q h1 h2 h3 _ => u.2.2.2.2 q h1 h2 h3⟩
theorem FQ.pf {m0 : Nat} {h h' : Hp} {c s : Nat} (u : FQ m0 h h' c s) : PF (muM m0) h h' := ⟨u.1, u.2.2.1, fun q hq => u.2.2.2.2 q hq.1 (fun e => hq.2 (by simp [muM, e])) (fun e => hq.2 (by simp [muM, e])) (fun e => hq.2 (by simp [muM, e]))⟩
theorem MOr.eq2 {h h' : Hp} {m0 nb sa O J : Nat} {s : Sg} {c k : Nat} (hR : MOr h m0 nb sa s O J) (F : FQ m0 h h' c k) (e5 : ∃ g, h'.2.2 (m0 + 5) = some (true, .inl (0, 408, .inl g))) (e6 : ∃ g, h'.2.2 (m0 + 6) = some (true, .inl (1, 152, .inl g))) : MOr h' m0 nb sa s O J := by
  obtain ⟨⟨gF, a1, a2⟩, ⟨gT, b1, b2⟩, c, d, e, f, g, i, j⟩ := hR
  refine ⟨⟨gF, (F.2.2.2.2 _ (by omega) (by omega) (by omega) (by omega)).trans a1, fun i z hz => ?_⟩, ⟨gT, (F.2.2.2.2 _ (by omega) (by omega) (by omega) (by omega)).trans b1, b2⟩, c.pf F.pf, d.pf F.pf, e5, e6, Nat.le_trans g F.1, i.pf F.pf, j.pf F.pf⟩
  obtain ⟨f, q1, q2⟩ := a2 i z hz
  exact ⟨f, q1, q2.pf F.pf⟩
section REFZA
variable {nb sa : Nat} {m0 f : Nat} {s : Sg} {O J : Nat} {nw : Value} {a' fl : Int32} {Jo : Nat} {B : List Nat} {x : Fs} {M : List Mng}
/-- the new places, one by one -/
theorem MO_inOrder_np {cl : List Value} {JL : Nat} {x4 x5 x6 : Option Value} (h14 : cl[14]? = some (.ref Jo)) (h15 : cl[15]? = some (.int (nI M.length))) (h16 : cl[16]? = some (.ref (m0 + 6))) (hl : M.length ≤ 150) {R : Option Value → Hp → Prop} : ∀ (d k : Nat) (h : Hp) (g : Nat → Int32), k + d = M.length → h.2.2 m0 = some (true, .inr (11, cl)) → AR (muM m0) h Jo JL M → M.length ≤ JL → JL ≤ 152 → okA (muM m0) h Jo → h.2.2 (m0 + 6) = some (true, .inl (1, 152, .inl g)) → (∀ j, j < k → g j = nI (hpM M j)) → (∀ (h' : Hp) (g' : Nat → Int32) (k' : Nat), h'.2.2 (m0 + 6) = some (true, .inl (1, 152, .inl g')) → (∀ j, j < M.length → g' j = nI (hpM M j)) → h'.1 = h.1 → h'.2.1 = h.2.1 → (∀ q, q ≠ m0 + 6 → h'.2.2 q = h.2.2 q) → Ex (prog nb sa) k_MO_inOrder 84 [some (.ref m0), some (.ref f), some (.int (nI (hpM M M.length))), some (.int (nI k')), x4, x5, x6] [] h' R) → Ex (prog nb sa) k_MO_inOrder 28 [some (.ref m0), some (.ref f), some (.int (nI (hpM M k))), some (.int (nI k)), x4, x5, x6] [] h R
  | 0, k, h, g, hk, hc, hA, hJ1, hJ2, hJo, hN, hg, K => by
    have hk' : k = M.length := by omega
    subst hk'
    have f0 := K h g M.length hN hg rfl rfl (fun _ _ => rfl)
    refine Ex_mv rfl rfl ?_; refine Ex_mv rfl rfl ?_; refine Ex_getf rfl hc h15 ?_; refine Ex_mv rfl rfl ?_; refine Ex_ift (nI_le (by omega) (by omega)) ?_
    exact f0
  | d + 1, k, h, g, hk, hc, hA, hJ1, hJ2, hJo, hN, hg, K => by
    have hkl : k < M.length := by omega
    obtain ⟨gJ, j1, j2⟩ := id hA
    obtain ⟨u, u1, ⟨ta, tb, tc, u2, -, -, -, u5, u6⟩⟩ := j2 k _ (List.getElem?_eq_getElem hkl)
    have ej : gJ (nI k).toNatClampNeg = some u := by rw [nI_clamp (by omega)]; exact u1
    have hn := hpM_le M k
    have hJne : Jo ≠ m0 + 6 := fun e => hJo.2 (by simp [muM, e])
    have hune : u ≠ m0 + 6 := fun e => u5.2 (by simp [muM, e])
    have j11 : ∀ z, (hset h (m0 + 6) z).2.2 Jo = _ := fun z => hs_ne hJne j1
    have u21 : ∀ z, (hset h (m0 + 6) z).2.2 u = _ := fun z => hs_ne hune u2
    have hc1 : ∀ z, (hset h (m0 + 6) z).2.2 m0 = _ := fun z => hs_ne (by omega) hc
    have P : PF (muM m0) h (hset h (m0 + 6) (.inl (1, 152, .inl (upd g k (nI (hpM M k)))))) := PF.rf.set (by simp [muM])
    have ih : Ex (prog nb sa) k_MO_inOrder 28 [some (.ref m0), some (.ref f), some (.int (nI (hpM M (k + 1)))), some (.int (nI (k + 1))), x4, x5, x6] [] (hset h (m0 + 6) (.inl (1, 152, .inl (upd g k (nI (hpM M k)))))) R := by
      refine MO_inOrder_np h14 h15 h16 hl d (k + 1) _ _ (by omega) (hc1 _) (hA.eq P (if_neg hJne)) hJ1 hJ2 (hJo.pf P) hs_at (fun j hj => ?_) (fun h' g' k' z1 z2 z3 z4 z5 => K h' g' k' z1 z2 z3 z4 (fun q hq => (z5 q hq).trans (if_neg hq)))
      by_cases e : j = k
      · rw [e, pk_us]
      · rw [pk_un e]; exact hg j (by omega)
    rw [hpM_succ M k hkl] at ih
    refine Ex_mv rfl rfl ?_; refine Ex_mv rfl rfl ?_; refine Ex_getf rfl hc h15 ?_; refine Ex_mv rfl rfl ?_; refine Ex_iff (nI_ge (by omega) (by omega)) ?_
    refine Ex_mv rfl rfl ?_; refine Ex_getf rfl hc h16 ?_; refine Ex_mv rfl rfl ?_; refine Ex_mv rfl rfl ?_; refine Ex_iast rfl hN (vp_in_nI (by omega) (by decide)) ?_
    rw [nI_clamp (by omega)]
    refine Ex_mv rfl rfl ?_; refine Ex_mv rfl rfl ?_; refine Ex_getf rfl (hc1 _) h14 ?_; refine Ex_mv rfl rfl ?_; refine Ex_aald rfl (j11 _) rfl (vp_in_nI (by omega) (by omega)) ej ?_; refine Ex_getf rfl (u21 _) rfl ?_
    unfold wst at ih
    refine Ex_mv rfl rfl ?_; refine Ex_mv rfl rfl ?_
    by_cases c5 : M[k].1 = 5
    · rw [if_pos (Or.inl c5)] at ih
      refine Ex_ift (by rw [c5]) ?_
      refine Ex_mv rfl rfl ?_; refine Ex_mv rfl rfl ?_; refine Ex_addN rfl ?_; refine Ex_mv rfl rfl ?_; refine Ex_incN rfl rfl ?_; refine Ex_mv rfl rfl ?_
      exact ih
    · refine Ex_iff (fun z => c5 ((nI_eq (by omega) (by decide)).mp z)) ?_
      refine Ex_mv rfl rfl ?_; refine Ex_getf rfl (hc1 _) h14 ?_; refine Ex_mv rfl rfl ?_; refine Ex_aald rfl (j11 _) rfl (vp_in_nI (by omega) (by omega)) ej ?_; refine Ex_getf rfl (u21 _) rfl ?_
      refine Ex_mv rfl rfl ?_; refine Ex_mv rfl rfl ?_
      by_cases c6 : M[k].1 = 6
      · rw [if_pos (Or.inr c6)] at ih
        refine Ex_iff (by rw [c6]; exact not_not_intro rfl) ?_
        refine Ex_mv rfl rfl ?_; refine Ex_mv rfl rfl ?_; refine Ex_addN rfl ?_; refine Ex_mv rfl rfl ?_; refine Ex_incN rfl rfl ?_; refine Ex_mv rfl rfl ?_
        exact ih
      · rw [if_neg (fun z => z.elim c5 c6)] at ih
        refine Ex_ift (fun z => c6 ((nI_eq (by omega) (by decide)).mp z)) ?_
        refine Ex_mv rfl rfl ?_; refine Ex_addN rfl ?_; refine Ex_mv rfl rfl ?_; refine Ex_incN rfl rfl ?_; refine Ex_mv rfl rfl ?_
        exact ih
/-- the entries -/
theorem MO_inOrder_ent {x2 : Int32} {x4 x5 x6 : Option Value} (hs : SoM M) (hl : M.length ≤ 150) (hM : ∀ m ∈ M, EnO M m) {R : Option Value → Hp → Prop} : ∀ (d k : Nat) (h : Hp) (X : List Nat), k + d = M.length → WS h m0 s O J nw a' fl Jo M.length X → OE h m0 nb f B x Jo M → X.length + (((M.drop k).map (eOM M)).flatten).length ≤ 408 → (∀ (h' : Hp) (k' : Nat), WS h' m0 s O J nw a' fl Jo M.length (X ++ ((M.drop k).map (eOM M)).flatten) → FW m0 h h' (2 * d) (10 * d) → Ex (prog nb sa) k_MO_inOrder 131 [some (.ref m0), some (.ref f), some (.int x2), some (.int (nI k')), x4, x5, x6] [] h' R) → Ex (prog nb sa) k_MO_inOrder 107 [some (.ref m0), some (.ref f), some (.int x2), some (.int (nI k)), x4, x5, x6] [] h R
  | 0, k, h, X, hk, hW, hE, hX, K => by
    have f0 := K h k (by rw [List.drop_eq_nil_of_le (by omega)]; simp only [List.map_nil, List.flatten_nil, List.append_nil]; exact hW) FW.rf
    have hc := hW.1
    refine Ex_mv rfl rfl ?_; refine Ex_mv rfl rfl ?_; refine Ex_getf rfl hc rfl ?_; refine Ex_mv rfl rfl ?_; refine Ex_ift (nI_le (by omega) (by omega)) ?_
    exact f0
  | d + 1, k, h, X, hk, hW, hE, hX, K => by
    have hkl : k < M.length := by omega
    rw [List.drop_eq_getElem_cons hkl, List.map_cons, List.flatten_cons] at hX K
    rw [List.length_append] at hX
    obtain ⟨JL, ⟨gJ, j1, j2⟩, l1, l2, l3⟩ := hE.2.2.1.ar
    obtain ⟨u, u1, u2⟩ := j2 k _ (List.getElem?_eq_getElem hkl)
    have ej : gJ (nI k).toNatClampNeg = some u := by rw [nI_clamp (by omega)]; exact u1
    obtain ⟨_, h1, e1, rfl, W1, F1⟩ := c_MO_addEntry (nb := nb) (sa := sa) hW hE hs hl u2 (hM _ (List.getElem_mem hkl)) (by omega)
    have ih := MO_inOrder_ent (x2 := x2) (x4 := x4) (x5 := x5) (x6 := x6) hs hl hM (R := R) d (k + 1) h1 _ (by omega) W1 (hE.fw F1) (by rw [List.length_append]; omega) (fun h' k' z1 z2 => K h' k' (by rw [← List.append_assoc]; exact z1) ((F1.tr z2).mono (by omega) (by omega)))
    have hc := hW.1
    refine Ex_mv rfl rfl ?_; refine Ex_mv rfl rfl ?_; refine Ex_getf rfl hc rfl ?_; refine Ex_mv rfl rfl ?_; refine Ex_iff (nI_ge (by omega) (by omega)) ?_; refine Ex_mv rfl rfl ?_; refine Ex_mv rfl rfl ?_; refine Ex_getf rfl hc rfl ?_; refine Ex_mv rfl rfl ?_; refine Ex_aald rfl j1 rfl (vp_in_nI (by omega) (by omega)) ej ?_; refine Ex_invV rfl (by rfl) (by rfl) hc (by rfl) (e1) ?_; (first | refine Ex_incN rfl rfl ?_ | refine Ex_mv rfl rfl ?_); refine Ex_mv rfl rfl ?_
    exact ih
/-- the faces -/
theorem MO_inOrder_fac {x2 : Int32} {x5 x6 : Option Value} (hG : GG B x) (hs : SoM M) (hl : M.length ≤ 150) (hM : ∀ j, tg B x.1 x.2.1 j ≠ 0 → mng B x.1 x.2.1 j ∈ M) {R : Option Value → Hp → Prop} : ∀ (d k : Nat) (h : Hp) (X : List Nat), k + d = b2 B (x.2.2.1 + 6) → WS h m0 s O J nw a' fl Jo M.length X → OE h m0 nb f B x Jo M → X.length + (outT (mvP M B x.1 x.2.1) (sFac B d (x.2.2.1 + 8 + 2 * k))).length ≤ 408 → (∀ (h' : Hp) (k' : Nat), WS h' m0 s O J nw a' fl Jo M.length (X ++ outT (mvP M B x.1 x.2.1) (sFac B d (x.2.2.1 + 8 + 2 * k))) → FW m0 h h' d (5 * d) → Ex (prog nb sa) k_MO_inOrder 225 [some (.ref m0), some (.ref f), some (.int x2), some (.int (nI x.2.2.1)), some (.int (nI k')), x5, x6] [] h' R) → Ex (prog nb sa) k_MO_inOrder 188 [some (.ref m0), some (.ref f), some (.int x2), some (.int (nI x.2.2.1)), some (.int (nI k)), x5, x6] [] h R
  | 0, k, h, X, hk, hW, hE, hX, K => by
    obtain ⟨b, t1, t2, t3, t7, t8, ow, o1, -⟩ := hE.1.ow
    have h8 := hG.1.2.2.2.2.1
    have f0 := K h k (by rw [show outT (mvP M B x.1 x.2.1) (sFac B 0 (x.2.2.1 + 8 + 2 * k)) = [] from rfl, List.append_nil]; exact hW) FW.rf
    refine Ex_mv rfl rfl ?_; refine Ex_mv rfl rfl ?_; refine Ex_getf rfl o1 rfl ?_; refine Ex_mv rfl rfl ?_; refine Ex_ift (nI_le (by omega) (by omega)) ?_
    exact f0
  | d + 1, k, h, X, hk, hW, hE, hX, K => by
    obtain ⟨b, t1, t2, t3, t7, t8, ow, o1, -⟩ := hE.1.ow
    obtain ⟨bb, hb, -⟩ := hE.1.hb
    have h8 := hG.1.2.2.2.2.1
    have hl4 := hE.1.lt.2
    have hn61 : x.2.1 ≤ 61 := hG.1.2.2.1
    have hf2 : fP B x.2.2.1 + 2 ≤ B.length := hG.1.2.2.2.2.2.1
    unfold fP at hf2
    have tn := hG.fct (k := k) (by omega)
    have htn := (tg_at rfl tn).1
    rw [sFac, outT] at hX K
    rw [List.length_append, tw2_len] at hX
    have tw := c_MH_two (nb := nb) (sa := sa) hb (p := x.2.2.1 + 8 + 2 * k) (by omega)
    obtain ⟨_, h1, e1, rfl, G1⟩ := c_MO_moved (nb := nb) (sa := sa) hW hE hG hs (i := b2 B (x.2.2.1 + 8 + 2 * k)) (by omega) (Or.inr ⟨tn, hM _ tn⟩)
    have W1 := hW.gr G1
    obtain ⟨_, h2, e2, rfl, W2, F2⟩ := c_MO_addTwo (nb := nb) (sa := sa) W1 (by omega) (mvP_lt (B := B) (x := x) hl (i := b2 B (x.2.2.1 + 8 + 2 * k)))
    have F12 := G1.fw.tr F2
    have e28 : x.2.2.1 + 8 + 2 * (k + 1) = x.2.2.1 + 8 + 2 * k + 2 := by omega
    have ih := MO_inOrder_fac (x2 := x2) (x5 := x5) (x6 := x6) hG hs hl hM (R := R) d (k + 1) h2 _ (by omega) W2 (hE.fw F12) (by rw [List.length_append, tw2_len, e28]; omega) (fun h' k' z1 z2 => K h' k' (by rw [← List.append_assoc, ← e28]; exact z1) ((F12.tr z2).mono (by omega) (by omega)))
    have hc := hW.1
    have hc1 := W1.1
    refine Ex_mv rfl rfl ?_; refine Ex_mv rfl rfl ?_; refine Ex_getf rfl o1 rfl ?_; refine Ex_mv rfl rfl ?_; refine Ex_iff (nI_ge (by omega) (by omega)) ?_; refine Ex_mv rfl rfl ?_; refine Ex_mv rfl rfl ?_; refine Ex_mv rfl rfl ?_; refine Ex_mv rfl rfl ?_; refine Ex_mv rfl rfl ?_; refine Ex_mv rfl rfl ?_; (first | refine Ex_addN rfl ?_ | refine Ex_mv rfl rfl ?_); refine Ex_mv rfl rfl ?_; refine Ex_mv rfl rfl ?_; (first | refine Ex_mulN rfl ?_ | refine Ex_mv rfl rfl ?_); (first | refine Ex_addN rfl ?_ | refine Ex_mv rfl rfl ?_); refine Ex_invV rfl (by rfl) (by rfl) o1 (by rfl) (tw) ?_; refine Ex_invV rfl (by rfl) (by rfl) hc (by rfl) (e1) ?_; refine Ex_invV rfl (by rfl) (by rfl) hc1 (by rfl) (e2) ?_; (first | refine Ex_incN rfl rfl ?_ | refine Ex_mv rfl rfl ?_); refine Ex_mv rfl rfl ?_
    exact ih
/-- the members of a kind -/
theorem MO_inOrder_mem {kk : Nat} {x2 x3 : Int32} (hkk : kk < 2) (hG : GG B x) (hs : SoM M) (hl : M.length ≤ 150) (hM : ∀ j, tg B x.1 x.2.1 j ≠ 0 → mng B x.1 x.2.1 j ∈ M) {R : Option Value → Hp → Prop} : ∀ (d k p : Nat) (x6 : Option Value) (h : Hp) (X : List Nat), k + d = (mK x.2.2.2.2.1 x.2.2.2.2.2.1 kk).length → (mK x.2.2.2.2.1 x.2.2.2.2.2.1 kk).drop k = memL B d p → WS h m0 s O J nw a' fl Jo M.length X → OE h m0 nb f B x Jo M → X.length + (outT (mvP M B x.1 x.2.1) (sMem B d p)).length ≤ 408 → (∀ (h' : Hp) (k' : Nat) (x6 : Option Value), WS h' m0 s O J nw a' fl Jo M.length (X ++ outT (mvP M B x.1 x.2.1) (sMem B d p)) → FW m0 h h' (8 * d) (40 * d) → Ex (prog nb sa) k_MO_inOrder 341 [some (.ref m0), some (.ref f), some (.int x2), some (.int x3), some (.int (nI kk)), some (.int (nI k')), x6] [] h' R) → Ex (prog nb sa) k_MO_inOrder 248 [some (.ref m0), some (.ref f), some (.int x2), some (.int x3), some (.int (nI kk)), some (.int (nI k)), x6] [] h R
  | 0, k, p, x6, h, X, hk, hp, hW, hE, hX, K => by
    obtain ⟨b, t1, t2, t3, t7, t8, ow, ak, gm, gc, c1, c2, c3, ⟨_, _, _, _, hml⟩, c5, c6⟩ := hE.1.kd hkk
    have e1 : gc (nI kk).toNatClampNeg = nI k := by rw [nI_clamp (by omega), c6, ← hk]; rfl
    have f0 := K h k x6 (by rw [show outT (mvP M B x.1 x.2.1) (sMem B 0 p) = [] from rfl, List.append_nil]; exact hW) FW.rf
    refine Ex_mv rfl rfl ?_; refine Ex_mv rfl rfl ?_; refine Ex_getf rfl c1 rfl ?_; refine Ex_mv rfl rfl ?_; refine Ex_iald rfl c5 (vp_in_nI (by omega) (by decide)) ?_
    rw [e1]
    refine Ex_mv rfl rfl ?_; refine Ex_ift (nI_le (by omega) (by omega)) ?_
    exact f0
  | d + 1, k, p, x6, h, X, hk, hp, hW, hE, hX, K => by
    obtain ⟨b, t1, t2, t3, t7, t8, ow, ak, gm, gc, c1, c2, c3, ⟨gk, c4, c4', c4'', hml⟩, c5, c6⟩ := hE.1.kd hkk
    have e1 : gc (nI kk).toNatClampNeg = nI (k + (d + 1)) := by rw [nI_clamp (by omega), c6, ← hk]
    have e2 : gm (nI kk).toNatClampNeg = some ak := by rw [nI_clamp (by omega), c3]
    obtain ⟨u, u1, wu, u2, u3, u4⟩ := c4' k (by omega)
    have e3 : gk (nI k).toNatClampNeg = some u := by rw [nI_clamp (by omega), u1]
    have ep : (mK x.2.2.2.2.1 x.2.2.2.2.2.1 kk).getD k 0 = p := by
      have := congrArg (fun l => l.getD 0 0) hp
      simpa [memL, List.getD_eq_getElem?_getD, List.getElem?_drop] using this
    have hpm : p ∈ mK x.2.2.2.2.1 x.2.2.2.2.2.1 kk := by
      rw [← ep, List.getD_eq_getElem?_getD, List.getElem?_eq_getElem (by omega)]; exact List.getElem_mem _
    rw [ep] at u2 u3
    obtain ⟨p8, pt2, pt4, p6, pA, pT⟩ := hG.mg1 hkk hpm
    have hdr : (mK x.2.2.2.2.1 x.2.2.2.2.2.1 kk).drop (k + 1) = memL B d (attE B (p + 6)) := by
      have e5 : (mK x.2.2.2.2.1 x.2.2.2.2.2.1 kk).drop (k + 1) = ((mK x.2.2.2.2.1 x.2.2.2.2.2.1 kk).drop k).drop 1 := by rw [List.drop_drop]
      rw [e5, hp]; rfl
    have hlt := hE.1.lt.1
    have hl4 := hE.1.lt.2
    have hn61 : x.2.1 ≤ 61 := hG.1.2.2.1
    have eo : outT (mvP M B x.1 x.2.1) (sMem B (d + 1) p) = tw2 (b2 B p) ++ (tw2 (mvP M B x.1 x.2.1 (b2 B (p + 2))) ++ (tw2 (mvP M B x.1 x.2.1 (b2 B (p + 4))) ++ ((tw2 (b2 B (p + 6)) ++ outT (mvP M B x.1 x.2.1) (sAtt B (b2 B (p + 6)) (p + 8))) ++ outT (mvP M B x.1 x.2.1) (sMem B d (attE B (p + 6)))))) := by
      rw [sMem, outT_app, outT, outT, outT_app, outT_app]
      unfold tB2
      rw [outT_inl, outT_inl, sl2_tw hlt (by omega), sl2_tw hlt (by omega)]
      simp only [List.append_assoc]
    rw [eo] at hX K
    simp only [List.length_append, tw2_len] at hX
    obtain ⟨bb, hb, -⟩ := hE.1.hb
    have l1 := b2_lt hlt p
    have l2 := b2_lt hlt (p + 2)
    have l4 := b2_lt hlt (p + 4)
    have tw1 := c_MH_two (nb := nb) (sa := sa) hb (p := p) (by omega)
    obtain ⟨_, h1, a1, rfl, W1, F1⟩ := c_MO_addTwo (nb := nb) (sa := sa) hW (by omega) (v := b2 B p) (by omega)
    have E1 := hE.fw F1
    have u21 : h1.2.2 u = _ := F1.pf.at u2 u4
    obtain ⟨bb1, hb1, -⟩ := E1.1.hb
    obtain ⟨⟨r1, hf1⟩, -⟩ := id hb1
    have tw3 := c_MH_two (nb := nb) (sa := sa) hb1 (p := p + 2) (by omega)
    obtain ⟨_, h2, a2, rfl, G2⟩ := c_MO_moved (nb := nb) (sa := sa) W1 E1 hG hs (i := b2 B (p + 2)) (by omega) (Or.inr ⟨pt2, hM _ pt2⟩)
    have W2 := W1.gr G2
    obtain ⟨_, h3, a3, rfl, W3, F3⟩ := c_MO_addTwo (nb := nb) (sa := sa) W2 (by simp only [List.length_append, tw2_len]; omega) (mvP_lt (B := B) (x := x) hl (i := b2 B (p + 2)))
    have F13 := (F1.tr G2.fw).tr F3
    have E3 := hE.fw F13
    have u23 : h3.2.2 u = _ := F13.pf.at u2 u4
    obtain ⟨bb3, hb3, -⟩ := E3.1.hb
    obtain ⟨⟨r3, hf3⟩, -⟩ := id hb3
    have tw5 := c_MH_two (nb := nb) (sa := sa) hb3 (p := p + 4) (by omega)
    obtain ⟨_, h4, a4, rfl, G4⟩ := c_MO_moved (nb := nb) (sa := sa) W3 E3 hG hs (i := b2 B (p + 4)) (by omega) (Or.inr ⟨pt4, hM _ pt4⟩)
    have W4 := W3.gr G4
    obtain ⟨_, h5, a5, rfl, W5, F5⟩ := c_MO_addTwo (nb := nb) (sa := sa) W4 (by simp only [List.length_append, tw2_len]; omega) (mvP_lt (B := B) (x := x) hl (i := b2 B (p + 4)))
    have F15 := (F13.tr G4.fw).tr F5
    have E5 := hE.fw F15
    have u25 : h5.2.2 u = _ := F15.pf.at u2 u4
    obtain ⟨_, h6, a6, rfl, W6, F6⟩ := c_MO_addAttributes (nb := nb) (sa := sa) hG hs hl hM pA p6 pT W5 E5 (u3.pf F15.pf) (by simp only [List.length_append, tw2_len]; rw [show p + 6 + 2 = p + 8 from rfl]; omega)
    rw [show p + 6 + 2 = p + 8 from rfl] at W6
    have F16 := F15.tr F6
    have ih := fun x6 => MO_inOrder_mem (x2 := x2) (x3 := x3) hkk hG hs hl hM (R := R) d (k + 1) (attE B (p + 6)) x6 h6 _ (by omega) hdr W6 (hE.fw F16) (by simp only [List.length_append, tw2_len]; omega) (fun h' k' x6 z1 z2 => K h' k' x6 (by simp only [List.append_assoc] at z1 ⊢; exact z1) ((F16.tr z2).mono (by omega) (by omega)))
    have hc := hW.1
    have hc1 := W1.1
    have hc2 := W2.1
    have hc3 := W3.1
    have hc4 := W4.1
    have hc5 := W5.1
    refine Ex_mv rfl rfl ?_; refine Ex_mv rfl rfl ?_; refine Ex_getf rfl c1 rfl ?_; refine Ex_mv rfl rfl ?_; refine Ex_iald rfl c5 (vp_in_nI (by omega) (by decide)) ?_
    rw [e1]
    refine Ex_mv rfl rfl ?_; refine Ex_iff (nI_ge (by omega) (by omega)) ?_; refine Ex_mv rfl rfl ?_; refine Ex_getf rfl c1 rfl ?_; refine Ex_mv rfl rfl ?_; refine Ex_aald rfl c2 rfl (vp_in_nI (by omega) (by decide)) e2 ?_; refine Ex_mv rfl rfl ?_; refine Ex_aald rfl c4 rfl (vp_in_nI (by omega) (by decide)) e3 ?_; refine Ex_mv rfl rfl ?_; refine Ex_mv rfl rfl ?_; refine Ex_mv rfl rfl ?_; refine Ex_mv rfl rfl ?_; refine Ex_getf rfl u2 rfl ?_; refine Ex_invV rfl (by rfl) (by rfl) c1 (by rfl) (tw1) ?_; refine Ex_invV rfl (by rfl) (by rfl) hc (by rfl) (a1) ?_; refine Ex_mv rfl rfl ?_; refine Ex_mv rfl rfl ?_; refine Ex_mv rfl rfl ?_; refine Ex_mv rfl rfl ?_; refine Ex_mv rfl rfl ?_; refine Ex_getf rfl u21 rfl ?_; refine Ex_mv rfl rfl ?_; (first | refine Ex_addN rfl ?_ | refine Ex_mv rfl rfl ?_); refine Ex_invV rfl (by rfl) (by rfl) hf1 (by rfl) (tw3) ?_; refine Ex_invV rfl (by rfl) (by rfl) hc1 (by rfl) (a2) ?_; refine Ex_invV rfl (by rfl) (by rfl) hc2 (by rfl) (a3) ?_; refine Ex_mv rfl rfl ?_; refine Ex_mv rfl rfl ?_; refine Ex_mv rfl rfl ?_; refine Ex_mv rfl rfl ?_; refine Ex_mv rfl rfl ?_; refine Ex_getf rfl u23 rfl ?_; refine Ex_mv rfl rfl ?_; (first | refine Ex_addN rfl ?_ | refine Ex_mv rfl rfl ?_); refine Ex_invV rfl (by rfl) (by rfl) hf3 (by rfl) (tw5) ?_; refine Ex_invV rfl (by rfl) (by rfl) hc3 (by rfl) (a4) ?_; refine Ex_invV rfl (by rfl) (by rfl) hc4 (by rfl) (a5) ?_; refine Ex_mv rfl rfl ?_; refine Ex_mv rfl rfl ?_; refine Ex_mv rfl rfl ?_; refine Ex_getf rfl u25 rfl ?_; refine Ex_invV rfl (by rfl) (by rfl) hc5 (by rfl) (a6) ?_; (first | refine Ex_incN rfl rfl ?_ | refine Ex_mv rfl rfl ?_); refine Ex_mv rfl rfl ?_
    exact ih _
end REFZA
