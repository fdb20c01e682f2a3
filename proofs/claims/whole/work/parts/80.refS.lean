/-! the other side: meanings laid in order -/
theorem MLk.mono {m0 m1 : Nat → Prop} {h : Hp} {t : Nat} {B M : List Nat} (hm : ∀ t, okA m0 h t → okA m1 h t) (a : MLk m0 h t B M) : MLk m1 h t B M := by
  obtain ⟨g, h1, h2, h3, h4⟩ := a
  refine ⟨g, h1, fun j hj => ?_, hm _ h3, h4⟩
  obtain ⟨u, q1, q2⟩ := h2 j hj
  exact ⟨u, q1, q2.mono hm⟩
theorem HF.mono {m0 m1 : Nat → Prop} {h : Hp} {f : Nat} {z : Fl} (hm : ∀ t, okA m0 h t → okA m1 h t) (a : HF m0 h f z) : HF m1 h f z := by
  obtain ⟨b, t1, t2, t3, t7, a5, a6, t8, ow, gt, ga, gc, gx, gm, c1, c2, c3, ⟨d1, d2, d3⟩, ⟨e1, e2, e3⟩, ⟨f1, f2, f3⟩, ⟨g1, g2, g3, g4, g5, g6⟩, ⟨i1, i2, i3⟩, j1⟩ := a
  refine ⟨b, t1, t2, t3, t7, a5, a6, t8, ow, gt, ga, gc, gx, gm, c1, hm _ c2, c3.mono hm, ⟨d1, hm _ d2, d3⟩, ⟨e1, hm _ e2, e3⟩, ⟨f1, hm _ f2, fun j hj ht => ?_⟩, ⟨g1, hm _ g2, g3, g4, g5.mono hm, g6.mono hm⟩, ⟨i1, hm _ i2, i3⟩, j1.mono hm⟩
  obtain ⟨t, q1, q2⟩ := f3 j hj ht
  exact ⟨t, q1, q2.mono hm⟩
theorem MGk.mono {m0 m1 : Nat → Prop} {h : Hp} {u : Nat} {m : Mng} (hm : ∀ t, okA m0 h t → okA m1 h t) (a : MGk m0 h u m) : MGk m1 h u m := by
  obtain ⟨ta, tb, tc, h1, h2, h3, h4, h5, h6⟩ := a
  exact ⟨ta, tb, tc, h1, h2.mono hm, h3.mono hm, h4.mono hm, hm _ h5, h6⟩
theorem fd_neg : ∀ k, k < 200 → -(nI k) - nI 1 < 0 := by decide +kernel
theorem fd_inv : ∀ k, k < 200 → -(-(nI k) - nI 1) - nI 1 = nI k := by decide +kernel
/-- nothing but the row changed -/
def FJ (J : Nat) (h h' : Hp) (c s : Nat) : Prop := h.1 ≤ h'.1 ∧ h'.1 ≤ h.1 + c ∧ h.2.1 ≤ h'.2.1 ∧ h'.2.1 ≤ h.2.1 + s ∧ ∀ q, q < h.1 → q ≠ J → h'.2.2 q = h.2.2 q
theorem FJ.tr {J : Nat} {h h1 h2 : Hp} {c s c' s' : Nat} (u : FJ J h h1 c s) (v : FJ J h1 h2 c' s') : FJ J h h2 (c + c') (s + s') := by
  obtain ⟨u1, u2, u3, u4, u5⟩ := u
  obtain ⟨v1, v2, v3, v4, v5⟩ := v
  exact ⟨by omega, by omega, by omega, by omega, fun q g1 g2 => (v5 q (by omega) g2).trans (u5 q g1 g2)⟩
theorem FJ.mono {J : Nat} {h h1 : Hp} {c s c' s' : Nat} (u : FJ J h h1 c s) (h1' : c ≤ c') (h2 : s ≤ s') : FJ J h h1 c' s' := by
  obtain ⟨u1, u2, u3, u4, u5⟩ := u
  exact ⟨by omega, by omega, by omega, by omega, u5⟩
theorem FJ.rf {J : Nat} {h : Hp} : FJ J h h 0 0 := ⟨Nat.le_refl _, by omega, Nat.le_refl _, by omega, fun _ _ _ => rfl⟩
theorem FJ.pf {J : Nat} {h h' : Hp} {c s : Nat} {mu : Nat → Prop} (u : FJ J h h' c s) (hJ : mu J) : PF mu h h' := ⟨u.1, u.2.2.1, fun q hq => u.2.2.2.2 q hq.1 (fun e => hq.2 (by rw [e]; exact hJ))⟩
theorem AR.eq {mu : Nat → Prop} {h h' : Hp} {J JL : Nat} {M : List Mng} (a : AR mu h J JL M) (F : PF mu h h') (e : h'.2.2 J = h.2.2 J) : AR mu h' J JL M := by
  obtain ⟨g, h1, h2⟩ := a
  refine ⟨g, e.trans h1, fun j m hj => ?_⟩
  obtain ⟨u, q1, q2⟩ := h2 j m hj
  exact ⟨u, q1, q2.pf F⟩
section REFS
variable {nb sa : Nat} {m0 f J : Nat} {B : List Nat} {x : Fs} {mu : Nat → Prop}
theorem MO_lay_shift {p k0 : Nat} {g0 : Nat → Option Nat} {a0 a1 a3 a6 : Option Value} {c4 i : Int32} (hk0 : k0 ≤ 150) {R : Option Value → Hp → Prop} : ∀ (d k : Nat) (h : Hp) (g : Nat → Option Nat), k = p + d → k ≤ k0 → h.2.2 J = some (true, .inl (10, 152, .inr (.inr (.inr (.inr g))))) → (∀ j, g j = if k < j ∧ j ≤ k0 then g0 (j - 1) else g0 j) → (∀ j, j < k0 → ∃ u fs, g0 j = some u ∧ h.2.2 u = some (true, .inr (9, fs)) ∧ u ≠ J) → (∀ h' k' g', h'.2.2 J = some (true, .inl (10, 152, .inr (.inr (.inr (.inr g'))))) → (∀ j, g' j = if p < j ∧ j ≤ k0 then g0 (j - 1) else g0 j) → h'.1 = h.1 → h'.2.1 = h.2.1 → (∀ q, q ≠ J → h'.2.2 q = h.2.2 q) → Ex (prog nb sa) k_MO_lay 91 [a0, a1, some (.ref J), a3, some (.int c4), some (.int i), a6, some (.int (nI p)), some (.int (nI k'))] [] h' R) → Ex (prog nb sa) k_MO_lay 68 [a0, a1, some (.ref J), a3, some (.int c4), some (.int i), a6, some (.int (nI p)), some (.int (nI k))] [] h R
  | 0, k, h, g, hk, hkk, hJ, hg, hu, K => by
    have f0 := K h k g hJ (by rw [show p = k by omega]; exact hg) rfl rfl (fun _ _ => rfl)
    refine Ex_mv rfl rfl ?_; refine Ex_mv rfl rfl ?_; refine Ex_mv rfl rfl ?_; refine Ex_ift (nI_le (by omega) (by omega)) ?_
    exact f0
  | d + 1, k, h, g, hk, hkk, hJ, hg, hu, K => by
    obtain ⟨u, fs, u1, u2, u3⟩ := hu (k - 1) (by omega)
    have eg : g (nI (k - 1)).toNatClampNeg = some u := by
      rw [nI_clamp (by omega), hg, if_neg (by omega)]; exact u1
    have recu : Ex (prog nb sa) k_MO_lay 68 [a0, a1, some (.ref J), a3, some (.int c4), some (.int i), a6, some (.int (nI p)), some (.int (nI (k - 1)))] [] (hset h J (.inl (10, 152, .inr (.inr (.inr (.inr (va_up g k (some u)))))))) R := by
      refine MO_lay_shift hk0 d (k - 1) _ _ (by omega) (by omega) hs_at (fun j => ?_) (fun j hj => ?_) (fun h' k' g' z1 z2 z3 z4 z5 => K h' k' g' z1 z2 z3 z4 (fun q hq => (z5 q hq).trans (if_neg hq)))
      · by_cases e : j = k
        · subst e
          rw [va_up, if_pos rfl, if_pos (by omega), u1]
        · rw [va_up, if_neg e, hg]
          by_cases c1 : k < j ∧ j ≤ k0
          · rw [if_pos c1, if_pos (by omega)]
          · rw [if_neg c1, if_neg (by omega)]
      · obtain ⟨u', fs', w1, w2, w3⟩ := hu j hj
        exact ⟨u', fs', w1, hs_ne w3 w2, w3⟩
    have ek : (nI k).toNatClampNeg = k := nI_clamp (by omega)
    refine Ex_mv rfl rfl ?_; refine Ex_mv rfl rfl ?_; refine Ex_mv rfl rfl ?_; refine Ex_iff (nI_ge (by omega) (by omega)) ?_; refine Ex_mv rfl rfl ?_; refine Ex_mv rfl rfl ?_; refine Ex_mv rfl rfl ?_; refine Ex_mv rfl rfl ?_; refine Ex_mv rfl rfl ?_; (first | refine Ex_subN rfl (by omega) ?_ | refine Ex_mv rfl rfl ?_); refine Ex_aald rfl hJ rfl (vp_in_nI (by omega) (by decide)) eg ?_; refine Ex_aast rfl hJ u2 rfl (vp_in_nI (by omega) (by decide)) ?_
    refine Ex_mv rfl rfl ?_; refine Ex_mv rfl rfl ?_
    rw [ek, sb_m1 (show 0 < k by omega)]
    exact recu
def LyR (mu : Nat → Prop) (h' : Hp) (J : Nat) (o : Option (List Mng)) (v : Option Value) : Prop := match o with
  | none => v = some (.int (nI 151))
  | some M' => v = some (.int (nI M'.length)) ∧ SoM M' ∧ M'.length ≤ 150 ∧ AR mu h' J 152 M'
theorem MO_lay_loop {cl : List Value} (hG : GG B x) (hJ : mu J) {a3 : Int32} : ∀ (d i : Nat) (M : List Mng) (h : Hp) (x6 x7 x8 : Option Value), (i + d = x.2.1 ∨ d = 0 ∧ x.2.1 ≤ i) → 1 ≤ i → i < 100 → AR mu h J 152 M → SoM M → M.length ≤ 150 → HF mu h f (B, x) → BAk mu h nb [] → (∀ q, mu q → q < h.1) → h.2.2 m0 = some (true, .inr (11, cl)) → m0 ≠ J → m0 < h.1 → Ex (prog nb sa) k_MO_lay 6 [some (.ref m0), some (.ref f), some (.ref J), some (.int a3), some (.int (nI M.length)), some (.int (nI i)), x6, x7, x8] [] h (fun v h' => LyR mu h' J (addS B x.1 x.2.1 d i M) v ∧ FJ J h h' d (5 * d) ∧ ∃ g, h'.2.2 J = some (true, .inl (10, 152, .inr (.inr (.inr (.inr g))))))
  | 0, i, M, h, x6, x7, x8, hd, h1, hi, hA, hs, hl, hF, hnb, hmu, hc, hmJ, hm1 => by
    obtain ⟨b, t1, t2, t3, t7, t8, ow, c1, -⟩ := hF.ow
    have hn : x.2.1 ≤ 61 := hG.1.2.2.1
    obtain ⟨gJ, j1, -⟩ := id hA
    refine Ex_mv rfl rfl ?_; refine Ex_mv rfl rfl ?_; refine Ex_getf rfl c1 rfl ?_; refine Ex_mv rfl rfl ?_; refine Ex_ift (nI_le (by omega) (by omega)) ?_; refine Ex_mv rfl rfl ?_
    refine Ex_rt rfl rfl ?_
    exact ⟨⟨rfl, hs, hl, hA⟩, FJ.rf, gJ, j1⟩
  | d + 1, i, M, h, x6, x7, x8, hd, h1, hi, hA, hs, hl, hF, hnb, hmu, hc, hmJ, hm1 => by
    have hn : x.2.1 ≤ 61 := hG.1.2.2.1
    have hlt := hF.lt.1
    obtain ⟨b, t1, t2, t3, t7, t8, ow, gt, gx, c1, c2, c3, c4, c5, l1, l3, lf⟩ := HFx2 hF
    have eg : gt (nI i).toNatClampNeg = nI (tg B x.1 x.2.1 i) := by rw [nI_clamp (by omega)]; exact c4 i (by omega)
    have htl := tg_lt (S := x.1) (n := x.2.1) hlt i
    unfold addS
    by_cases t0 : tg B x.1 x.2.1 i = 0
    · rw [if_pos t0]
      rw [t0] at eg
      have ih := MO_lay_loop (a3 := a3) hG hJ d (i + 1) M h x6 x7 x8 (by omega) (by omega) (by omega) hA hs hl hF hnb hmu hc hmJ hm1
      refine Ex_mv rfl rfl ?_; refine Ex_mv rfl rfl ?_; refine Ex_getf rfl c1 rfl ?_; refine Ex_mv rfl rfl ?_; refine Ex_iff (nI_ge (by omega) (by omega)) ?_; refine Ex_mv rfl rfl ?_; refine Ex_mv rfl rfl ?_; refine Ex_mv rfl rfl ?_; refine Ex_iff (nI_nlt (by omega) (by omega)) ?_; refine Ex_mv rfl rfl ?_; refine Ex_getf rfl c1 rfl ?_; refine Ex_mv rfl rfl ?_; refine Ex_iald rfl c2 (vp_in_nI (by omega) (by decide)) ?_
      rw [eg]
      refine Ex_mv rfl rfl ?_; refine Ex_ift (show nI 0 = 0 from rfl) ?_; (first | refine Ex_incN rfl rfl ?_ | refine Ex_mv rfl rfl ?_); refine Ex_mv rfl rfl ?_
      exact Ex_mono ih (fun v h' z => ⟨z.1, z.2.1.mono (Nat.le_succ d) (show 5 * d ≤ 5 * (d + 1) by omega), z.2.2⟩)
    · rw [if_neg t0]
      obtain ⟨_, h1', e1, rfl, G1, s1, s2, s3⟩ := c_MO_meaningOf (nb := nb) (sa := sa) (m0 := m0) hF hG hnb hmu (i := i) t0
      have P1 : PF mu h h1' := ⟨by omega, by omega, fun q hq => s3 q hq.1⟩
      have hJl : J < h.1 := hmu J hJ
      have hA1 : AR mu h1' J 152 M := hA.eq P1 (s3 J hJl)
      have fd := c_MO_find (nb := nb) (sa := sa) hA1 (by omega) (Nat.le_refl _) G1 hs
      have hF1 := hF.pf P1
      have hnb1 := hnb.pf P1
      have hmu1 : ∀ q, mu q → q < h1'.1 := fun q hq => by have := hmu q hq; omega
      have hc1 : h1'.2.2 m0 = _ := (s3 m0 hm1).trans hc
      have FJ1 : FJ J h h1' 1 5 := ⟨by omega, by omega, by omega, by omega, fun q g1 _ => s3 q g1⟩
      have hlow := lowM_le M (mng B x.1 x.2.1 i)
      have n0 : ¬ nI (tg B x.1 x.2.1 i) = 0 := nI_nz t0 (by omega)
      unfold fdI at fd
      by_cases hm : mng B x.1 x.2.1 i ∈ M
      · rw [if_pos hm] at fd ⊢
        have ih := fun x6 x7 => MO_lay_loop (a3 := a3) hG hJ d (i + 1) M h1' x6 x7 x8 (by omega) (by omega) (by omega) hA1 hs hl hF1 hnb1 hmu1 hc1 hmJ (by omega)
        refine Ex_mv rfl rfl ?_; refine Ex_mv rfl rfl ?_; refine Ex_getf rfl c1 rfl ?_; refine Ex_mv rfl rfl ?_; refine Ex_iff (nI_ge (by omega) (by omega)) ?_; refine Ex_mv rfl rfl ?_; refine Ex_mv rfl rfl ?_; refine Ex_mv rfl rfl ?_; refine Ex_iff (nI_nlt (by omega) (by omega)) ?_; refine Ex_mv rfl rfl ?_; refine Ex_getf rfl c1 rfl ?_; refine Ex_mv rfl rfl ?_; refine Ex_iald rfl c2 (vp_in_nI (by omega) (by decide)) ?_
        rw [eg]
        refine Ex_mv rfl rfl ?_; refine Ex_iff n0 ?_; refine Ex_mv rfl rfl ?_; refine Ex_mv rfl rfl ?_; refine Ex_mv rfl rfl ?_; refine Ex_invV rfl (by rfl) (by rfl) hc (by rfl) (e1) ?_; refine Ex_mv rfl rfl ?_; refine Ex_mv rfl rfl ?_; refine Ex_mv rfl rfl ?_; refine Ex_mv rfl rfl ?_; refine Ex_inv rfl (by rfl) (by rfl) (by rfl) (fd) ?_; refine Ex_mv rfl rfl ?_; refine Ex_mv rfl rfl ?_; refine Ex_mv rfl rfl ?_; refine Ex_ift (nI_pos' (by omega)) ?_; (first | refine Ex_incN rfl rfl ?_ | refine Ex_mv rfl rfl ?_); refine Ex_mv rfl rfl ?_
        exact Ex_mono (ih _ _) (fun v h' z => ⟨z.1, (FJ1.tr z.2.1).mono (show 1 + d ≤ d + 1 by omega) (show 5 + 5 * d ≤ 5 * (d + 1) by omega), z.2.2⟩)
      · rw [if_neg hm] at fd ⊢
        obtain ⟨gJ, j1, j2⟩ := id hA1
        obtain ⟨uga, ugb, ugc, uc, -⟩ := id G1
        have hus : ∀ j, j < M.length → ∃ u fs, gJ j = some u ∧ h1'.2.2 u = some (true, .inr (9, fs)) ∧ u ≠ J := fun j hj => by
          obtain ⟨u, u1, ⟨_, _, _, u2, -, -, -, u3, -⟩⟩ := j2 j _ (List.getElem?_eq_getElem hj)
          exact ⟨u, _, u1, u2, fun e => u3.2 (by rw [e]; exact hJ)⟩
        -- behind the shift
        have post : ∀ (k7 : Nat), Ex (prog nb sa) k_MO_lay 68 [some (.ref m0), some (.ref f), some (.ref J), some (.int a3), some (.int (nI M.length)), some (.int (nI i)), some (.ref h.1), some (.int (nI (lowM M (mng B x.1 x.2.1 i)))), some (.int (nI M.length))] [] h1' (fun v h' => LyR mu h' J (if 150 ≤ M.length then none else addS B x.1 x.2.1 d (i + 1) (insM M (mng B x.1 x.2.1 i))) v ∧ FJ J h h' (d + 1) (5 * (d + 1)) ∧ ∃ g, h'.2.2 J = some (true, .inl (10, 152, .inr (.inr (.inr (.inr g)))))) := by
          intro k7
          refine MO_lay_shift (k0 := M.length) (g0 := gJ) hl (M.length - lowM M (mng B x.1 x.2.1 i)) M.length h1' gJ (by omega) (Nat.le_refl _) j1 (fun j => by rw [if_neg (by omega)]) hus ?_
          intro h2 k' g' z1 z2 z3 z4 z5
          have ep : (nI (lowM M (mng B x.1 x.2.1 i))).toNatClampNeg = lowM M (mng B x.1 x.2.1 i) := nI_clamp (by omega)
          have uc2 : h2.2.2 h.1 = _ := (z5 h.1 (by omega)).trans uc
          have F2 : FJ J h1' (hset h2 J (.inl (10, 152, .inr (.inr (.inr (.inr (va_up g' (lowM M (mng B x.1 x.2.1 i)) (some h.1)))))))) 0 0 := ⟨by show _ ≤ h2.1; omega, by show h2.1 ≤ _; omega, by show _ ≤ h2.2.1; omega, by show h2.2.1 ≤ _; omega, fun q _ g2 => (if_neg g2).trans (z5 q g2)⟩
          have P2 : PF mu h1' _ := F2.pf hJ
          have hlen : (insM M (mng B x.1 x.2.1 i)).length = M.length + 1 := by rw [insM_new M hm]; simp; omega
          have hA2 : AR mu (hset h2 J (.inl (10, 152, .inr (.inr (.inr (.inr (va_up g' (lowM M (mng B x.1 x.2.1 i)) (some h.1)))))))) J 152 (insM M (mng B x.1 x.2.1 i)) := by
            refine ⟨_, hs_at, fun j m hj => ?_⟩
            rw [insM_new M hm] at hj
            by_cases c1 : j = lowM M (mng B x.1 x.2.1 i)
            · rw [c1, List.getElem?_append_right (by simp; omega)] at hj
              have e0 : lowM M (mng B x.1 x.2.1 i) - (List.take (lowM M (mng B x.1 x.2.1 i)) M).length = 0 := by simp; omega
              rw [e0] at hj
              simp only [List.getElem?_cons_zero, Option.some.injEq] at hj
              exact ⟨h.1, by rw [c1, va_up, if_pos rfl], by rw [← hj]; exact G1.pf P2⟩
            · rw [va_up, if_neg c1, z2]
              by_cases c2 : j < lowM M (mng B x.1 x.2.1 i)
              · rw [List.getElem?_append_left (by simp; omega), List.getElem?_take, if_pos c2] at hj
                rw [if_neg (by omega)]
                obtain ⟨u, q1, q2⟩ := j2 j m hj
                exact ⟨u, q1, q2.pf P2⟩
              · rw [List.getElem?_append_right (by simp; omega)] at hj
                have e0 : j - (List.take (lowM M (mng B x.1 x.2.1 i)) M).length = (j - 1 - lowM M (mng B x.1 x.2.1 i)) + 1 := by simp; omega
                rw [e0, List.getElem?_cons_succ, List.getElem?_drop] at hj
                have e1 : lowM M (mng B x.1 x.2.1 i) + (j - 1 - lowM M (mng B x.1 x.2.1 i)) = j - 1 := by omega
                rw [e1] at hj
                have hjl := (List.getElem?_eq_some_iff.mp hj).1
                rw [if_pos (by omega)]
                obtain ⟨u, q1, q2⟩ := j2 (j - 1) m hj
                exact ⟨u, q1, q2.pf P2⟩
          have hso := insM_so (m := mng B x.1 x.2.1 i) M hs
          have rest : Ex (prog nb sa) k_MO_lay 6 [some (.ref m0), some (.ref f), some (.ref J), some (.int a3), some (.int (nI (M.length + 1))), some (.int (nI (i + 1))), some (.ref h.1), some (.int (nI (lowM M (mng B x.1 x.2.1 i)))), some (.int (nI k'))] [] (hset h2 J (.inl (10, 152, .inr (.inr (.inr (.inr (va_up g' (lowM M (mng B x.1 x.2.1 i)) (some h.1)))))))) (fun v h' => LyR mu h' J (if 150 ≤ M.length then none else addS B x.1 x.2.1 d (i + 1) (insM M (mng B x.1 x.2.1 i))) v ∧ FJ J h h' (d + 1) (5 * (d + 1)) ∧ ∃ g, h'.2.2 J = some (true, .inl (10, 152, .inr (.inr (.inr (.inr g)))))) := by
            have FF := FJ1.tr F2
            by_cases h150 : 150 ≤ M.length
            · rw [if_pos h150]
              have e150 : M.length = 150 := by omega
              rw [e150]
              obtain ⟨b', t1', t2', t3', t7', t8', ow', c1', -⟩ := (hF1.pf P2).ow
              have res : LyR mu (hset h2 J (.inl (10, 152, .inr (.inr (.inr (.inr (va_up g' (lowM M (mng B x.1 x.2.1 i)) (some h.1)))))))) J none (some (.int (nI (150 + 1)))) ∧ FJ J h (hset h2 J (.inl (10, 152, .inr (.inr (.inr (.inr (va_up g' (lowM M (mng B x.1 x.2.1 i)) (some h.1)))))))) (d + 1) (5 * (d + 1)) ∧ ∃ g, (hset h2 J (.inl (10, 152, .inr (.inr (.inr (.inr (va_up g' (lowM M (mng B x.1 x.2.1 i)) (some h.1)))))))).2.2 J = some (true, .inl (10, 152, .inr (.inr (.inr (.inr g))))) := ⟨rfl, FF.mono (by omega) (by omega), _, hs_at⟩
              by_cases hx : x.2.1 ≤ i + 1
              · refine Ex_mv rfl rfl ?_; refine Ex_mv rfl rfl ?_; refine Ex_getf rfl c1' rfl ?_; refine Ex_mv rfl rfl ?_; refine Ex_ift (nI_le (by omega) (by omega)) ?_; refine Ex_mv rfl rfl ?_
                refine Ex_rt rfl rfl ?_
                exact res
              · refine Ex_mv rfl rfl ?_; refine Ex_mv rfl rfl ?_; refine Ex_getf rfl c1' rfl ?_; refine Ex_mv rfl rfl ?_; refine Ex_iff (nI_ge (by omega) (by omega)) ?_; refine Ex_mv rfl rfl ?_; refine Ex_mv rfl rfl ?_; refine Ex_mv rfl rfl ?_; refine Ex_ift (nI_lt (by omega) (by omega)) ?_; refine Ex_mv rfl rfl ?_
                refine Ex_rt rfl rfl ?_
                exact res
            · rw [if_neg h150]
              rw [← hlen]
              have ih := MO_lay_loop (a3 := a3) hG hJ d (i + 1) (insM M (mng B x.1 x.2.1 i)) _ (some (.ref h.1)) (some (.int (nI (lowM M (mng B x.1 x.2.1 i))))) (some (.int (nI k'))) (by omega) (by omega) (by omega) hA2 hso (by rw [hlen]; omega) (hF1.pf P2) (hnb1.pf P2) (fun q hq => by have := hmu1 q hq; show q < h2.1; omega) ((if_neg hmJ).trans ((z5 m0 hmJ).trans hc1)) hmJ (by show m0 < h2.1; omega)
              exact Ex_mono ih (fun v h' z => ⟨z.1, (FF.tr z.2.1).mono (by omega) (by omega), z.2.2⟩)
          refine Ex_mv rfl rfl ?_; refine Ex_mv rfl rfl ?_; refine Ex_mv rfl rfl ?_; refine Ex_aast rfl z1 uc2 rfl (vp_in_nI (by omega) (by decide)) ?_
          rw [ep]
          refine Ex_incN rfl rfl ?_; refine Ex_incN rfl rfl ?_; refine Ex_mv rfl rfl ?_
          exact rest
        have ng := fd_neg (lowM M (mng B x.1 x.2.1 i)) (by omega)
        have nv := fd_inv (lowM M (mng B x.1 x.2.1 i)) (by omega)
        have po := post 0
        refine Ex_mv rfl rfl ?_; refine Ex_mv rfl rfl ?_; refine Ex_getf rfl c1 rfl ?_; refine Ex_mv rfl rfl ?_; refine Ex_iff (nI_ge (by omega) (by omega)) ?_; refine Ex_mv rfl rfl ?_; refine Ex_mv rfl rfl ?_; refine Ex_mv rfl rfl ?_; refine Ex_iff (nI_nlt (by omega) (by omega)) ?_; refine Ex_mv rfl rfl ?_; refine Ex_getf rfl c1 rfl ?_; refine Ex_mv rfl rfl ?_; refine Ex_iald rfl c2 (vp_in_nI (by omega) (by decide)) ?_
        rw [eg]
        refine Ex_mv rfl rfl ?_; refine Ex_iff n0 ?_; refine Ex_mv rfl rfl ?_; refine Ex_mv rfl rfl ?_; refine Ex_mv rfl rfl ?_; refine Ex_invV rfl (by rfl) (by rfl) hc (by rfl) (e1) ?_; refine Ex_mv rfl rfl ?_; refine Ex_mv rfl rfl ?_; refine Ex_mv rfl rfl ?_; refine Ex_mv rfl rfl ?_; refine Ex_inv rfl (by rfl) (by rfl) (by rfl) (fd) ?_; refine Ex_mv rfl rfl ?_; refine Ex_mv rfl rfl ?_; refine Ex_mv rfl rfl ?_; refine Ex_iff (fun z => absurd (Int32.lt_of_lt_of_le ng z) Int32.lt_irrefl) ?_; refine Ex_mv rfl rfl ?_; refine Ex_mv rfl rfl ?_; refine Ex_mv rfl rfl ?_
        refine Ex_mv rfl rfl ?_
        simp only
        rw [nv]
        refine Ex_mv rfl rfl ?_; refine Ex_mv rfl rfl ?_; refine Ex_mv rfl rfl ?_
        exact po
end REFS
