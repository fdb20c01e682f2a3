/-! the other side: write, the whole -/
theorem wB_parts {z : Fl} (hG : GG z.1 z.2) (hB : ∀ y ∈ z.1, y < 256) : wB z = sl z.1 0 8 ++ (tw2 (hpM (wMs z) (wMs z).length) ++ (((wMs z).map (eOM (wMs z))).flatten ++ (tw2 (b2 z.1 z.2.2.2.1) ++ (tw2 (mvP (wMs z) z.1 z.2.1 z.2.2.1 (b2 z.1 (z.2.2.2.1 + 2))) ++ (tw2 (mvP (wMs z) z.1 z.2.1 z.2.2.1 (b2 z.1 (z.2.2.2.1 + 4))) ++ (tw2 (b2 z.1 (z.2.2.2.1 + 6)) ++ (outT (mvP (wMs z) z.1 z.2.1 z.2.2.1) (sFac z.1 (b2 z.1 (z.2.2.2.1 + 6)) (z.2.2.2.1 + 8)) ++ (tw2 (b2 z.1 (fP z.1 z.2.2.2.1)) ++ (outT (mvP (wMs z) z.1 z.2.1 z.2.2.1) (sMem z.1 (b2 z.1 (fP z.1 z.2.2.2.1)) (fP z.1 z.2.2.2.1 + 2)) ++ (tw2 (b2 z.1 (mP z.1 z.2.2.2.1)) ++ (outT (mvP (wMs z) z.1 z.2.1 z.2.2.1) (sMem z.1 (b2 z.1 (mP z.1 z.2.2.2.1)) (mP z.1 z.2.2.2.1 + 2)) ++ (tw2 (b2 z.1 (aP z.1 z.2.2.2.1)) ++ outT (mvP (wMs z) z.1 z.2.1 z.2.2.1) (sAtt z.1 (b2 z.1 (aP z.1 z.2.2.2.1)) (aP z.1 z.2.2.2.1 + 2)))))))))))))) := by
  obtain ⟨g1, g2, g3, g4, gg5, gg6, gg7, gg8, gg9, gg10, gg11, gg12, gg13, gg14, gg15, gg16, gg17, gg18, gg19⟩ := id hG.1
  have e2 : ∀ p R, p + 2 ≤ z.1.length → outT (mvP (wMs z) z.1 z.2.1 z.2.2.1) (tB2 z.1 p ++ R) = tw2 (b2 z.1 p) ++ outT (mvP (wMs z) z.1 z.2.1 z.2.2.1) R := fun p R hp => by
    rw [outT_app]
    unfold tB2
    rw [outT_inl, sl2_tw hB hp]
  have e4 : ∀ R, outT (mvP (wMs z) z.1 z.2.1 z.2.2.1) ((if b2 z.1 (z.2.2.2.1 + 4) = 0 then tB2 z.1 (z.2.2.2.1 + 4) else [.inr (b2 z.1 (z.2.2.2.1 + 4))]) ++ R) = tw2 (mvP (wMs z) z.1 z.2.1 z.2.2.1 (b2 z.1 (z.2.2.2.1 + 4))) ++ outT (mvP (wMs z) z.1 z.2.1 z.2.2.1) R := fun R => by
    by_cases h0 : b2 z.1 (z.2.2.2.1 + 4) = 0
    · rw [if_pos h0, e2 _ _ (by omega), h0]
      have t0 : tg z.1 z.2.1 z.2.2.1 0 = 0 := by
        have hh : z.2.1 0 = 0 := hG.1.1.1
        have e : st z.2.1 z.2.2.1 0 = 0 := by unfold st; split <;> first | exact hh | rfl
        unfold tg; rw [if_pos e]
      have : mvP (wMs z) z.1 z.2.1 z.2.2.1 0 = 0 := if_pos t0
      rw [this]
    · rw [if_neg h0, List.singleton_append, outT]
  unfold wB sTok
  rw [e2 _ _ (by omega), outT, e4, e2 _ _ (by omega), outT_app, e2 _ _ (by omega), outT_app, e2 _ _ (by omega), outT_app, e2 _ _ (by omega)]
section REFZB
variable {nb sa : Nat} {m0 f : Nat} {s : Sg} {c : Nat} {z : Fl}
theorem c_MO_inOrder {h : Hp} (hS : MOs h m0 nb sa s 0) (hF : HF (muM m0) h f z) (hG : GG z.1 z.2) : EvQ (prog nb sa) m_MO_inOrder [.ref m0, .ref f] h (fun v h' => v = some (.int (shw (wB z)).1) ∧ MOs h' m0 nb sa (s.1, (shw (wB z)).2, s.2.2) 0 ∧ FX m0 h h' 700 4500) := by
  have h7 := hS.h7
  obtain ⟨O, J, nw, a', fl, ms, od, oc, hc, hR⟩ := hS
  obtain ⟨hF', _, _, _, ⟨gm5, hm5⟩, ⟨gm6, hm6⟩, _, hnb, _⟩ := id hR
  have hFz : HF (muM m0) h f (z.1, z.2) := hF
  have hlt := hFz.lt.1
  have hl4 := hFz.lt.2
  have hn61 : z.2.2.1 ≤ 61 := hG.1.2.2.1
  obtain ⟨w1, w2, w3, w4⟩ := wMs_ok hG
  obtain ⟨g1, g2, g3, g4, gg5, gg6, gg7, gg8, gg9, gg10, gg11, gg12, gg13, gg14, gg15, gg16, gg17, gg18, gg19⟩ := id hG.1
  obtain ⟨gb1, gb2⟩ := hG.bh_le
  have hlen := wB_len hG hlt
  have hparts := wB_parts hG hlt
  have hEnO : ∀ m ∈ wMs z, EnO (wMs z) m := fun m hm => by
    obtain ⟨j, j1, j2⟩ := w4 m hm
    rw [j2]; exact EnO_of hG w3 j1
  refine EvQ_of k_MO_inOrder 7 [some (.ref m0), some (.ref f), none, none, none, none, none] rfl (Nat.le_of_ble_eq_true rfl) rfl ?_
  refine Ex_mv rfl rfl ?_; refine Ex_mv rfl rfl ?_; refine Ex_newq rfl (vin (by decide)) ?_
  refine Ex_putf rfl (hn_ne (show m0 ≠ h.1 by omega) hc) rfl rfl ?_
  generalize hg : hset (hnew h _ _) m0 _ = h2
  have s1 : h2.1 = h.1 + 1 := by rw [← hg]; rfl
  have s2 : h2.2.1 = h.2.1 + 152 := by rw [← hg]; rfl
  have s3 : ∀ q, q < h.1 → q ≠ m0 → h2.2.2 q = h.2.2 q := fun q hq q2 => by rw [← hg]; exact (if_neg q2).trans (if_neg (by omega))
  have s4 : h2.2.2 h.1 = some (true, .inl (10, 152, .inr (.inr (.inr (.inr (fun _ => none)))))) := by rw [← hg]; exact hs_ne (by omega) hn_at
  have s5 : h2.2.2 m0 = some (true, .inr (11, MOl m0 0 s O J nw a' fl ms (.ref h.1) oc)) := by rw [← hg]; exact hs_at
  clear hg
  have mo1 : ∀ t, okA (muM m0) h t → okA (muJ m0 h.1) h t := fun t ht => ⟨ht.1, fun z => z.elim ht.2 (fun e => by have := ht.1; omega)⟩
  have PJ : PF (muJ m0 h.1) h h2 := ⟨by omega, by omega, fun q hq => s3 q hq.1 (fun e => hq.2 (Or.inl (Or.inl e)))⟩
  obtain ⟨v, h3, e3, L3, F3, g3', J3⟩ := c_MO_lay (nb := nb) (sa := sa) (m0 := m0) (f := f) (J := h.1) (mu := muJ m0 h.1) (M := []) hG (Or.inr rfl) ⟨_, s4, fun j m hj => by simp at hj⟩ trivial (by decide) ((hFz.mono mo1).pf PJ) ((hnb.mono mo1).pf PJ) (fun q hq => by
    rcases hq with q1 | q1
    · simp only [muM] at q1; omega
    · omega) s5 (by omega) (by omega)
  rw [w1] at L3
  obtain ⟨rfl, l2, l3, l4⟩ := L3
  generalize hM : wMs z = M at *
  have o3 : ∀ q, q < h.1 → q ≠ m0 → h3.2.2 q = h.2.2 q := fun q q1 q2 => (F3.2.2.2.2 q (by omega) (by omega)).trans (s3 q q1 q2)
  have hc3 : h3.2.2 m0 = _ := (F3.2.2.2.2 m0 (by omega) (by omega)).trans s5
  refine Ex_mv rfl rfl ?_; refine Ex_mv rfl rfl ?_; refine Ex_mv rfl rfl ?_; refine Ex_mv rfl rfl ?_; refine Ex_getf rfl s5 rfl ?_; refine Ex_mv rfl rfl ?_
  refine Ex_invV rfl (by rfl) (by rfl) s5 (by rfl) e3 ?_
  refine Ex_putf rfl hc3 rfl rfl ?_
  generalize hg : hset h3 m0 _ = h4
  have t1 : h4.1 = h3.1 := by rw [← hg]; rfl
  have t2 : h4.2.1 = h3.2.1 := by rw [← hg]; rfl
  have t3 : ∀ q, q ≠ m0 → h4.2.2 q = h3.2.2 q := fun q q2 => by rw [← hg]; exact if_neg q2
  have t5 : h4.2.2 m0 = some (true, .inr (11, MOl m0 0 s O J nw a' fl ms (.ref h.1) (nI M.length))) := by rw [← hg]; exact hs_at
  clear hg
  have okJ3 : okA (muM m0) h3 h.1 := ⟨by have := F3.1; omega, fun z => by simp only [muM] at z; omega⟩
  have P34 : PF (muM m0) h3 h4 := ⟨by omega, by omega, fun q hq => t3 q (fun e => hq.2 (Or.inl e))⟩
  have A4 : AR (muM m0) h4 h.1 152 M := by
    obtain ⟨gJ, q1, q2⟩ := l4
    refine ⟨gJ, (t3 h.1 (by omega)).trans q1, fun j m hm => ?_⟩
    obtain ⟨u, u1, u2⟩ := q2 j m hm
    exact ⟨u, u1, (u2.mono (fun t ht => ⟨ht.1, fun z => ht.2 (Or.inl z)⟩)).pf P34⟩
  have Q4 : FQ m0 h h4 61 452 := ⟨by have := F3.1; omega, by have := F3.2.1; omega, by have := F3.2.2.1; omega, by have := F3.2.2.2.1; omega, fun q q1 q2 _ _ => (t3 q q2).trans (o3 q q1 q2)⟩
  have hm64 : h4.2.2 (m0 + 6) = _ := (t3 _ (by omega)).trans ((o3 _ (by omega) (by omega)).trans hm6)
  have hm54 : h4.2.2 (m0 + 5) = _ := (t3 _ (by omega)).trans ((o3 _ (by omega) (by omega)).trans hm5)
  refine Ex_mv rfl rfl ?_; refine Ex_mv rfl rfl ?_; refine Ex_mv rfl rfl ?_; refine Ex_mv rfl rfl ?_
  have hp0 : hpM M 0 = 1 := by cases M <;> rfl
  have np := MO_inOrder_np (nb := nb) (sa := sa) (m0 := m0) (f := f) (Jo := h.1) (M := M) (JL := 152) (cl := MOl m0 0 s O J nw a' fl ms (.ref h.1) (nI M.length)) (x4 := none) (x5 := none) (x6 := none) rfl rfl rfl l3 (R := fun v h' => v = some (.int (shw (wB z)).1) ∧ MOs h' m0 nb sa (s.1, (shw (wB z)).2, s.2.2) 0 ∧ FX m0 h h' 700 4500) M.length 0 h4 gm6 (Nat.zero_add _) t5 A4 (by omega) (Nat.le_refl _) (okJ3.pf P34) hm64 (fun j hj => by omega)
  rw [hp0] at np
  refine np ?_
  intro h5 g5 k5 y1 y2 y3 y4 y5
  have hc5 : h5.2.2 m0 = _ := (y5 m0 (by omega)).trans t5
  refine Ex_mv rfl rfl ?_; refine Ex_mv rfl rfl ?_; refine Ex_putf rfl hc5 rfl rfl ?_
  generalize hg : hset h5 m0 _ = h6
  have v1 : h6.1 = h4.1 := by rw [← hg]; exact y3
  have v2 : h6.2.1 = h4.2.1 := by rw [← hg]; exact y4
  have v3 : ∀ q, q ≠ m0 → q ≠ m0 + 6 → h6.2.2 q = h4.2.2 q := fun q q1 q2 => by rw [← hg]; exact (if_neg q1).trans (y5 q q2)
  have v4 : h6.2.2 (m0 + 6) = some (true, .inl (1, 152, .inl g5)) := by rw [← hg]; exact hs_ne (by omega) y1
  have v5 : h6.2.2 m0 = some (true, .inr (11, MOl m0 0 s O J nw a' fl (nI ([] : List Nat).length) (.ref h.1) (nI M.length))) := by rw [← hg]; exact hs_at
  clear hg
  have Q6 : FQ m0 h h6 61 452 := Q4.tr ⟨by omega, by omega, by omega, by omega, fun q _ q2 _ q4 => v3 q q2 q4⟩ (c' := 0) (s' := 0)
  have P46 : PF (muM m0) h4 h6 := ⟨by omega, by omega, fun q hq => v3 q (fun e => hq.2 (by simp [muM, e])) (fun e => hq.2 (by simp [muM, e]))⟩
  have W6 : WS h6 m0 s O J nw a' fl h.1 M.length [] := ⟨v5, ⟨gm5, (v3 _ (by omega) (by omega)).trans hm54, fun j hj => absurd hj (Nat.not_lt_zero _)⟩, ⟨Nat.zero_le _, fun y hy => by cases hy⟩, by have := F3.1; omega⟩
  have ML6 : MLs (muM m0) h6 h.1 M := by
    obtain ⟨gJ, q1, q2⟩ := A4.eq P46 (v3 _ (by omega) (by omega))
    exact ⟨152, gJ, q1, (okJ3.pf P34).pf P46, by omega, Nat.le_refl _, q2⟩
  have E6 : OE h6 m0 nb f z.1 z.2 h.1 M := ⟨hFz.pf Q6.pf, hnb.pf Q6.pf, ML6, ⟨g5, v4, y2⟩, by have := F3.1; omega⟩
  rw [hparts] at hlen
  simp only [List.length_append, tw2_len] at hlen
  rw [sl_len (by omega)] at hlen
  -- the head
  obtain ⟨bb, hb, hbk⟩ := E6.1.hb
  obtain ⟨⟨r, hf⟩, hA⟩ := id hb
  obtain ⟨_, h7', e7, rfl, W7, F7⟩ := c_MO_addBytes (nb := nb) (sa := sa) W6 ⟨hA, hbk⟩ (p := 0) (k := 8) (by omega) (by simp)
  have hpl := hpM_le M M.length
  obtain ⟨_, h8, e8, rfl, W8, F8⟩ := c_MO_addTwo (nb := nb) (sa := sa) W7 (by simp only [List.length_append, List.length_nil]; rw [sl_len (by omega)]; omega) (v := hpM M M.length) (by omega)
  have hc6 := W6.1
  have hc7 := W7.1
  have F68 := F7.tr F8
  have E8 := E6.fw F68
  refine Ex_mv rfl rfl ?_; refine Ex_mv rfl rfl ?_; refine Ex_getf rfl hf rfl ?_; refine Ex_mv rfl rfl ?_; refine Ex_mv rfl rfl ?_; refine Ex_invV rfl (by rfl) (by rfl) hc6 (by rfl) e7 ?_
  refine Ex_mv rfl rfl ?_; refine Ex_mv rfl rfl ?_; refine Ex_invV rfl (by rfl) (by rfl) hc7 (by rfl) e8 ?_
  refine Ex_mv rfl rfl ?_; refine Ex_mv rfl rfl ?_
  have L8 : ([] ++ sl z.1 0 8 ++ tw2 (hpM M M.length)).length = 10 := by simp only [List.length_append, List.length_nil, tw2_len]; rw [sl_len (by omega)]
  refine MO_inOrder_ent (nb := nb) (sa := sa) w2 l3 hEnO M.length 0 h8 _ (Nat.zero_add _) W8 E8 (by rw [List.drop_zero, L8]; omega) ?_
  intro h9 k9 W9 F9
  rw [List.drop_zero] at W9
  generalize hX9 : [] ++ sl z.1 0 8 ++ tw2 (hpM M M.length) ++ (M.map (eOM M)).flatten = X9 at W9
  have L9 : X9.length = 10 + (M.map (eOM M)).flatten.length := by rw [← hX9, List.length_append, L8]
  have F69 := F68.tr F9
  have E9 := E6.fw F69
  obtain ⟨b, p1, p2, p3, p7, p8, ow, o1, -⟩ := E9.1.ow
  obtain ⟨bb9, hb9, -⟩ := E9.1.hb
  have twb := c_MH_two (nb := nb) (sa := sa) hb9 (p := z.2.2.2.1) (by omega)
  have lb := b2_lt hlt z.2.2.2.1
  have lb2 := b2_lt hlt (z.2.2.2.1 + 2)
  have lb4 := b2_lt hlt (z.2.2.2.1 + 4)
  obtain ⟨_, h10, e10, rfl, W10, F10⟩ := c_MO_addTwo (nb := nb) (sa := sa) W9 (by omega) (v := b2 z.1 z.2.2.2.1) lb
  have F6a := F69.tr F10
  have E10 := E6.fw F6a
  obtain ⟨bba, hba, -⟩ := E10.1.hb
  obtain ⟨⟨ra, hfa⟩, -⟩ := id hba
  have twc := c_MH_two (nb := nb) (sa := sa) hba (p := z.2.2.2.1 + 2) (by omega)
  have cls2 : tg z.1 z.2.1 z.2.2.1 (b2 z.1 (z.2.2.2.1 + 2)) ≠ 0 := by
    rcases hG.1.cls (k := 0) (by omega) with ⟨q1, -⟩ | q
    · omega
    · have e : tg z.1 z.2.1 z.2.2.1 (b2 z.1 (z.2.2.2.1 + 2)) = 7 := (wrg0 (hG.2.1 _ q)).2.1
      omega
  have cls4 : b2 z.1 (z.2.2.2.1 + 4) = 0 ∨ tg z.1 z.2.1 z.2.2.1 (b2 z.1 (z.2.2.2.1 + 4)) ≠ 0 ∧ mng z.1 z.2.1 z.2.2.1 (b2 z.1 (z.2.2.2.1 + 4)) ∈ M := by
    rcases hG.1.cls (k := 1) (by omega) with ⟨-, q1⟩ | q
    · exact Or.inl q1
    · have e : tg z.1 z.2.1 z.2.2.1 (b2 z.1 (z.2.2.2.1 + 4)) = 7 := (wrg0 (hG.2.1 _ q)).2.1
      exact Or.inr ⟨by omega, w3 _ (by omega)⟩
  obtain ⟨_, h11, e11, rfl, G11⟩ := c_MO_moved (nb := nb) (sa := sa) W10 E10 hG w2 (i := b2 z.1 (z.2.2.2.1 + 2)) (by omega) (Or.inr ⟨cls2, w3 _ cls2⟩)
  have W11 := W10.gr G11
  obtain ⟨_, h12, e12, rfl, W12, F12⟩ := c_MO_addTwo (nb := nb) (sa := sa) W11 (by simp only [List.length_append, tw2_len]; omega) (mvP_lt (B := z.1) (x := z.2) l3 (i := b2 z.1 (z.2.2.2.1 + 2)))
  have F6c := (F6a.tr G11.fw).tr F12
  have E12 := E6.fw F6c
  obtain ⟨bbc, hbc, -⟩ := E12.1.hb
  obtain ⟨⟨rc, hfc⟩, -⟩ := id hbc
  have twd := c_MH_two (nb := nb) (sa := sa) hbc (p := z.2.2.2.1 + 4) (by omega)
  obtain ⟨_, h13, e13, rfl, G13⟩ := c_MO_moved (nb := nb) (sa := sa) W12 E12 hG w2 (i := b2 z.1 (z.2.2.2.1 + 4)) (by omega) cls4
  have W13 := W12.gr G13
  obtain ⟨_, h14, e14, rfl, W14, F14⟩ := c_MO_addTwo (nb := nb) (sa := sa) W13 (by simp only [List.length_append, tw2_len]; omega) (mvP_lt (B := z.1) (x := z.2) l3 (i := b2 z.1 (z.2.2.2.1 + 4)))
  have F6e := (F6c.tr G13.fw).tr F14
  have E14 := E6.fw F6e
  obtain ⟨be, p1e, p2e, p3e, p7e, p8e, owe, o1e, -⟩ := E14.1.ow
  obtain ⟨_, h15, e15, rfl, W15, F15⟩ := c_MO_addTwo (nb := nb) (sa := sa) W14 (by simp only [List.length_append, tw2_len]; omega) (v := b2 z.1 (z.2.2.2.1 + 6)) (by omega)
  have F6f := F6e.tr F15
  have E15 := E6.fw F6f
  have hc9 := W9.1
  have hc10 := W10.1
  have hc11 := W11.1
  have hc12 := W12.1
  have hc13 := W13.1
  have hc14 := W14.1
  have heads : ∀ R : Option Value → Hp → Prop, Ex (prog nb sa) k_MO_inOrder 188 [some (.ref m0), some (.ref f), some (.int (nI (hpM M M.length))), some (.int (nI z.2.2.2.1)), some (.int (nI 0)), none, none] [] h15 R → Ex (prog nb sa) k_MO_inOrder 131 [some (.ref m0), some (.ref f), some (.int (nI (hpM M M.length))), some (.int (nI k9)), none, none, none] [] h9 R := by
    intro R K
    refine Ex_mv rfl rfl ?_; refine Ex_getf rfl o1 rfl ?_; refine Ex_mv rfl rfl ?_; refine Ex_mv rfl rfl ?_; refine Ex_mv rfl rfl ?_; refine Ex_mv rfl rfl ?_; refine Ex_invV rfl (by rfl) (by rfl) o1 (by rfl) (twb) ?_; refine Ex_invV rfl (by rfl) (by rfl) hc9 (by rfl) (e10) ?_; refine Ex_mv rfl rfl ?_; refine Ex_mv rfl rfl ?_; refine Ex_mv rfl rfl ?_; refine Ex_mv rfl rfl ?_; refine Ex_mv rfl rfl ?_; refine Ex_mv rfl rfl ?_; (first | refine Ex_addN rfl ?_ | refine Ex_mv rfl rfl ?_); refine Ex_invV rfl (by rfl) (by rfl) hfa (by rfl) (twc) ?_; refine Ex_invV rfl (by rfl) (by rfl) hc10 (by rfl) (e11) ?_; refine Ex_invV rfl (by rfl) (by rfl) hc11 (by rfl) (e12) ?_; refine Ex_mv rfl rfl ?_; refine Ex_mv rfl rfl ?_; refine Ex_mv rfl rfl ?_; refine Ex_mv rfl rfl ?_; refine Ex_mv rfl rfl ?_; refine Ex_mv rfl rfl ?_; (first | refine Ex_addN rfl ?_ | refine Ex_mv rfl rfl ?_); refine Ex_invV rfl (by rfl) (by rfl) hfc (by rfl) (twd) ?_; refine Ex_invV rfl (by rfl) (by rfl) hc12 (by rfl) (e13) ?_; refine Ex_invV rfl (by rfl) (by rfl) hc13 (by rfl) (e14) ?_; refine Ex_mv rfl rfl ?_; refine Ex_mv rfl rfl ?_; refine Ex_getf rfl o1e rfl ?_; refine Ex_invV rfl (by rfl) (by rfl) hc14 (by rfl) (e15) ?_; refine Ex_mv rfl rfl ?_; refine Ex_mv rfl rfl ?_
    exact K
  refine heads _ ?_
  generalize hX15 : X9 ++ tw2 (b2 z.1 z.2.2.2.1) ++ tw2 (mvP M z.1 z.2.1 z.2.2.1 (b2 z.1 (z.2.2.2.1 + 2))) ++ tw2 (mvP M z.1 z.2.1 z.2.2.1 (b2 z.1 (z.2.2.2.1 + 4))) ++ tw2 (b2 z.1 (z.2.2.2.1 + 6)) = X15 at W15
  have L15 : X15.length = 18 + (M.map (eOM M)).flatten.length := by rw [← hX15]; simp only [List.length_append, tw2_len]; omega
  refine MO_inOrder_fac (nb := nb) (sa := sa) hG w2 l3 w3 (b2 z.1 (z.2.2.2.1 + 6)) 0 h15 _ (Nat.zero_add _) W15 E15 (by rw [show z.2.2.2.1 + 8 + 2 * 0 = z.2.2.2.1 + 8 from rfl]; omega) ?_
  intro h16 k16 W16 F16
  rw [show z.2.2.2.1 + 8 + 2 * 0 = z.2.2.2.1 + 8 from rfl] at W16
  have F6g := F6f.tr F16
  have E16 := E6.fw F6g
  have kd0 : mK z.2.2.2.2.2.1 z.2.2.2.2.2.2.1 0 = memL z.1 (b2 z.1 (fP z.1 z.2.2.2.1)) (fP z.1 z.2.2.2.1 + 2) := gg17
  have kd1 : mK z.2.2.2.2.2.1 z.2.2.2.2.2.2.1 1 = memL z.1 (b2 z.1 (mP z.1 z.2.2.2.1)) (mP z.1 z.2.2.2.1 + 2) := gg18
  -- a kind's count
  have kcount : ∀ (kk : Nat) (hk : Hp) (X : List Nat) (x5 x6 : Option Value) (cnt : Nat) (R : Option Value → Hp → Prop), kk < 2 → (mK z.2.2.2.2.2.1 z.2.2.2.2.2.2.1 kk).length = cnt → cnt ≤ 12 → WS hk m0 s O J nw a' fl h.1 M.length X → OE hk m0 nb f z.1 z.2 h.1 M → X.length + 2 ≤ 408 → (∀ hk', WS hk' m0 s O J nw a' fl h.1 M.length (X ++ tw2 cnt) → FW m0 hk hk' 0 0 → Ex (prog nb sa) k_MO_inOrder 248 [some (.ref m0), some (.ref f), some (.int (nI (hpM M M.length))), some (.int (nI z.2.2.2.1)), some (.int (nI kk)), some (.int (nI 0)), x6] [] hk' R) → Ex (prog nb sa) k_MO_inOrder 228 [some (.ref m0), some (.ref f), some (.int (nI (hpM M M.length))), some (.int (nI z.2.2.2.1)), some (.int (nI kk)), x5, x6] [] hk R := by
    intro kk hk X x5 x6 cnt R hkk hcnt h12 hWk hEk hXk K
    obtain ⟨b', t1', t2', t3', t7', t8', ow', ak, gm, gc, c1, c2, c3, c4, c5, c6⟩ := hEk.1.kd hkk
    have e1 : gc (nI kk).toNatClampNeg = nI cnt := by rw [nI_clamp (by omega), c6, hcnt]
    obtain ⟨_, hk', ek, rfl, Wk, Fk⟩ := c_MO_addTwo (nb := nb) (sa := sa) hWk hXk (v := cnt) (by omega)
    have hck := hWk.1
    have K' := K hk' Wk Fk
    refine Ex_mv rfl rfl ?_; refine Ex_mv rfl rfl ?_; refine Ex_mv rfl rfl ?_; refine Ex_iff (nI_ge (by omega) (by omega)) ?_; refine Ex_mv rfl rfl ?_; refine Ex_mv rfl rfl ?_; refine Ex_getf rfl c1 rfl ?_; refine Ex_mv rfl rfl ?_; refine Ex_iald rfl c5 (vp_in_nI (by omega) (by decide)) ?_
    rw [e1]
    refine Ex_invV rfl (by rfl) (by rfl) hck (by rfl) (ek) ?_; refine Ex_mv rfl rfl ?_; refine Ex_mv rfl rfl ?_
    exact K'
  refine Ex_mv rfl rfl ?_; refine Ex_mv rfl rfl ?_
  refine kcount 0 h16 _ _ _ (b2 z.1 (fP z.1 z.2.2.2.1)) _ (by decide) (by rw [kd0, memL_len]) gg7 W16 E16 (by simp only [List.length_append]; omega) ?_
  intro h17 W17 F17
  have F6h := F6g.tr F17
  have E17 := E6.fw F6h
  refine MO_inOrder_mem (nb := nb) (sa := sa) (kk := 0) (by decide) hG w2 l3 w3 (b2 z.1 (fP z.1 z.2.2.2.1)) 0 (fP z.1 z.2.2.2.1 + 2) _ h17 _ (by rw [kd0, memL_len]; omega) (by rw [kd0]; rfl) W17 E17 (by simp only [List.length_append, tw2_len]; omega) ?_
  intro h18 k18 x6 W18 F18
  have F6i := F6h.tr F18
  have E18 := E6.fw F6i
  refine Ex_incN rfl rfl ?_; refine Ex_mv rfl rfl ?_
  refine kcount 1 h18 _ _ _ (b2 z.1 (mP z.1 z.2.2.2.1)) _ (by decide) (by rw [kd1, memL_len]) gg10 W18 E18 (by simp only [List.length_append, tw2_len]; omega) ?_
  intro h19 W19 F19
  have F6j := F6i.tr F19
  have E19 := E6.fw F6j
  refine MO_inOrder_mem (nb := nb) (sa := sa) (kk := 1) (by decide) hG w2 l3 w3 (b2 z.1 (mP z.1 z.2.2.2.1)) 0 (mP z.1 z.2.2.2.1 + 2) _ h19 _ (by rw [kd1, memL_len]; omega) (by rw [kd1]; rfl) W19 E19 (by simp only [List.length_append, tw2_len]; omega) ?_
  intro h20 k20 x6 W20 F20
  have F6k := F6j.tr F20
  have E20 := E6.fw F6k
  refine Ex_incN rfl rfl ?_; refine Ex_mv rfl rfl ?_
  refine Ex_mv rfl rfl ?_; refine Ex_mv rfl rfl ?_; refine Ex_mv rfl rfl ?_; refine Ex_ift (by decide) ?_
  obtain ⟨bk, p1k, p2k, p3k, p7k, p8k, owk, o1k, o2k⟩ := E20.1.ow
  rw [gg16] at o2k
  have ao : aO z.2.2.2.2.1 z.2.2.2.2.2.1 z.2.2.2.2.2.2.1 2 0 = some (aP z.1 z.2.2.2.1) := by rw [← gg16]; rfl
  obtain ⟨_, h21, e21, rfl, W21, F21⟩ := c_MO_addAttributes (nb := nb) (sa := sa) hG w2 l3 w3 gg14 gg13 (fun k hk => by have := (hG.attN ao hk).1; omega) W20 E20 o2k (by simp only [List.length_append, tw2_len]; omega)
  have F6l := F6k.tr F21
  have hc20 := W20.1
  have hXX : X15 ++ outT (mvP M z.1 z.2.1 z.2.2.1) (sFac z.1 (b2 z.1 (z.2.2.2.1 + 6)) (z.2.2.2.1 + 8)) ++ tw2 (b2 z.1 (fP z.1 z.2.2.2.1)) ++ outT (mvP M z.1 z.2.1 z.2.2.1) (sMem z.1 (b2 z.1 (fP z.1 z.2.2.2.1)) (fP z.1 z.2.2.2.1 + 2)) ++ tw2 (b2 z.1 (mP z.1 z.2.2.2.1)) ++ outT (mvP M z.1 z.2.1 z.2.2.1) (sMem z.1 (b2 z.1 (mP z.1 z.2.2.2.1)) (mP z.1 z.2.2.2.1 + 2)) ++ (tw2 (b2 z.1 (aP z.1 z.2.2.2.1)) ++ outT (mvP M z.1 z.2.1 z.2.2.1) (sAtt z.1 (b2 z.1 (aP z.1 z.2.2.2.1)) (aP z.1 z.2.2.2.1 + 2))) = wB z := by
    rw [hparts, ← hX15, ← hX9]
    simp only [List.append_assoc, List.nil_append]
  rw [hXX] at W21
  have hl400 := wB_len hG hlt
  obtain ⟨hc21, ⟨g21, q1, q2⟩, ⟨q3, q4⟩, q5⟩ := id W21
  obtain ⟨_, h22, e22, rfl, A22, r1, r2, r3⟩ := c_MO_part (nb := nb) (sa := sa) (h := h21) (t := m0 + 5) (k := 0) (n := (wB z).length) (X := wB z) q1 (by omega) rfl (fun j hj => by rw [Nat.zero_add]; exact q2 j hj) (by omega) (by omega) q4 (by omega)
  have Q21 : FQ m0 h h21 _ _ := Q6.tr F6l.fq
  have Q22 := Q21.tr (⟨by omega, by omega, by omega, by omega, fun q q1 _ _ _ => r3 q q1⟩ : FQ m0 h21 h22 1 400)
  have E21 := E6.fw F6l
  obtain ⟨_, _, _, ⟨g61, g62, -⟩, _⟩ := id E21
  have R22 : MOr h22 m0 nb sa s O J := hR.eq2 Q22 ⟨g21, (r3 _ (by omega)).trans q1⟩ ⟨g61, (r3 _ (by omega)).trans g62⟩
  have S22 : MOs h22 m0 nb sa s 0 := ⟨O, J, nw, a', fl, _, _, _, (r3 m0 (by omega)).trans hc21, R22⟩
  have hc22 : h22.2.2 m0 = _ := (r3 m0 (by omega)).trans hc21
  have bk22 : BAk (muM m0) h22 h21.1 (wB z) := ⟨A22, by omega, fun y => by simp only [muM] at y; omega⟩
  obtain ⟨_, h23, e23, rfl, S23, F23⟩ := c_MO_shows (nb := nb) (sa := sa) S22 bk22
  refine Ex_mv rfl rfl ?_; refine Ex_mv rfl rfl ?_; refine Ex_mv rfl rfl ?_; refine Ex_getf rfl o1k rfl ?_; refine Ex_invV rfl (by rfl) (by rfl) hc20 (by rfl) e21 ?_
  refine Ex_mv rfl rfl ?_; refine Ex_mv rfl rfl ?_; refine Ex_getf rfl hc21 rfl ?_; refine Ex_mv rfl rfl ?_; refine Ex_mv rfl rfl ?_; refine Ex_getf rfl hc21 rfl ?_
  refine Ex_inv rfl (by rfl) (by rfl) (by rfl) e22 ?_
  refine Ex_invV rfl (by rfl) (by rfl) hc22 (by rfl) e23 ?_
  refine Ex_rt rfl rfl ⟨rfl, S23, ⟨Q22.pf.tr F23.1.1, fun q q1 q2 => (F23.1.2 q (Nat.lt_of_lt_of_le q1 Q22.1) q2).trans (Q22.2.2.2.2 q q1 (by omega) (by omega) (by omega))⟩, ?_, ?_⟩
  · have := Q22.2.1
    have := F23.2.1
    omega
  · have := Q22.2.2.2.1
    have := F23.2.2
    omega
theorem c_MO_write {h : Hp} (hS : MOs h m0 nb sa s c) (hG : SgG s) (f w : Int32) : EvQ (prog nb sa) m_MO_write [.ref m0, .int f, .int w] h (fun v h' => v = some (.int (match fA s.2.2.1 f with | none => (-1, s.2.1) | some z => q_write z w s.2.1).1) ∧ MOs h' m0 nb sa (s.1, (match fA s.2.2.1 f with | none => (-1, s.2.1) | some z => q_write z w s.2.1).2, s.2.2) 0 ∧ FX m0 h h' 700 4500) := by
  obtain ⟨h1, e1, k2, k3⟩ := c_MO_isFile (nb := nb) hS hG.2.2.2.1 f
  obtain ⟨O0, J0, nw0, a0, fl0, ms0, od0, oc0, hc0⟩ := hS.cell
  have k3' : FX m0 h h1 700 4500 := k3.mono (by omega) (by omega)
  refine EvQ_of k_MO_write 3 [some (.ref m0), some (.int f), some (.int w)] rfl (Nat.le_of_ble_eq_true rfl) rfl ?_
  rcases okF_cases s.2.2.1 f with ⟨z1, z2⟩ | ⟨k, z, rfl, hk, hk2, z3, z1, z2⟩
  · rw [z1]
    rw [z2] at e1
    refine Ex_mv rfl rfl ?_; refine Ex_mv rfl rfl ?_; refine Ex_invV rfl (by rfl) (by rfl) (by assumption) (by rfl) (e1) ?_; refine Ex_mv rfl rfl ?_; refine Ex_iff (not_not_intro (show nI 0 = 0 from rfl)) ?_; refine Ex_mv rfl rfl ?_
    refine Ex_rt rfl rfl ?_
    exact ⟨rfl, k2, k3'⟩
  · rw [z1]
    rw [z2] at e1
    simp only
    obtain ⟨O, J, nw, a', fl, ms, od, oc, gF, f, hc, hF1, hF2, hF⟩ := k2.file z3 hk2
    have hl6 := hG.2.2.2.1
    have hGz := hG.1 z (List.mem_of_getElem? z3)
    unfold q_write
    by_cases w0 : w = 0
    · rw [if_pos w0]
      obtain ⟨bb, hb, hbk⟩ := HF.hb (B := z.1) (x := z.2) hF
      obtain ⟨⟨r, hf⟩, hA⟩ := id hb
      obtain ⟨_, h2, e2, rfl, S2, F2⟩ := c_MO_shows (nb := nb) (sa := sa) k2 ⟨hA, hbk⟩
      refine Ex_mv rfl rfl ?_; refine Ex_mv rfl rfl ?_; refine Ex_invV rfl (by rfl) (by rfl) (by assumption) (by rfl) (e1) ?_; refine Ex_mv rfl rfl ?_; refine Ex_ift (show ¬ nI 1 = 0 by decide) ?_; refine Ex_mv rfl rfl ?_; refine Ex_mv rfl rfl ?_; refine Ex_iff (not_not_intro w0) ?_; refine Ex_mv rfl rfl ?_; refine Ex_mv rfl rfl ?_; refine Ex_getf rfl hc rfl ?_; refine Ex_mv rfl rfl ?_; refine Ex_aald rfl hF1 rfl (vp_in_nI (by omega) (by decide)) hF2 ?_; refine Ex_getf rfl hf rfl ?_; refine Ex_invV rfl (by rfl) (by rfl) hc (by rfl) (e2) ?_; refine Ex_mv rfl rfl ?_
      refine Ex_rt rfl rfl ?_
      exact ⟨rfl, S2, (k3.tr F2).mono (by omega) (by omega)⟩
    · rw [if_neg w0]
      by_cases w1 : w = 1
      · rw [if_pos w1]
        obtain ⟨_, h2, e2, rfl, S2, F2⟩ := c_MO_inOrder (nb := nb) (sa := sa) k2 hF hGz
        refine Ex_mv rfl rfl ?_; refine Ex_mv rfl rfl ?_; refine Ex_invV rfl (by rfl) (by rfl) (by assumption) (by rfl) (e1) ?_; refine Ex_mv rfl rfl ?_; refine Ex_ift (show ¬ nI 1 = 0 by decide) ?_; refine Ex_mv rfl rfl ?_; refine Ex_mv rfl rfl ?_; refine Ex_ift w0 ?_; refine Ex_mv rfl rfl ?_; refine Ex_mv rfl rfl ?_; refine Ex_mv rfl rfl ?_; refine Ex_iff (not_not_intro w1) ?_; refine Ex_mv rfl rfl ?_; refine Ex_mv rfl rfl ?_; refine Ex_getf rfl hc rfl ?_; refine Ex_mv rfl rfl ?_; refine Ex_aald rfl hF1 rfl (vp_in_nI (by omega) (by decide)) hF2 ?_; refine Ex_invV rfl (by rfl) (by rfl) hc (by rfl) (e2) ?_; refine Ex_mv rfl rfl ?_
        refine Ex_rt rfl rfl ?_
        exact ⟨rfl, S2, (k3.tr F2).mono (by omega) (by omega)⟩
      · rw [if_neg w1]
        refine Ex_mv rfl rfl ?_; refine Ex_mv rfl rfl ?_; refine Ex_invV rfl (by rfl) (by rfl) (by assumption) (by rfl) (e1) ?_; refine Ex_mv rfl rfl ?_; refine Ex_ift (show ¬ nI 1 = 0 by decide) ?_; refine Ex_mv rfl rfl ?_; refine Ex_mv rfl rfl ?_; refine Ex_ift w0 ?_; refine Ex_mv rfl rfl ?_; refine Ex_mv rfl rfl ?_; refine Ex_mv rfl rfl ?_; refine Ex_ift w1 ?_; refine Ex_mv rfl rfl ?_
        refine Ex_rt rfl rfl ?_
        exact ⟨rfl, k2, k3'⟩
end REFZB
