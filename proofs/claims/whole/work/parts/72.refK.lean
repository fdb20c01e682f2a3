/-! the other side: read, the whole -/
section REFK
variable {nb sa : Nat} {m0 : Nat}
theorem RQ.rm {h : Hp} {m0 f : Nat} {s : Sg} {O J : Nat} {ms : Int32} {od : Value} {oc : Int32} {B : List Nat} {r : Rt} (hs : RQ h m0 f (fun i => (MOl m0 0 ([], s.2) O J (.ref f) 0 0 ms od oc).getD i .null) B r) : ∃ p k fp, h.2.2 m0 = some (true, .inr (11, MOl m0 0 ([], s.2.1, s.2.2.1, fp, s.2.2.2.2) O J (.ref f) (nI p) (nI k) ms od oc)) ∧ k ≤ 10 ∧ RqM r p k fp := by
  obtain ⟨p, k, fp, h1, h2, h3, h4⟩ := hs
  exact ⟨p, k, fp, h1, h3, h4⟩
/-- the end of read -/
theorem MO_read_end {h0 h : Hp} {f : Nat} {s : Sg} {O J : Nat} {ms : Int32} {od : Value} {oc : Int32} {r : Rt} {x1 : Nat} {x2 : Option Value} {n k : Nat} (hl : s.2.2.1.length < 6) (hs : RQ h m0 f (fun i => (MOl m0 0 ([], s.2) O J (.ref f) 0 0 ms od oc).getD i .null) s.1 r) (hR : MOr h m0 nb sa ([], s.2) O J) (hF : ∀ a' x, r = .inr (a', x) → HF (muM m0) h f (s.1, x)) (hfc : ∃ fs, h.2.2 f = some (true, .inr (8, fs))) (hfm : f ≠ m0 + 1) (F0 : FX m0 h0 h n k) (hr : p_read s.1 = r) : Ex (prog nb sa) k_MO_read 162 [some (.ref m0), some (.int (nI x1)), x2] [] h (fun v h' => v = some (.int (q_read s).1) ∧ MOs h' m0 nb sa (q_read s).2 0 ∧ FX m0 h0 h' n k) := by
  obtain ⟨p, kf, fp, hc, hkf, hm⟩ := hs.rm
  unfold q_read
  rw [if_neg (by omega), hr]
  cases r with
  | inl e =>
    obtain ⟨q1, q2, q3⟩ := hm
    obtain ⟨ef, ew⟩ := e
    have q1 : kf = ef := q1
    have q2 : fp = nI ew := q2
    subst q1
    subst q2
    refine Ex_mv rfl rfl ?_; refine Ex_getf rfl (by assumption) rfl ?_; refine Ex_mv rfl rfl ?_; refine Ex_iff (nI_ge (a := 0) (by omega) (by omega)) ?_; refine Ex_mv rfl rfl ?_; refine Ex_mv rfl rfl ?_; refine Ex_getf rfl (by assumption) rfl ?_; (first | refine Ex_subN rfl (by omega) ?_ | refine Ex_mv rfl rfl ?_)
    refine Ex_rt rfl rfl ?_
    exact ⟨rfl, ⟨O, J, _, _, _, ms, od, oc, hc, hR⟩, F0⟩
  | inr e =>
    obtain ⟨a', x⟩ := e
    obtain ⟨q1, q2, q3⟩ := hm
    subst q1
    subst q2
    obtain ⟨⟨gF, a1, a2⟩, b1, b2⟩ := id hR
    obtain ⟨fs, hfc⟩ := hfc
    have hF' := hF a' x rfl
    have hc1 : ∀ z, (hset h (m0 + 1) z).2.2 m0 = _ := fun z => hs_ne (by omega) hc
    have F1 : FX m0 h0 (hset h (m0 + 1) (.inl (7, 6, .inr (.inr (.inr (.inr (va_up gF s.2.2.1.length (some f)))))))) n k := F0.set (by simp [muN])
    have P1 : PF (muM m0) h (hset h (m0 + 1) (.inl (7, 6, .inr (.inr (.inr (.inr (va_up gF s.2.2.1.length (some f)))))))) := PF.rf.set (by simp [muM])
    have hR1 : MOr (hset h (m0 + 1) (.inl (7, 6, .inr (.inr (.inr (.inr (va_up gF s.2.2.1.length (some f)))))))) m0 nb sa ([], s.2.1, s.2.2.1 ++ [(s.1, x)], -1, s.2.2.2.2) O J := by
      obtain ⟨gT, t1, t2⟩ := b1
      obtain ⟨c', d, ⟨g5, e⟩, ⟨g6, f'⟩, g, i', j'⟩ := b2
      refine ⟨⟨_, hs_at, fun i z hz => ?_⟩, ⟨gT, hs_ne (by omega) t1, fun j hj => absurd hj (Nat.not_lt_zero _)⟩, c'.pf P1, d.pf P1, ⟨g5, hs_ne (by omega) e⟩, ⟨g6, hs_ne (by omega) f'⟩, g, i'.pf P1, j'.pf P1⟩
      have hz' : (s.2.2.1 ++ [(s.1, x)])[i]? = some z := hz
      by_cases ei : i < s.2.2.1.length
      · rw [List.getElem?_append_left ei] at hz'
        obtain ⟨f2, q1, q2⟩ := a2 i z hz'
        exact ⟨f2, by simp [va_up, show i ≠ s.2.2.1.length by omega, q1], q2.pf P1⟩
      · rw [List.getElem?_append_right (by omega)] at hz'
        have ei2 : i - s.2.2.1.length = 0 := by
          have := (List.getElem?_eq_some_iff.mp hz').1
          simpa using this
        have ei3 : i = s.2.2.1.length := by omega
        rw [ei2] at hz'
        simp only [List.getElem?_cons_zero, Option.some.injEq] at hz'
        subst hz'
        exact ⟨f, by simp [va_up, ei3], hF'.pf P1⟩
    have eu : (nI s.2.2.1.length).toNatClampNeg = s.2.2.1.length := nI_clamp (by omega)
    have el : MOl m0 0 ([], s.2.1, s.2.2.1 ++ [(s.1, x)], -1, s.2.2.2.2) O J (.ref f) (nI p) (nI 0) ms od oc = (MOl m0 0 ([], s.2.1, s.2.2.1, -1, s.2.2.2.2) O J (.ref f) (nI p) (nI 0) ms od oc).set 2 (.int (nI (s.2.2.1.length + 1))) := by simp [MOl]
    have hS' : MOs (hset (hset h (m0 + 1) (.inl (7, 6, .inr (.inr (.inr (.inr (va_up gF s.2.2.1.length (some f)))))))) m0 (.inr (11, MOl m0 0 ([], s.2.1, s.2.2.1 ++ [(s.1, x)], -1, s.2.2.2.2) O J (.ref f) (nI p) (nI 0) ms od oc))) m0 nb sa ([], s.2.1, s.2.2.1 ++ [(s.1, x)], -1, s.2.2.2.2) 0 := ⟨O, J, _, _, _, ms, od, oc, hs_at, hR1.m0⟩
    rw [el] at hS'
    refine Ex_mv rfl rfl ?_; refine Ex_getf rfl (by assumption) rfl ?_; refine Ex_mv rfl rfl ?_; refine Ex_ift (by decide) ?_; refine Ex_mv rfl rfl ?_; refine Ex_getf rfl (by assumption) rfl ?_; refine Ex_mv rfl rfl ?_; refine Ex_getf rfl (by assumption) rfl ?_; refine Ex_mv rfl rfl ?_; refine Ex_getf rfl (by assumption) rfl ?_; refine Ex_aast rfl a1 hfc rfl (vp_in_nI (by omega) (by decide)) ?_; refine Ex_mv rfl rfl ?_; refine Ex_mv rfl rfl ?_; refine Ex_getf rfl (hc1 _) rfl ?_; refine Ex_mv rfl rfl ?_; (first | refine Ex_addN rfl ?_ | refine Ex_mv rfl rfl ?_); refine Ex_putf rfl (hc1 _) rfl rfl ?_; refine Ex_mv rfl rfl ?_; refine Ex_getf rfl hs_at rfl ?_; refine Ex_mv rfl rfl ?_; (first | refine Ex_subN rfl (by omega) ?_ | refine Ex_mv rfl rfl ?_)
    refine Ex_rt rfl rfl ?_
    rw [eu]; exact ⟨by rw [Nat.add_sub_cancel], hS', F1.set (by simp [muN])⟩
theorem c_MO_read {h : Hp} {s : Sg} {c : Nat} (hS : MOs h m0 nb sa s c) (hl : s.2.2.1.length ≤ 6) (hT : s.1.length ≤ 400 ∧ ∀ x ∈ s.1, x < 256) : EvQ (prog nb sa) m_MO_read [.ref m0] h (fun v h' => v = some (.int (q_read s).1) ∧ MOs h' m0 nb sa (q_read s).2 0 ∧ FX m0 h h' 145 1273) := by
  obtain ⟨h1, k1, k2, k3⟩ := hS.code
  obtain ⟨O, J, nw, a', fl, ms, od, oc, hc, hR⟩ := hS
  have := k1 _ _ _ _ _ _ _ _ hc
  refine EvQ_of k_MO_read 3 [some (.ref m0), none, none] rfl (Nat.le_of_ble_eq_true rfl) rfl ?_
  refine Ex_mv rfl rfl ?_; refine Ex_mv rfl rfl ?_; refine Ex_putf rfl hc rfl rfl ?_
  have this' : hset h m0 (.inr (11, (MOl m0 c s O J nw a' fl ms od oc).set 0 (.int (nI 0)))) = h1 := this.symm
  rw [this']
  have hc1 : h1.2.2 m0 = some (true, .inr (11, MOl m0 0 s O J nw a' fl ms od oc)) := by rw [this]; exact hs_at
  have hR1 : MOr h1 m0 nb sa s O J := by rw [this]; exact hR.m0
  have hh1 : h1.1 = h.1 ∧ h1.2.1 = h.2.1 := by rw [this]; exact ⟨rfl, rfl⟩
  clear this this' k1
  by_cases h6 : s.2.2.1.length = 6
  · have eq : q_read s = (-3, s) := if_pos h6
    rw [eq]
    refine Ex_mv rfl rfl ?_; refine Ex_getf rfl (by assumption) rfl ?_; refine Ex_mv rfl rfl ?_; refine Ex_mv rfl rfl ?_; refine Ex_iff (by rw [h6]; exact not_not_intro rfl) ?_; refine Ex_mv rfl rfl ?_
    refine Ex_rt rfl rfl ?_
    exact ⟨rfl, k2, k3.mono (by omega) (by omega)⟩
  · have hm7 : m0 + 8 ≤ h1.1 := hR1.2.2.2.2.2.2.1
    obtain ⟨_, h2, e2, rfl, y1, y2, y3, y4, y5, y6, y7, ⟨gm, y8, y8', y8''⟩, y9, y10, y11⟩ := c_MH_init (nb := nb) (sa := sa) (h := hnew h1 10 (.inr (8, [.null, .int 0, .null, .null, .null, .int 0, .int 0, .null, .null, .null]))) (f := h1.1) hn_at rfl
    have y3' : ∀ q, q < h1.1 → h2.2.2 q = h1.2.2 q := fun q hq => (y3 q hq).trans (if_neg (by omega))
    have y2' : h2.2.1 = h.2.1 + 221 := by rw [y2]; show h1.2.1 + 10 + 211 = _; omega
    have hc2 : h2.2.2 m0 = _ := (y3' m0 (by omega)).trans hc1
    have hcn : (hnew h1 10 (.inr (8, [.null, .int 0, .null, .null, .null, .int 0, .int 0, .null, .null, .null]))).2.2 m0 = _ := hn_ne (by omega) hc1
    refine Ex_mv rfl rfl ?_; refine Ex_getf rfl hc1 rfl ?_; refine Ex_mv rfl rfl ?_; refine Ex_mv rfl rfl ?_; refine Ex_ift (fun z => h6 ((nI_eq (by omega) (by decide)).mp z)) ?_
    refine Ex_mv rfl rfl ?_; refine Ex_new rfl ?_; refine Ex_mv rfl rfl ?_; refine Ex_invI rfl (by rfl) (by rfl) (by rfl) e2 ?_; refine Ex_putf rfl hc2 rfl rfl ?_
    generalize hf : h1.1 = f at *
    obtain ⟨gT, t1, t2⟩ := hR1.2.1
    have ht3 : (hset h2 m0 (.inr (11, (MOl m0 0 s O J nw a' fl ms od oc).set 6 (.ref f)))).2.2 (m0 + 2) = some (true, .inl (0, 400, .inl gT)) := hs_ne (by omega) ((y3' _ (by omega)).trans t1)
    obtain ⟨_, h3, e3, rfl, A3, s1, s2, s3⟩ := c_MO_part (nb := nb) (sa := sa) (k := 0) (n := s.1.length) (X := s.1) ht3 (show m0 + 2 < h2.1 by omega) rfl (fun j hj => by rw [Nat.zero_add]; exact t2 j hj) (by omega) (by omega) hT.2 hT.1
    have hf8 : (hset h2 m0 (.inr (11, (MOl m0 0 s O J nw a' fl ms od oc).set 6 (.ref f)))).1 = f + 8 := y1
    rw [hf8] at A3 s1 s3
    have e3' : Ev (prog nb sa) m_MO_part [.ref (m0 + 2), .int (nI 0), .int (nI s.1.length)] (hset h2 m0 (.inr (11, (MOl m0 0 s O J nw a' fl ms od oc).set 6 (.ref f)))) (some (.ref (f + 8))) h3 := by rw [← hf8]; exact e3
    have s2' : h3.2.1 = h.2.1 + 221 + s.1.length := by rw [s2]; show h2.2.1 + _ = _; omega
    have hc3 : h3.2.2 m0 = some (true, .inr (11, (MOl m0 0 s O J nw a' fl ms od oc).set 6 (.ref f))) := (s3 m0 (by omega)).trans hs_at
    have o3 : ∀ q, q < f + 8 → q ≠ m0 → h3.2.2 q = h2.2.2 q := fun q q1 q2 => (s3 q q1).trans (if_neg q2)
    have hf3 : h3.2.2 f = _ := (o3 f (by omega) (by omega)).trans y4
    refine Ex_mv rfl rfl ?_; refine Ex_getf rfl hs_at rfl ?_; refine Ex_mv rfl rfl ?_; refine Ex_getf rfl hs_at rfl ?_; refine Ex_mv rfl rfl ?_; refine Ex_mv rfl rfl ?_; refine Ex_getf rfl hs_at rfl ?_
    refine Ex_inv rfl (by rfl) (by rfl) (by rfl) e3' ?_
    refine Ex_putf rfl hf3 rfl rfl ?_
    refine Ex_mv rfl rfl ?_; refine Ex_mv rfl rfl ?_; refine Ex_putf rfl (hs_ne (show m0 ≠ f by omega) hc3) rfl rfl ?_
    refine Ex_mv rfl rfl ?_; refine Ex_mv rfl rfl ?_; refine Ex_putf rfl hs_at rfl rfl ?_
    refine Ex_mv rfl rfl ?_; refine Ex_mv rfl rfl ?_; refine Ex_putf rfl hs_at rfl rfl ?_
    refine Ex_mv rfl rfl ?_; refine Ex_mv rfl rfl ?_; refine Ex_putf rfl hs_at rfl rfl ?_
    generalize hg : hset (hset (hset (hset (hset h3 f _) m0 _) m0 _) m0 _) m0 _ = h4
    have u1 : h4.1 = f + 9 := by rw [← hg]; show h3.1 = _; omega
    have u2 : h4.2.1 = h.2.1 + 221 + s.1.length := by rw [← hg]; exact s2'
    have u3 : ∀ q, q ≠ m0 → q ≠ f → h4.2.2 q = h3.2.2 q := fun q q1 q2 => by rw [← hg]; exact (if_neg q1).trans ((if_neg q1).trans ((if_neg q1).trans ((if_neg q1).trans (if_neg q2))))
    have u4 : h4.2.2 f = some (true, .inr (8, [.ref (f + 8), .int 0, .ref (f + 1), .ref (f + 2), .ref (f + 3), .int 0, .int 0, .ref (f + 4), .ref (f + 7), .null])) := by
      rw [← hg]; exact hs_ne (by omega) (hs_ne (by omega) (hs_ne (by omega) (hs_ne (by omega) hs_at)))
    have u5 : RQ h4 m0 f (fun i => (MOl m0 0 ([], s.2) O J (.ref f) 0 0 ms od oc).getD i .null) s.1 (.inr (0, x00)) := ⟨0, 0, -1, by rw [← hg]; exact hs_at, Nat.zero_le _, by decide, rfl, rfl, rfl⟩
    clear hg
    have o4 : ∀ q, q ≠ m0 → q ≠ f → q < f + 8 → h4.2.2 q = h2.2.2 q := fun q q1 q2 q3 => (u3 q q1 q2).trans (o3 q q3 q1)
    have hC4 : HC h4 f (f + 8) 0 0 0 .null (fun _ => 0) (fun _ => 0) (fun _ => none) (fun _ => none) (fun _ => none) (fun _ => 0) := ⟨u4, (o4 _ (by omega) (by omega) (by omega)).trans y5, (o4 _ (by omega) (by omega) (by omega)).trans y6, (o4 _ (by omega) (by omega) (by omega)).trans y7, ⟨gm, (o4 _ (by omega) (by omega) (by omega)).trans y8, y8', y8''⟩, (o4 _ (by omega) (by omega) (by omega)).trans y9, (o4 _ (by omega) (by omega) (by omega)).trans y10, (o4 _ (by omega) (by omega) (by omega)).trans y11⟩
    have hA4 : BA h4 (f + 8) s.1 := A3.eq (u3 _ (by omega) (by omega))
    obtain ⟨_, h5, e5, rfl, R5, F5, pl, be, fa, ow, gt, ga, gx, g5, g6, gc, C5, P5⟩ := c_MO_parse (nb := nb) (sa := sa) u5 hC4 hA4 (fun j hj => ⟨rfl, rfl⟩) (by omega) rfl (by omega)
    obtain ⟨p4, j4, fp4, hc4, -⟩ := id u5
    obtain ⟨p5, j5, fp5, hc5, hp5, hj5, hm5⟩ := id R5
    refine Ex_mv rfl rfl ?_; refine Ex_invV rfl (by rfl) (by rfl) hc4 (by rfl) e5 ?_
    -- from here on
    have old5 : ∀ q, q < f → q ≠ m0 → h5.2.2 q = h1.2.2 q := fun q q1 q2 => by rw [F5.2.2.2.2 q (by omega) q2 (by omega), o4 q q2 (by omega) (by omega), y3' q q1]
    have PF15 : PF (muM m0) h1 h5 := ⟨by have := F5.1; omega, by have := F5.2.2.1; omega, fun q hq => old5 q (by have := hq.1; omega) (fun e => hq.2 (by simp [muM, e]))⟩
    have FX5 : FX m0 h h5 145 1273 := ⟨⟨k3.1.1.tr PF15, fun q q1 q2 => (old5 q (by omega) (by omega)).trans (k3.1.2 q q1 q2)⟩, by have := F5.2.1; omega, by have := F5.2.2.2.1; omega⟩
    have hR5 : MOr h5 m0 nb sa ([], s.2) O J := by
      have := hR1.eq PF15 (old5 _ (by omega) (by omega)) (old5 _ (by omega) (by omega)) (old5 _ (by omega) (by omega)) (old5 _ (by omega) (by omega))
      obtain ⟨gT', t1', -⟩ := this.2.1
      exact this.tape gT' t1' (fun j hj => absurd hj (Nat.not_lt_zero _))
    have hA5 : BA h5 (f + 8) s.1 := hA4.eq (F5.2.2.2.2 _ (by omega) (by omega) (by omega))
    have hF5 : ∀ a' x, p_scan s.1 (.inr (0, x00)) = .inr (a', x) → HF (muM m0) h5 f (s.1, x) := fun a' x e => (P5 a' x e).hf C5 hA5 (scan_ok e).1 (fun t ht => ⟨ht.1, fun z => by have := ht.2; simp only [muP, muM] at z this; omega⟩) (fun t g1 g2 => ⟨by have := F5.1; omega, fun z => by simp only [muM] at z; omega⟩) rfl
    have hfc5 : ∃ fs, h5.2.2 f = some (true, .inr (8, fs)) := ⟨_, C5.1⟩
    have hl6 : s.2.2.1.length < 6 := by omega
    have bad : ∀ (h6 : Hp) (e : Nat × Nat), RQ h6 m0 f (fun i => (MOl m0 0 ([], s.2) O J (.ref f) 0 0 ms od oc).getD i .null) s.1 (.inl e) → p_read s.1 = .inl e → FrI m0 (m0 + 1) h5 h6 → ∀ (x1 : Nat) (x2 : Option Value), x1 ≤ 2 → Ex (prog nb sa) k_MO_read 84 [some (.ref m0), some (.int (nI x1)), x2] [] h6 (fun v h' => v = some (.int (q_read s).1) ∧ MOs h' m0 nb sa (q_read s).2 0 ∧ FX m0 h h' 145 1273) := by
      intro h6 e R6 hr F6 x1 x2 hx1
      have P6 : PF (muM m0) h5 h6 := F6.pfm (Or.inl rfl)
      have last := MO_read_end (nb := nb) (sa := sa) (x1 := x1) (x2 := x2) hl6 R6 (hR5.eq P6 (F6.2.2 _ (by omega)) (F6.2.2 _ (by omega)) (F6.2.2 _ (by omega)) (F6.2.2 _ (by omega))) (fun a' x z => by cases z) (by obtain ⟨fs, z⟩ := hfc5; exact ⟨fs, F6.at z (by omega)⟩) (by omega) (FX5.tr ⟨⟨P6, fun q _ q2 => F6.2.2 q (by omega)⟩, by rw [F6.1]; exact Nat.le_refl _, by rw [F6.2.1]; exact Nat.le_refl _⟩ (c' := 0) (s' := 0)) hr
      obtain ⟨p6, j6, fp6, hc6, hp6, hj6, q1, q2, q3⟩ := id R6
      by_cases hx2 : x1 = 2
      · subst hx2
        refine Ex_mv rfl rfl ?_; refine Ex_mv rfl rfl ?_; refine Ex_mv rfl rfl ?_; refine Ex_ift (by decide) ?_
        exact last
      · refine Ex_mv rfl rfl ?_; refine Ex_mv rfl rfl ?_; refine Ex_mv rfl rfl ?_; refine Ex_iff (nI_ge (by omega) (by decide)) ?_; refine Ex_mv rfl rfl ?_; refine Ex_getf rfl (by assumption) rfl ?_; refine Ex_mv rfl rfl ?_; refine Ex_ift (nI_nz (by omega) (by omega)) ?_
        exact last
    cases hsc : p_scan s.1 (.inr (0, x00)) with
    | inl e =>
      rw [hsc] at R5 hm5
      have hr : p_read s.1 = .inl e := by unfold p_read; rw [hsc]; rfl
      obtain ⟨q1, q2, q3⟩ := hm5
      have last := bad h5 e R5 hr FrI.rf 0 none (by decide)
      refine Ex_mv rfl rfl ?_; refine Ex_getf rfl (by assumption) rfl ?_; refine Ex_mv rfl rfl ?_; refine Ex_ift (nI_nz (by omega) (by omega)) ?_; refine Ex_mv rfl rfl ?_; refine Ex_mv rfl rfl ?_
      exact last
    | inr e =>
      obtain ⟨ae, x⟩ := e
      rw [hsc] at R5 hm5
      have hG := (scan_ok hsc).1
      have hFx := hF5 ae x hsc
      obtain ⟨q1, q2, q3⟩ := hm5
      subst q1
      obtain ⟨_, h6, e6, rfl, R6, F6⟩ := c_MO_places (nb := nb) (sa := sa) (Or.inl rfl) hG R5 hFx
      rw [pks_ck] at R6
      have hpr : p_read s.1 = p_srt s.1 1 (p_srt s.1 0 (p_chk s.1 (.inr (ae, x)))) := by unfold p_read; rw [hsc]
      change RQ h6 m0 f _ s.1 (p_chk s.1 (.inr (ae, x))) at R6
      have c78 : ∀ R, Ex (prog nb sa) k_MO_read 82 [some (.ref m0), none, none] [] h6 R → Ex (prog nb sa) k_MO_read 71 [some (.ref m0), none, none] [] h5 R := by
        intro R K
        refine Ex_mv rfl rfl ?_; refine Ex_getf rfl (by assumption) rfl ?_; refine Ex_mv rfl rfl ?_; refine Ex_iff (by decide) ?_; refine Ex_mv rfl rfl ?_; refine Ex_invV rfl (by rfl) (by rfl) (by assumption) (by rfl) (e6) ?_
        exact K
      refine c78 _ ?_
      refine Ex_mv rfl rfl ?_; refine Ex_mv rfl rfl ?_
      cases hch : p_chk s.1 (.inr (ae, x)) with
      | inl e =>
        rw [hch] at R6 hpr
        exact bad h6 e R6 hpr F6 0 none (by decide)
      | inr e =>
        have hch' := (chk_ok hch).1
        have hch' : e = (ae, x) := (Sum.inr.inj hch').symm
        subst hch'
        rw [hch] at R6 hpr
        have hfull : p_chk s.1 (p_scan s.1 (.inr (0, x00))) = .inr (ae, x) := by rw [hsc]; exact hch
        have hF6 := hFx.pf (F6.pfm (Or.inl rfl))
        have hSA6 : SAk (muM m0) h6 sa := hR5.2.2.2.2.2.2.2.2.pf (F6.pfm (Or.inl rfl))
        obtain ⟨g1, g2, g3, g4, gg5, gg6, gg7, gg8, gg9, gg10, gg11, gg12, gg13, gg14, gg15, gg16, gg17, gg18, gg19⟩ := id hG
        obtain ⟨p6, j6, fp6, hc6, hp6, hj6, qa1, qa2, qa3⟩ := id R6
        subst qa1
        have goK : ∀ (kk : Nat) (h7 : Hp) (x2 : Option Value) (fp : Int32) (p : Nat) (R : Option Value → Hp → Prop), kk < 2 → MCe h7 m0 (fun i => (MOl m0 0 ([], s.2) O J (.ref f) 0 0 ms od oc).getD i .null) f p 0 fp → Ex (prog nb sa) k_MO_read 98 [some (.ref m0), some (.int (nI kk)), some (.int (nI 0))] [] h7 R → Ex (prog nb sa) k_MO_read 84 [some (.ref m0), some (.int (nI kk)), x2] [] h7 R := by
          intro kk h7 x2 fp p R hkk hc7 K
          refine Ex_mv rfl rfl ?_; refine Ex_mv rfl rfl ?_; refine Ex_mv rfl rfl ?_; refine Ex_iff (nI_ge (by omega) (by decide)) ?_; refine Ex_mv rfl rfl ?_; refine Ex_getf rfl (by assumption) rfl ?_; refine Ex_mv rfl rfl ?_; refine Ex_iff (by decide) ?_; refine Ex_mv rfl rfl ?_; refine Ex_mv rfl rfl ?_
          exact K
        refine goK 0 h6 none fp6 p6 _ (by decide) hc6 ?_
        refine MO_read_srt (nb := nb) (kk := 0) (by decide) (Or.inl rfl) hG (chk_tv (by decide) hfull).2 (by show x.2.2.2.2.1.length ≤ 12; rw [gg17, memL_len]; exact gg7) (mK x.2.2.2.2.1 x.2.2.2.2.2.1 0).length 0 h6 _ (Nat.zero_add _) R6 hF6 hSA6 _ ?_
        intro h7 k7 R7 F7
        rw [List.drop_zero, pss_ck] at R7
        have F57 := F6.tr F7
        refine Ex_incN rfl rfl ?_; refine Ex_mv rfl rfl ?_
        change RQ h7 m0 f _ s.1 (p_srt s.1 0 (.inr (ae, x))) at R7
        cases hs0 : p_srt s.1 0 (.inr (ae, x)) with
        | inl e =>
          rw [hs0] at R7 hpr
          exact bad h7 e R7 hpr F57 1 _ (by decide)
        | inr e =>
          have hs0' := (srt_ok hs0).1
          have hs0' : e = (ae, x) := (Sum.inr.inj hs0').symm
          subst hs0'
          rw [hs0] at R7 hpr
          have hF7 := hFx.pf (F57.pfm (Or.inl rfl))
          have hSA7 : SAk (muM m0) h7 sa := hR5.2.2.2.2.2.2.2.2.pf (F57.pfm (Or.inl rfl))
          obtain ⟨p7, j7, fp7, hc7, hp7, hj7, qb1, qb2, qb3⟩ := id R7
          subst qb1
          refine goK 1 h7 _ fp7 p7 _ (by decide) hc7 ?_
          refine MO_read_srt (nb := nb) (kk := 1) (by decide) (Or.inl rfl) hG (chk_tv (by decide) hfull).2 (by show x.2.2.2.2.2.1.length ≤ 12; rw [gg18, memL_len]; exact gg10) (mK x.2.2.2.2.1 x.2.2.2.2.2.1 1).length 0 h7 _ (Nat.zero_add _) R7 hF7 hSA7 _ ?_
          intro h8 k8 R8 F8
          rw [List.drop_zero, pss_ck] at R8
          have F58 := F57.tr F8
          refine Ex_incN rfl rfl ?_; refine Ex_mv rfl rfl ?_
          change RQ h8 m0 f _ s.1 (p_srt s.1 1 (.inr (ae, x))) at R8
          rw [← hpr] at R8
          refine Ex_mv rfl rfl ?_; refine Ex_mv rfl rfl ?_; refine Ex_mv rfl rfl ?_; refine Ex_ift (by decide) ?_
          have P8 : PF (muM m0) h5 h8 := F58.pfm (Or.inl rfl)
          exact MO_read_end (nb := nb) (sa := sa) hl6 R8 (hR5.eq P8 (F58.2.2 _ (by omega)) (F58.2.2 _ (by omega)) (F58.2.2 _ (by omega)) (F58.2.2 _ (by omega))) (fun a2 x2 z => by
            rw [z] at hpr
            have := (srt_ok hpr.symm).1
            simp only [Sum.inr.injEq, Prod.mk.injEq] at this
            rw [← this.2]
            exact hFx.pf P8) (by obtain ⟨fs, z⟩ := hfc5; exact ⟨fs, F58.at z (by omega)⟩) (by omega) (FX5.tr ⟨⟨P8, fun q _ q2 => F58.2.2 q (by omega)⟩, by rw [F58.1]; exact Nat.le_refl _, by rw [F58.2.1]; exact Nat.le_refl _⟩ (c' := 0) (s' := 0)) rfl
end REFK
