/-! the other side: read -/
def ps1 (B : List Nat) (S : Nat → Nat) (n k m : Nat) (s : Rt) : Rt := if okS k (tx B S n (b2 B (m + 4))) = true then s else p_fail 10 (m + 4) s
def pss (B : List Nat) (S : Nat → Nat) (n k : Nat) : List Nat → Rt → Rt
  | [], s => s
  | m :: M, s => pss B S n k M (ps1 B S n k m s)
theorem pss_bad {B : List Nat} {S : Nat → Nat} {n k : Nat} (e : Nat × Nat) : ∀ (L : List Nat), pss B S n k L (.inl e) = .inl e
  | [] => rfl
  | m :: L => by
    rw [pss, show ps1 B S n k m (.inl e) = .inl e from by unfold ps1; split <;> rfl]
    exact pss_bad e L
theorem pss_ck {B : List Nat} {S : Nat → Nat} {n k : Nat} (y : Nat × Fs) : ∀ (L : List Nat), pss B S n k L (.inr y) = match ckS B S n k L with
    | none => .inr y
    | some p => .inl (10, p)
  | [] => rfl
  | m :: L => by
    rw [pss]
    unfold ps1 ckS
    by_cases h : okS k (tx B S n (b2 B (m + 4))) = true
    · rw [if_pos h, if_pos h]; exact pss_ck y L
    · rw [if_neg h, if_neg h]; exact pss_bad _ L
theorem memL_le {B : List Nat} : ∀ d p, MemG B d p → ∀ m ∈ memL B d p, m + 8 ≤ B.length
  | 0, p, _, m, hm => by simp [memL] at hm
  | d + 1, p, h, m, hm => by
    rw [memL, List.mem_cons] at hm
    rcases hm with rfl | hm
    · exact h.1
    · exact memL_le d _ h.2.2.2 m hm
theorem GF.memle {B : List Nat} {x : Fs} (hG : GF B x) {kk m : Nat} (hm : m ∈ mK x.2.2.2.2.1 x.2.2.2.2.2.1 kk) : m + 8 ≤ B.length := by
  obtain ⟨g1, g2, g3, g4, gg5, gg6, gg7, gg8, gg9, gg10, gg11, gg12, gg13, gg14, gg15, gg16, gg17, gg18, gg19⟩ := hG
  unfold mK at hm
  split at hm
  · rw [gg17] at hm; exact memL_le _ _ gg8 m hm
  · rw [gg18] at hm; exact memL_le _ _ gg11 m hm
section REFJ
variable {nb sa : Nat} {m0 : Nat}
theorem c_MH_init {h : Hp} {f : Nat} (hA : h.2.2 f = some (true, .inr (8, [.null, .int 0, .null, .null, .null, .int 0, .int 0, .null, .null, .null]))) (ha : h.1 = f + 1) : EvQ (prog nb sa) m_MH_init [.ref f] h (fun v h' => v = none ∧ h'.1 = f + 8 ∧ h'.2.1 = h.2.1 + 211 ∧ (∀ q, q < f → h'.2.2 q = h.2.2 q) ∧ h'.2.2 f = some (true, .inr (8, [.null, .int 0, .ref (f + 1), .ref (f + 2), .ref (f + 3), .int 0, .int 0, .ref (f + 4), .ref (f + 7), .null])) ∧ h'.2.2 (f + 1) = some (true, .inl (1, 61, .inl (fun _ => 0))) ∧ h'.2.2 (f + 2) = some (true, .inl (1, 61, .inl (fun _ => 0))) ∧ h'.2.2 (f + 3) = some (true, .inl (4, 61, .inr (.inr (.inr (.inr (fun _ => none)))))) ∧ (∃ gm, h'.2.2 (f + 4) = some (true, .inl (9, 2, .inr (.inr (.inr (.inr gm))))) ∧ gm 0 = some (f + 5) ∧ gm 1 = some (f + 6)) ∧ h'.2.2 (f + 5) = some (true, .inl (8, 12, .inr (.inr (.inr (.inr (fun _ => none)))))) ∧ h'.2.2 (f + 6) = some (true, .inl (8, 12, .inr (.inr (.inr (.inr (fun _ => none)))))) ∧ h'.2.2 (f + 7) = some (true, .inl (1, 2, .inl (fun _ => 0)))) := by
  refine EvQ_of k_MH_init 1 [some (.ref f)] rfl (Nat.le_of_ble_eq_true rfl) rfl ?_
  refine Ex_mv rfl rfl ?_; refine Ex_mv rfl rfl ?_; refine Ex_mv rfl rfl ?_; refine Ex_mv rfl rfl ?_; refine Ex_newi rfl (vin (by decide)) ?_; refine Ex_putf rfl (hn_ne (by omega) hA) rfl rfl ?_
  generalize hg : hset (hnew h _ _) f _ = h1
  have s1 : h1.1 = f + 2 := by rw [← hg]; show h.1 + 1 = _; omega
  have s2 : h1.2.1 = h.2.1 + 61 := by rw [← hg]; rfl
  have s3 : ∀ q, q < f → h1.2.2 q = h.2.2 q := fun q hq => by rw [← hg]; exact (if_neg (by omega)).trans (if_neg (by omega))
  have s4 : h1.2.2 f = some (true, .inr (8, [.null, .int 0, .ref (f + 1), .null, .null, .int 0, .int 0, .null, .null, .null])) := by rw [← hg, hs_at, ha]; rfl
  have s5 : h1.2.2 (f + 1) = some (true, .inl (1, 61, .inl (fun _ => 0))) := by rw [← hg, ← ha]; exact hs_ne (by omega) hn_at
  clear hg
  refine Ex_mv rfl rfl ?_; refine Ex_mv rfl rfl ?_; refine Ex_newi rfl (vin (by decide)) ?_; refine Ex_putf rfl (hn_ne (by omega) s4) rfl rfl ?_
  generalize hg : hset (hnew h1 _ _) f _ = h2
  have t1 : h2.1 = f + 3 := by rw [← hg]; show h1.1 + 1 = _; omega
  have t2 : h2.2.1 = h.2.1 + 122 := by rw [← hg]; show h1.2.1 + 61 = _; omega
  have t3 : ∀ q, q < f + 2 → q ≠ f → h2.2.2 q = h1.2.2 q := fun q hq hf => by rw [← hg]; exact (if_neg hf).trans (if_neg (by omega))
  have t4 : h2.2.2 f = some (true, .inr (8, [.null, .int 0, .ref (f + 1), .ref (f + 2), .null, .int 0, .int 0, .null, .null, .null])) := by rw [← hg, hs_at, s1]; rfl
  have t5 : h2.2.2 (f + 2) = some (true, .inl (1, 61, .inl (fun _ => 0))) := by rw [← hg, ← s1]; exact hs_ne (by omega) hn_at
  clear hg
  refine Ex_mv rfl rfl ?_; refine Ex_mv rfl rfl ?_; refine Ex_newq rfl (vin (by decide)) ?_; refine Ex_putf rfl (hn_ne (by omega) t4) rfl rfl ?_
  generalize hg : hset (hnew h2 _ _) f _ = h3
  have u1 : h3.1 = f + 4 := by rw [← hg]; show h2.1 + 1 = _; omega
  have u2 : h3.2.1 = h.2.1 + 183 := by rw [← hg]; show h2.2.1 + 61 = _; omega
  have u3 : ∀ q, q < f + 3 → q ≠ f → h3.2.2 q = h2.2.2 q := fun q hq hf => by rw [← hg]; exact (if_neg hf).trans (if_neg (by omega))
  have u4 : h3.2.2 f = some (true, .inr (8, [.null, .int 0, .ref (f + 1), .ref (f + 2), .ref (f + 3), .int 0, .int 0, .null, .null, .null])) := by rw [← hg, hs_at, t1]; rfl
  have u5 : h3.2.2 (f + 3) = some (true, .inl (4, 61, .inr (.inr (.inr (.inr (fun _ => none)))))) := by rw [← hg, ← t1]; exact hs_ne (by omega) hn_at
  clear hg
  refine Ex_mv rfl rfl ?_; refine Ex_mv rfl rfl ?_; refine Ex_newq rfl (vin (by decide)) ?_
  generalize hg : hnew h3 _ _ = h4
  have v1 : h4.1 = f + 5 := by rw [← hg]; show h3.1 + 1 = _; omega
  have v2 : h4.2.1 = h.2.1 + 185 := by rw [← hg]; show h3.2.1 + 2 = _; omega
  have v3 : ∀ q, q < f + 4 → h4.2.2 q = h3.2.2 q := fun q hq => by rw [← hg]; exact if_neg (by omega)
  have v5 : h4.2.2 (f + 4) = some (true, .inl (9, 2, .inr (.inr (.inr (.inr (fun _ => none)))))) := by rw [← hg, ← u1]; exact hn_at
  clear hg
  rw [u1]
  refine Ex_mv rfl rfl ?_; refine Ex_mv rfl rfl ?_; refine Ex_mv rfl rfl ?_; refine Ex_newq rfl (vin (by decide)) ?_
  refine Ex_aast rfl (hn_ne (by omega) v5) hn_at rfl (vp_in_nI (by decide) (by decide)) ?_
  generalize hg : hset (hnew h4 _ _) (f + 4) _ = h5
  have w1 : h5.1 = f + 6 := by rw [← hg]; show h4.1 + 1 = _; omega
  have w2 : h5.2.1 = h.2.1 + 197 := by rw [← hg]; show h4.2.1 + 12 = _; omega
  have w3 : ∀ q, q < f + 4 → h5.2.2 q = h4.2.2 q := fun q hq => by rw [← hg]; exact (if_neg (by omega)).trans (if_neg (by omega))
  have w4 : h5.2.2 (f + 4) = some (true, .inl (9, 2, .inr (.inr (.inr (.inr (va_up (fun _ => none) 0 (some (f + 5)))))))) := by rw [← hg, hs_at, v1]; rfl
  have w5 : h5.2.2 (f + 5) = some (true, .inl (8, 12, .inr (.inr (.inr (.inr (fun _ => none)))))) := by rw [← hg, ← v1]; exact hs_ne (by omega) hn_at
  clear hg
  refine Ex_mv rfl rfl ?_; refine Ex_mv rfl rfl ?_; refine Ex_mv rfl rfl ?_; refine Ex_newq rfl (vin (by decide)) ?_
  refine Ex_aast rfl (hn_ne (by omega) w4) hn_at rfl (vp_in_nI (by decide) (by decide)) ?_
  generalize hg : hset (hnew h5 _ _) (f + 4) _ = h6
  have x1 : h6.1 = f + 7 := by rw [← hg]; show h5.1 + 1 = _; omega
  have x2 : h6.2.1 = h.2.1 + 209 := by rw [← hg]; show h5.2.1 + 12 = _; omega
  have x3 : ∀ q, q < f + 6 → q ≠ f + 4 → h6.2.2 q = h5.2.2 q := fun q hq hf => by rw [← hg]; exact (if_neg hf).trans (if_neg (by omega))
  have x4 : h6.2.2 (f + 4) = some (true, .inl (9, 2, .inr (.inr (.inr (.inr (va_up (va_up (fun _ => none) 0 (some (f + 5))) 1 (some (f + 6)))))))) := by rw [← hg, hs_at, w1]; rfl
  have x5 : h6.2.2 (f + 6) = some (true, .inl (8, 12, .inr (.inr (.inr (.inr (fun _ => none)))))) := by rw [← hg, ← w1]; exact hs_ne (by omega) hn_at
  clear hg
  have x6 : h6.2.2 f = _ := (x3 f (by omega) (by omega)).trans ((w3 f (by omega)).trans ((v3 f (by omega)).trans u4))
  refine Ex_putf rfl x6 rfl rfl ?_
  refine Ex_mv rfl rfl ?_; refine Ex_mv rfl rfl ?_; refine Ex_newi rfl (vin (by decide)) ?_; refine Ex_putf rfl (hn_ne (show f ≠ h6.1 by omega) hs_at) rfl rfl ?_
  generalize hg : hset (hnew (hset h6 f _) _ _) f _ = h7
  have y1 : h7.1 = f + 8 := by rw [← hg]; show h6.1 + 1 = _; omega
  have y2 : h7.2.1 = h.2.1 + 211 := by rw [← hg]; show h6.2.1 + 2 = _; omega
  have y3 : ∀ q, q < f + 7 → q ≠ f → h7.2.2 q = h6.2.2 q := fun q hq hf => by rw [← hg]; exact (if_neg hf).trans ((if_neg (show q ≠ h6.1 by omega)).trans (if_neg hf))
  have y4 : h7.2.2 f = some (true, .inr (8, [.null, .int 0, .ref (f + 1), .ref (f + 2), .ref (f + 3), .int 0, .int 0, .ref (f + 4), .ref (f + 7), .null])) := by
    rw [← hg, hs_at, show (hset h6 f _).1 = f + 7 from x1]; rfl
  have y5 : h7.2.2 (f + 7) = some (true, .inl (1, 2, .inl (fun _ => 0))) := by rw [← hg, ← x1]; exact hs_ne (by omega) (if_pos rfl)
  clear hg
  have z5 : ∀ q, q < f + 4 → q ≠ f → h7.2.2 q = h3.2.2 q := fun q hq hf => by rw [y3 q (by omega) hf, x3 q (by omega) (by omega), w3 q hq, v3 q hq]
  refine Ex_rt rfl rfl ⟨rfl, y1, y2, fun q hq => ?_, y4, ?_, ?_, ?_, ⟨va_up (va_up (fun _ => none) 0 (some (f + 5))) 1 (some (f + 6)), ?_, rfl, rfl⟩, ?_, ?_, y5⟩
  · rw [z5 q (by omega) (by omega), u3 q (by omega) (by omega), t3 q (by omega) (by omega), s3 q hq]
  · rw [z5 _ (by omega) (by omega), u3 _ (by omega) (by omega), t3 _ (by omega) (by omega)]; exact s5
  · rw [z5 _ (by omega) (by omega), u3 _ (by omega) (by omega)]; exact t5
  · rw [z5 _ (by omega) (by omega)]; exact u5
  · rw [y3 _ (by omega) (by omega)]; exact x4
  · rw [y3 _ (by omega) (by omega), x3 _ (by omega) (by omega)]; exact w5
  · rw [y3 _ (by omega) (by omega)]; exact x5
theorem MO_read_srt {f kk : Nat} {a : Nat → Value} {B : List Nat} {x : Fs} {mu : Nat → Prop} (hk : kk < 2) (hm : mu m0) (hG : GF B x) (ht : ∀ m ∈ mK x.2.2.2.2.1 x.2.2.2.2.2.1 kk, tg B x.1 x.2.1 (b2 B (m + 4)) = 1) (hc12 : (mK x.2.2.2.2.1 x.2.2.2.2.2.1 kk).length ≤ 12) : ∀ (d k : Nat) (h : Hp) (s : Rt), k + d = (mK x.2.2.2.2.1 x.2.2.2.2.2.1 kk).length → RQ h m0 f a B s → HF mu h f (B, x) → SAk mu h sa → ∀ R : Option Value → Hp → Prop, (∀ (h' : Hp) (k' : Nat), RQ h' m0 f a B (pss B x.1 x.2.1 kk ((mK x.2.2.2.2.1 x.2.2.2.2.2.1 kk).drop k) s) → FrI m0 (m0 + 1) h h' → Ex (prog nb sa) k_MO_read 156 [some (.ref m0), some (.int (nI kk)), some (.int (nI k'))] [] h' R) → Ex (prog nb sa) k_MO_read 98 [some (.ref m0), some (.int (nI kk)), some (.int (nI k))] [] h R
  | 0, k, h, s, hd, hs, hF, hSA, R, K => by
    obtain ⟨p0, j0, fp0, hc, -⟩ := id hs
    obtain ⟨b, t1, t2, t3, t7, t8, ow, ak, gm, gc, c1, c2, c3, c4, c5, c6⟩ := hF.kd hk
    have e1 : gc (nI kk).toNatClampNeg = nI k := by rw [nI_clamp (by omega), c6, ← hd]; rfl
    have f0 := K h k (by rw [List.drop_eq_nil_of_le (by omega)]; exact hs) FrI.rf
    refine Ex_mv rfl rfl ?_; refine Ex_mv rfl rfl ?_; refine Ex_getf rfl (by assumption) rfl ?_; refine Ex_getf rfl (by assumption) rfl ?_; refine Ex_mv rfl rfl ?_; refine Ex_iald rfl (by assumption) (vp_in_nI (by omega) (by decide)) ?_
    rw [e1]
    refine Ex_mv rfl rfl ?_; refine Ex_ift (nI_le (by omega) (by omega)) ?_
    exact f0
  | d + 1, k, h, s, hd, hs, hF, hSA, R, K => by
    obtain ⟨p0, j0, fp0, hc, -⟩ := id hs
    have hn := hG.2.2.1
    have hl4 := hF.lt.2
    obtain ⟨b, t1, t2, t3, t7, t8, ow, ak, gm, gc, c1, c2, c3, ⟨g, c4, c4', c4'', c4'''⟩, c5, c6⟩ := hF.kd hk
    have e1 : gc (nI kk).toNatClampNeg = nI (k + (d + 1)) := by rw [nI_clamp (by omega), c6, ← hd]
    have e2 : gm (nI kk).toNatClampNeg = some ak := by rw [nI_clamp (by omega), c3]
    have hkl : k < (mK x.2.2.2.2.1 x.2.2.2.2.2.1 kk).length := by omega
    obtain ⟨u, u1, w, u2, u3, u4⟩ := c4' k hkl
    have e3 : g (nI k).toNatClampNeg = some u := by rw [nI_clamp (by omega), u1]
    have hdr : (mK x.2.2.2.2.1 x.2.2.2.2.2.1 kk).drop k = (mK x.2.2.2.2.1 x.2.2.2.2.2.1 kk).getD k 0 :: (mK x.2.2.2.2.1 x.2.2.2.2.2.1 kk).drop (k + 1) := by
      rw [List.getD_eq_getElem?_getD, List.getElem?_eq_getElem hkl, Option.getD_some]; exact List.drop_eq_getElem_cons hkl
    have hmem : (mK x.2.2.2.2.1 x.2.2.2.2.2.1 kk).getD k 0 ∈ mK x.2.2.2.2.1 x.2.2.2.2.2.1 kk := by
      rw [List.getD_eq_getElem?_getD, List.getElem?_eq_getElem hkl]; exact List.getElem_mem hkl
    rw [hdr] at K
    generalize hmm : (mK x.2.2.2.2.1 x.2.2.2.2.2.1 kk).getD k 0 = m at *
    have hm8 := hG.memle hmem
    obtain ⟨t, so, bt⟩ := c_MO_sortOf (nb := nb) (sa := sa) (m0 := m0) hF hn hk hkl hmm (by omega) (ht m hmem)
    have iso := c_MO_isSort (nb := nb) hSA.sa bt.1 hk
    have fin : ∀ h1, RQ h1 m0 f a B (ps1 B x.1 x.2.1 kk m s) → FrI m0 (m0 + 1) h h1 → Ex (prog nb sa) k_MO_read 150 [some (.ref m0), some (.int (nI kk)), some (.int (nI k))] [] h1 R := by
      intro h1 R1 F1
      refine Ex_incN rfl rfl ?_; refine Ex_mv rfl rfl ?_
      exact MO_read_srt hk hm hG ht hc12 d (k + 1) h1 _ (by omega) R1 (hF.pf (F1.pfm hm)) (hSA.pf (F1.pfm hm)) R (fun h' k' z1 z2 => K h' k' z1 (F1.tr z2))
    unfold ps1 at fin
    by_cases hok : okS kk (tx B x.1 x.2.1 (b2 B (m + 4))) = true
    · rw [if_pos hok] at iso fin
      refine Ex_mv rfl rfl ?_; refine Ex_mv rfl rfl ?_; refine Ex_getf rfl (by assumption) rfl ?_; refine Ex_getf rfl (by assumption) rfl ?_; refine Ex_mv rfl rfl ?_; refine Ex_iald rfl (by assumption) (vp_in_nI (by omega) (by decide)) ?_
      rw [e1]
      refine Ex_mv rfl rfl ?_; refine Ex_iff (nI_ge (by omega) (by omega)) ?_; refine Ex_mv rfl rfl ?_; refine Ex_mv rfl rfl ?_; refine Ex_getf rfl (by assumption) rfl ?_; refine Ex_mv rfl rfl ?_; refine Ex_mv rfl rfl ?_; refine Ex_invV rfl (by rfl) (by rfl) (by assumption) (by rfl) (so) ?_; refine Ex_mv rfl rfl ?_; refine Ex_inv rfl (by rfl) (by rfl) (by rfl) (iso) ?_; refine Ex_mv rfl rfl ?_; refine Ex_ift (show ¬ nI 1 = 0 by decide) ?_
      exact fin h hs FrI.rf
    · rw [if_neg hok] at iso fin
      obtain ⟨_, h1, f1, rfl, R1, F1⟩ := c_MO_fails (nb := nb) (sa := sa) hs (k := 10) (w := m + 4) (by decide) (by decide)
      refine Ex_mv rfl rfl ?_; refine Ex_mv rfl rfl ?_; refine Ex_getf rfl (by assumption) rfl ?_; refine Ex_getf rfl (by assumption) rfl ?_; refine Ex_mv rfl rfl ?_; refine Ex_iald rfl (by assumption) (vp_in_nI (by omega) (by decide)) ?_
      rw [e1]
      refine Ex_mv rfl rfl ?_; refine Ex_iff (nI_ge (by omega) (by omega)) ?_; refine Ex_mv rfl rfl ?_; refine Ex_mv rfl rfl ?_; refine Ex_getf rfl (by assumption) rfl ?_; refine Ex_mv rfl rfl ?_; refine Ex_mv rfl rfl ?_; refine Ex_invV rfl (by rfl) (by rfl) (by assumption) (by rfl) (so) ?_; refine Ex_mv rfl rfl ?_; refine Ex_inv rfl (by rfl) (by rfl) (by rfl) (iso) ?_; refine Ex_mv rfl rfl ?_; refine Ex_iff (not_not_intro (show nI 0 = 0 from rfl)) ?_; refine Ex_mv rfl rfl ?_; refine Ex_mv rfl rfl ?_; refine Ex_mv rfl rfl ?_; refine Ex_getf rfl (by assumption) rfl ?_; refine Ex_getf rfl (by assumption) rfl ?_; refine Ex_mv rfl rfl ?_; refine Ex_aald rfl c2 rfl (vp_in_nI (by omega) (by decide)) e2 ?_; refine Ex_mv rfl rfl ?_; refine Ex_aald rfl c4 rfl (vp_in_nI (by omega) (by decide)) e3 ?_; refine Ex_getf rfl (by assumption) rfl ?_; refine Ex_mv rfl rfl ?_; (first | refine Ex_addN rfl ?_ | refine Ex_mv rfl rfl ?_); refine Ex_invV rfl (by rfl) (by rfl) (by assumption) (by rfl) (f1) ?_
      exact fin h1 R1 F1
end REFJ
