/-! the other side: places that are told -/
def pk1 (B : List Nat) (S : Nat → Nat) (n : Nat) (p : Nat × Nat) (s : Rt) : Rt := if wrg B S n (b2 B p.1) p.2 = 0 then s else p_fail (wrg B S n (b2 B p.1) p.2) p.1 s
def pks (B : List Nat) (S : Nat → Nat) (n : Nat) : List (Nat × Nat) → Rt → Rt
  | [], s => s
  | p :: L, s => pks B S n L (pk1 B S n p s)
theorem pks_app {B : List Nat} {S : Nat → Nat} {n : Nat} : ∀ (L M : List (Nat × Nat)) (s : Rt), pks B S n (L ++ M) s = pks B S n M (pks B S n L s)
  | [], M, s => rfl
  | p :: L, M, s => pks_app L M _
theorem pks_bad {B : List Nat} {S : Nat → Nat} {n : Nat} (e : Nat × Nat) : ∀ (L : List (Nat × Nat)), pks B S n L (.inl e) = .inl e
  | [] => rfl
  | p :: L => by
    rw [pks, show pk1 B S n p (.inl e) = .inl e from by unfold pk1; split <;> rfl]
    exact pks_bad e L
theorem pks_ck {B : List Nat} {S : Nat → Nat} {n : Nat} (y : Nat × Fs) : ∀ (L : List (Nat × Nat)), pks B S n L (.inr y) = match ckT B S n L with
    | none => .inr y
    | some e => .inl e
  | [] => rfl
  | p :: L => by
    obtain ⟨q, w⟩ := p
    rw [pks]
    unfold pk1 ckT
    by_cases h : wrg B S n (b2 B q) w = 0
    · rw [if_pos h, if_pos h]; exact pks_ck y L
    · rw [if_neg h, if_neg h]; exact pks_bad _ L
theorem atP_succ (B : List Nat) : ∀ d p, atP B (d + 1) p = atP B d p + 6 + b4 B (atP B d p + 2)
  | 0, p => rfl
  | d + 1, p => by rw [atP, atP_succ B d]; rfl
/-- nothing but the one cell -/
theorem FrI.pfm {m0 : Nat} {mu : Nat → Prop} {h h' : Hp} (F : FrI m0 (m0 + 1) h h') (hm : mu m0) : PF mu h h' := ⟨by rw [F.1]; exact Nat.le_refl _, by rw [F.2.1]; exact Nat.le_refl _, fun q hq => F.2.2 q (by have hh := hq.2; have hne : q ≠ m0 := fun e => hh (by rw [e]; exact hm); omega)⟩
theorem FrI.keep1 {m0 t : Nat} {mu : Nat → Prop} {h h' : Hp} (F : FrI m0 (m0 + 1) h h') (hm : mu m0) (a : okA mu h t) : h'.2.2 t = h.2.2 t := (F.pfm hm).2.2 t a
section REFD
variable {nb sa : Nat} {m0 f : Nat} {a : Nat → Value} {B : List Nat} {x : Fs} {mu : Nat → Prop}
theorem HF.hb {h : Hp} (hF : HF mu h f (B, x)) : ∃ b, HB h f b B ∧ okA mu h b := by
  obtain ⟨b, t1, t2, t3, t7, a5, a6, t8, ow, gt, ga, gc, gx, gm, c1, c2, c3, -⟩ := hF
  exact ⟨b, ⟨⟨_, c1⟩, c3.1⟩, c3.2⟩
theorem HF.lt {h : Hp} (hF : HF mu h f (B, x)) : (∀ y ∈ B, y < 256) ∧ B.length ≤ 400 := by
  obtain ⟨b, ⟨-, w, g, -, h2, h3, h4⟩, -⟩ := hF.hb
  exact ⟨h3, h4⟩
theorem c_MO_wrongPlace {h : Hp} (hF : HF mu h f (B, x)) (hn : x.2.1 ≤ 61) {i t : Nat} (hi : i < 2 ^ 31) (htt : t < 2 ^ 31) : Ev (prog nb sa) m_MO_wrongPlace [.ref f, .int (nI i), .int (nI t)] h (some (.int (nI (wrg B x.1 x.2.1 i t)))) h := by
  have ht := tg_lt (S := x.1) (n := x.2.1) hF.lt.1 i
  simp only [HF] at hF
  obtain ⟨b, t1, t2, t3, t7, a5, a6, t8, ow, gt, ga, gc, gx, gm, c1, c2, c3, ⟨d1, d2, d3⟩, -⟩ := hF
  have hi0 : ¬ nI i < 0 := nI_pos hi
  refine Ev_ofL k_MO_wrongPlace 3 [some (.ref f), some (.int (nI i)), some (.int (nI t))] rfl (Nat.le_of_ble_eq_true rfl) rfl ?_
  unfold wrg
  by_cases h1 : x.2.1 ≤ i
  · rw [if_pos h1]
    refine Ex_mv rfl rfl ?_; refine Ex_mv rfl rfl ?_; refine Ex_iff hi0 ?_; refine Ex_mv rfl rfl ?_; refine Ex_mv rfl rfl ?_; refine Ex_getf rfl (by assumption) rfl ?_; refine Ex_mv rfl rfl ?_; refine Ex_iff (nI_nlt (by omega) (by omega)) ?_; refine Ex_mv rfl rfl ?_; refine Ex_mv rfl rfl ?_
    exact Ex_rt rfl rfl ⟨rfl, rfl⟩
  · rw [if_neg h1]
    have eg : gt (nI i).toNatClampNeg = nI (tg B x.1 x.2.1 i) := by rw [nI_clamp hi]; exact d3 i (by omega)
    by_cases h2 : tg B x.1 x.2.1 i = 0
    · rw [if_pos h2]
      refine Ex_mv rfl rfl ?_; refine Ex_mv rfl rfl ?_; refine Ex_iff hi0 ?_; refine Ex_mv rfl rfl ?_; refine Ex_mv rfl rfl ?_; refine Ex_getf rfl (by assumption) rfl ?_; refine Ex_mv rfl rfl ?_; refine Ex_ift (nI_lt (by omega) (by omega)) ?_; refine Ex_mv rfl rfl ?_; refine Ex_getf rfl (by assumption) rfl ?_; refine Ex_mv rfl rfl ?_; refine Ex_iald rfl (by assumption) (vp_in_nI (by omega) (by decide)) ?_
      rw [eg, h2]
      refine Ex_mv rfl rfl ?_; refine Ex_iff (not_not_intro (show nI 0 = 0 from rfl)) ?_; refine Ex_mv rfl rfl ?_; refine Ex_mv rfl rfl ?_
      exact Ex_rt rfl rfl ⟨rfl, rfl⟩
    · rw [if_neg h2]
      by_cases h3 : tg B x.1 x.2.1 i = t
      · rw [if_pos h3]
        refine Ex_mv rfl rfl ?_; refine Ex_mv rfl rfl ?_; refine Ex_iff hi0 ?_; refine Ex_mv rfl rfl ?_; refine Ex_mv rfl rfl ?_; refine Ex_getf rfl (by assumption) rfl ?_; refine Ex_mv rfl rfl ?_; refine Ex_ift (nI_lt (by omega) (by omega)) ?_; refine Ex_mv rfl rfl ?_; refine Ex_getf rfl (by assumption) rfl ?_; refine Ex_mv rfl rfl ?_; refine Ex_iald rfl (by assumption) (vp_in_nI (by omega) (by decide)) ?_
        rw [eg]
        refine Ex_mv rfl rfl ?_; refine Ex_ift (nI_nz h2 (by omega)) ?_; refine Ex_mv rfl rfl ?_; refine Ex_getf rfl (by assumption) rfl ?_; refine Ex_mv rfl rfl ?_; refine Ex_iald rfl (by assumption) (vp_in_nI (by omega) (by decide)) ?_
        rw [eg]
        refine Ex_mv rfl rfl ?_; refine Ex_mv rfl rfl ?_; refine Ex_ift (by rw [h3]) ?_; refine Ex_mv rfl rfl ?_
        exact Ex_rt rfl rfl ⟨rfl, rfl⟩
      · rw [if_neg h3]
        refine Ex_mv rfl rfl ?_; refine Ex_mv rfl rfl ?_; refine Ex_iff hi0 ?_; refine Ex_mv rfl rfl ?_; refine Ex_mv rfl rfl ?_; refine Ex_getf rfl (by assumption) rfl ?_; refine Ex_mv rfl rfl ?_; refine Ex_ift (nI_lt (by omega) (by omega)) ?_; refine Ex_mv rfl rfl ?_; refine Ex_getf rfl (by assumption) rfl ?_; refine Ex_mv rfl rfl ?_; refine Ex_iald rfl (by assumption) (vp_in_nI (by omega) (by decide)) ?_
        rw [eg]
        refine Ex_mv rfl rfl ?_; refine Ex_ift (nI_nz h2 (by omega)) ?_; refine Ex_mv rfl rfl ?_; refine Ex_getf rfl (by assumption) rfl ?_; refine Ex_mv rfl rfl ?_; refine Ex_iald rfl (by assumption) (vp_in_nI (by omega) (by decide)) ?_
        rw [eg]
        refine Ex_mv rfl rfl ?_; refine Ex_mv rfl rfl ?_; refine Ex_iff (fun z => h3 ((nI_eq (by omega) htt).mp z)) ?_; refine Ex_mv rfl rfl ?_; refine Ex_mv rfl rfl ?_
        exact Ex_rt rfl rfl ⟨rfl, rfl⟩
theorem c_MO_wrongPlaceN {h : Hp} {i t : Int32} (hi : i < 0) : Ev (prog nb sa) m_MO_wrongPlace [.ref f, .int i, .int t] h (some (.int (nI 8))) h := by
  refine Ev_ofL k_MO_wrongPlace 3 [some (.ref f), some (.int i), some (.int t)] rfl (Nat.le_of_ble_eq_true rfl) rfl ?_
  refine Ex_mv rfl rfl ?_; refine Ex_mv rfl rfl ?_; refine Ex_ift hi ?_; refine Ex_mv rfl rfl ?_; refine Ex_mv rfl rfl ?_
  exact Ex_rt rfl rfl ⟨rfl, rfl⟩
theorem wrg_le9 {S : Nat → Nat} {n i t : Nat} : wrg B S n i t ≤ 9 := by unfold wrg; split; omega; split; omega; split <;> omega
theorem c_MO_place {h : Hp} {s : Rt} (hs : RQ h m0 f a B s) (hF : HF mu h f (B, x)) (hn : x.2.1 ≤ 61) {p t : Nat} (hp : p + 1 < B.length) (htt : t < 2 ^ 31) : EvQ (prog nb sa) m_MO_place [.ref m0, .int (nI p), .int (nI t)] h (fun v h' => v = none ∧ RQ h' m0 f a B (pk1 B x.1 x.2.1 (p, t) s) ∧ FrI m0 (m0 + 1) h h') := by
  obtain ⟨b, hb, -⟩ := hF.hb
  have hb2 := b2_lt hF.lt.1 p
  obtain ⟨p0, j0, fp0, hc, -⟩ := id hs
  obtain ⟨⟨r, hf⟩, -⟩ := id hb
  have hw := c_MO_wrongPlace (nb := nb) (sa := sa) hF hn (i := b2 B p) (t := t) (by omega) htt
  refine EvQ_of k_MO_place 4 [some (.ref m0), some (.int (nI p)), some (.int (nI t)), none] rfl (Nat.le_of_ble_eq_true rfl) rfl ?_
  unfold pk1
  by_cases hz : wrg B x.1 x.2.1 (b2 B p) t = 0
  · rw [if_pos hz]
    rw [hz] at hw
    refine Ex_mv rfl rfl ?_; refine Ex_getf rfl (by assumption) rfl ?_; refine Ex_mv rfl rfl ?_; refine Ex_getf rfl (by assumption) rfl ?_; refine Ex_mv rfl rfl ?_; refine Ex_invV rfl (by rfl) (by rfl) (by assumption) (by rfl) (c_MH_two hb hp) ?_; refine Ex_mv rfl rfl ?_; refine Ex_inv rfl (by rfl) (by rfl) (by rfl) (hw) ?_; refine Ex_mv rfl rfl ?_; refine Ex_mv rfl rfl ?_; refine Ex_mv rfl rfl ?_; refine Ex_ift (by decide) ?_
    refine Ex_rt rfl rfl ?_
    exact ⟨rfl, hs, FrI.rf⟩
  · rw [if_neg hz]
    have h9 := wrg_le9 (B := B) (S := x.1) (n := x.2.1) (i := b2 B p) (t := t)
    obtain ⟨_, h1, e1, rfl, R1, F1⟩ := c_MO_fails (nb := nb) (sa := sa) hs (k := wrg B x.1 x.2.1 (b2 B p) t) (w := p) hz (by omega)
    refine Ex_mv rfl rfl ?_; refine Ex_getf rfl (by assumption) rfl ?_; refine Ex_mv rfl rfl ?_; refine Ex_getf rfl (by assumption) rfl ?_; refine Ex_mv rfl rfl ?_; refine Ex_invV rfl (by rfl) (by rfl) (by assumption) (by rfl) (c_MH_two hb hp) ?_; refine Ex_mv rfl rfl ?_; refine Ex_inv rfl (by rfl) (by rfl) (by rfl) (hw) ?_; refine Ex_mv rfl rfl ?_; refine Ex_mv rfl rfl ?_; refine Ex_mv rfl rfl ?_; refine Ex_iff (nI_ge (a := 0) (by omega) (by omega)) ?_; refine Ex_mv rfl rfl ?_; refine Ex_mv rfl rfl ?_; refine Ex_mv rfl rfl ?_; refine Ex_invV rfl (by rfl) (by rfl) (by assumption) (by rfl) (e1) ?_
    refine Ex_rt rfl rfl ?_
    exact ⟨rfl, R1, F1⟩
/-- names of attributes -/
theorem MO_names_loop {t u q c : Nat} {g : Nat → Int32} (hm : mu m0) (hn : x.2.1 ≤ 61) (hg : ∀ i, i < c → g i = nI (atP B i (q + 2))) (hG : AttG B c (q + 2)) (hc6 : c ≤ 6) : ∀ (d k : Nat) (h : Hp) (s : Rt), k + d = c → RQ h m0 f a B s → HF mu h f (B, x) → h.2.2 t = some (true, .inr (7, [.int (nI c), .ref u])) → h.2.2 u = some (true, .inl (1, 6, .inl g)) → okA mu h t → okA mu h u → Ex (prog nb sa) k_MO_names 2 [some (.ref m0), some (.ref t), some (.int (nI k))] [] h (fun v h' => v = none ∧ RQ h' m0 f a B (pks B x.1 x.2.1 (attT B d (atP B k (q + 2))) s) ∧ FrI m0 (m0 + 1) h h')
  | 0, k, h, s, hk, hs, hF, ht, hu, ot, ou => by
    refine Ex_mv rfl rfl ?_; refine Ex_mv rfl rfl ?_; refine Ex_getf rfl (by assumption) rfl ?_; refine Ex_mv rfl rfl ?_; refine Ex_ift (nI_le (by omega) (by omega)) ?_
    refine Ex_rt rfl rfl ?_
    exact ⟨rfl, hs, FrI.rf⟩
  | d + 1, k, h, s, hk, hs, hF, ht, hu, ot, ou => by
    have hG1 := AttG_at c (q + 2) k hG (by omega)
    have hl := hF.lt.2
    have eg : g (nI k).toNatClampNeg = nI (atP B k (q + 2)) := by rw [nI_clamp (by omega)]; exact hg k (by omega)
    obtain ⟨p0, j0, fp0, hc, -⟩ := id hs
    obtain ⟨_, h1, e1, rfl, R1, F1⟩ := c_MO_place (nb := nb) (sa := sa) hs hF hn (p := atP B k (q + 2)) (t := 1) (by omega) (by decide)
    have ih := MO_names_loop hm hn hg hG hc6 d (k + 1) h1 _ (by omega) R1 (hF.pf (F1.pfm hm)) ((F1.keep1 hm ot).trans ht) ((F1.keep1 hm ou).trans hu) (ot.pf (F1.pfm hm)) (ou.pf (F1.pfm hm))
    rw [atP_succ] at ih
    refine Ex_mv rfl rfl ?_; refine Ex_mv rfl rfl ?_; refine Ex_getf rfl (by assumption) rfl ?_; refine Ex_mv rfl rfl ?_; refine Ex_iff (nI_ge (by omega) (by omega)) ?_; refine Ex_mv rfl rfl ?_; refine Ex_mv rfl rfl ?_; refine Ex_getf rfl (by assumption) rfl ?_; refine Ex_mv rfl rfl ?_; refine Ex_iald rfl (by assumption) (vp_in_nI (by omega) (by decide)) ?_
    rw [eg]
    refine Ex_mv rfl rfl ?_; refine Ex_invV rfl (by rfl) (by rfl) (by assumption) (by rfl) (e1) ?_; (first | refine Ex_incN rfl rfl ?_ | refine Ex_mv rfl rfl ?_); refine Ex_mv rfl rfl ?_
    exact Ex_mono ih (fun v h' z => ⟨z.1, z.2.1, F1.tr z.2.2⟩)
theorem c_MO_names {h : Hp} {s : Rt} {t q : Nat} (hm : mu m0) (hn : x.2.1 ≤ 61) (hs : RQ h m0 f a B s) (hF : HF mu h f (B, x)) (hT : ATk mu h t B q) (hG : AttG B (b2 B q) (q + 2)) (hc6 : b2 B q ≤ 6) : EvQ (prog nb sa) m_MO_names [.ref m0, .ref t] h (fun v h' => v = none ∧ RQ h' m0 f a B (pks B x.1 x.2.1 (attT B (b2 B q) (q + 2)) s) ∧ FrI m0 (m0 + 1) h h') := by
  obtain ⟨u, g, h1, h2, h3, h4, h5⟩ := hT
  have ih := MO_names_loop (nb := nb) (sa := sa) (a := a) hm hn h3 hG hc6 (b2 B q) 0 h s (Nat.zero_add _) hs hF h1 h2 h4 h5
  refine EvQ_of k_MO_names 3 [some (.ref m0), some (.ref t), none] rfl (Nat.le_of_ble_eq_true rfl) rfl ?_
  refine Ex_mv rfl rfl ?_; refine Ex_mv rfl rfl ?_
  exact ih
end REFD
