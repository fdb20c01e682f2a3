/-! the other side: writing, its steps -/
theorem lowb_sb : ∀ c, c < 256 → lowb (sb_b c) = c := by decide +kernel
theorem tw2_low {a : Nat} (ha : a < 65536) : [lowb (nI a >>> (nI 8 &&& 31)), lowb (nI a)] = tw2 a := by
  rw [pk_shrN (by omega) _ 8 (by decide), lowb_nI, lowb_nI]
  unfold tw2
  rw [show a / 2 ^ 8 % 256 = a / 256 by omega]
theorem pre_mng {B : List Nat} {S : Nat → Nat} {n : Nat} : ∀ M : List Mng, (∀ m ∈ M, ∃ j, tg B S n j ≠ 0 ∧ m = mng B S n j) → ∃ P : List Nat, P.map (mng B S n) = M ∧ ∀ i ∈ P, tg B S n i ≠ 0
  | [], _ => ⟨[], rfl, fun i hi => by cases hi⟩
  | m :: M, h => by
    obtain ⟨j, j1, j2⟩ := h m List.mem_cons_self
    obtain ⟨P, p1, p2⟩ := pre_mng M (fun m' hm => h m' (List.mem_cons_of_mem _ hm))
    refine ⟨j :: P, by rw [List.map_cons, p1, j2], fun i hi => ?_⟩
    rcases List.mem_cons.mp hi with e | e
    · rw [e]; exact j1
    · exact p2 i e
theorem wB_len {z : Fl} (hG : GG z.1 z.2) (hB : ∀ y ∈ z.1, y < 256) : (wB z).length ≤ z.1.length := by
  obtain ⟨a1, a2, a3, a4⟩ := wMs_ok hG
  obtain ⟨P, p1, p2⟩ := pre_mng (wMs z) a4
  obtain ⟨w1, w2, w3, w4⟩ := wP hG p1
  have hbh := hG.bh_le
  have hX : sl z.1 0 8 ++ ([hpM (wMs z) (wMs z).length / 256, hpM (wMs z) (wMs z).length % 256] ++ (eOs z.1 z.2.1 z.2.2.1 (mvP (wMs z) z.1 z.2.1 z.2.2.1) P ++ pR z.1 (mvP (wMs z) z.1 z.2.1 z.2.2.1) z.2.2.2.1 (tB z.2.2.2.2.2.2.2 z.2.2.2.1) (sl z.1 z.2.2.2.1 (z.1.length - z.2.2.2.1)))) = wB z := by
    unfold wB
    rw [eOs_M hG hB (wMs z) (fun i hi => (w2 i hi).1), p1, tB_eq hG.1]
    have := pR_out (mv := mvP (wMs z) z.1 z.2.1 z.2.2.1) (bh := z.2.2.2.1) ((bT z.1 z.2.2.2.1).map (·.1)) z.2.2.2.1 [] (bT_inc hG.1) (Nat.le_refl _) (by simp)
    rw [List.nil_append, List.nil_append] at this
    rw [this, tok_all hG.1]
    rfl
  rw [← hX]
  simp only [List.length_append, List.length_cons, List.length_nil]
  rw [sl_len (by omega), eOs_len (g := fun j => nI (mvP (wMs z) z.1 z.2.1 z.2.2.1 j)) _ (fun i hi => wOk_of hG (fun j _ _ => rfl) (w2 i hi).1), pR_len, sl_len (by omega)]
  omega
/-- what stays while a file is written -/
def FW (m0 : Nat) (h h' : Hp) (c s : Nat) : Prop := h.1 ≤ h'.1 ∧ h'.1 ≤ h.1 + c ∧ h.2.1 ≤ h'.2.1 ∧ h'.2.1 ≤ h.2.1 + s ∧ ∀ q, q < h.1 → q ≠ m0 → q ≠ m0 + 5 → h'.2.2 q = h.2.2 q
theorem FW.tr {m0 : Nat} {h h1 h2 : Hp} {c s c' s' : Nat} (u : FW m0 h h1 c s) (v : FW m0 h1 h2 c' s') : FW m0 h h2 (c + c') (s + s') := by
  obtain ⟨u1, u2, u3, u4, u5⟩ := u
  obtain ⟨v1, v2, v3, v4, v5⟩ := v
  exact ⟨by omega, by omega, by omega, by omega, fun q g1 g2 g3 => (v5 q (by omega) g2 g3).trans (u5 q g1 g2 g3)⟩
theorem FW.mono {m0 : Nat} {h h1 : Hp} {c s c' s' : Nat} (u : FW m0 h h1 c s) (h1' : c ≤ c') (h2 : s ≤ s') : FW m0 h h1 c' s' := by
  obtain ⟨u1, u2, u3, u4, u5⟩ := u
  exact ⟨by omega, by omega, by omega, by omega, u5⟩
theorem FW.rf {m0 : Nat} {h : Hp} : FW m0 h h 0 0 := ⟨Nat.le_refl _, by omega, Nat.le_refl _, by omega, fun _ _ _ _ => rfl⟩
theorem FW.pf {m0 : Nat} {h h' : Hp} {c s : Nat} (u : FW m0 h h' c s) : PF (muM m0) h h' := ⟨u.1, u.2.2.1, fun q hq => u.2.2.2.2 q hq.1 (fun e => hq.2 (by simp [muM, e])) (fun e => hq.2 (by simp [muM, e]))⟩
def WS (h : Hp) (m0 : Nat) (s : Sg) (O J : Nat) (nw : Value) (a' fl : Int32) (Jo n : Nat) (X : List Nat) : Prop := h.2.2 m0 = some (true, .inr (11, MOl m0 0 s O J nw a' fl (nI X.length) (.ref Jo) (nI n))) ∧ (∃ g, h.2.2 (m0 + 5) = some (true, .inl (0, 408, .inl g)) ∧ ∀ j, j < X.length → g j = sb_b (X.getD j 0)) ∧ (X.length ≤ 408 ∧ ∀ y ∈ X, y < 256) ∧ m0 + 8 ≤ h.1
/-- the order and the new places -/
def OE (h : Hp) (m0 nb f : Nat) (B : List Nat) (x : Fs) (Jo : Nat) (M : List Mng) : Prop := HF (muM m0) h f (B, x) ∧ BAk (muM m0) h nb [] ∧ MLs (muM m0) h Jo M ∧ (∃ g, h.2.2 (m0 + 6) = some (true, .inl (1, 152, .inl g)) ∧ ∀ k, k < M.length → g k = nI (hpM M k)) ∧ m0 + 8 ≤ h.1
theorem OE.fw {h h' : Hp} {m0 nb f : Nat} {B : List Nat} {x : Fs} {Jo : Nat} {M : List Mng} {c s : Nat} (a : OE h m0 nb f B x Jo M) (F : FW m0 h h' c s) : OE h' m0 nb f B x Jo M := by
  obtain ⟨a1, a2, a3, ⟨g, a4, a5⟩, a6⟩ := a
  exact ⟨a1.pf F.pf, a2.pf F.pf, a3.pf F.pf, ⟨g, (F.2.2.2.2 _ (by omega) (by omega) (by omega)).trans a4, a5⟩, Nat.le_trans a6 F.1⟩
theorem WS.gr {h h' : Hp} {m0 : Nat} {s : Sg} {O J : Nat} {nw : Value} {a' fl : Int32} {Jo n : Nat} {X : List Nat} {c k : Nat} (a : WS h m0 s O J nw a' fl Jo n X) (F : Gw h h' c k) : WS h' m0 s O J nw a' fl Jo n X := by
  obtain ⟨a1, ⟨g, a2, a3⟩, a4, a5⟩ := a
  exact ⟨(F.2.2.2.2 _ (by omega)).trans a1, ⟨g, (F.2.2.2.2 _ (by omega)).trans a2, a3⟩, a4, Nat.le_trans a5 F.1⟩
theorem Gw.fw {h h' : Hp} {c s m0 : Nat} (F : Gw h h' c s) : FW m0 h h' c s := ⟨F.1, F.2.1, F.2.2.1, F.2.2.2.1, fun q h1 _ _ => F.2.2.2.2 q h1⟩
section REFY
variable {nb sa : Nat} {m0 f : Nat} {h : Hp} {s : Sg} {O J : Nat} {nw : Value} {a' fl : Int32} {Jo n : Nat} {X : List Nat}
theorem c_MO_add (hW : WS h m0 s O J nw a' fl Jo n X) (hX : X.length < 408) (v : Int32) : EvQ (prog nb sa) m_MO_add [.ref m0, .int v] h (fun r h' => r = none ∧ WS h' m0 s O J nw a' fl Jo n (X ++ [lowb v]) ∧ FW m0 h h' 0 0) := by
  obtain ⟨hc, ⟨g, g1, g2⟩, ⟨hl, hby⟩, h7⟩ := hW
  have eu : (nI X.length).toNatClampNeg = X.length := nI_clamp (by omega)
  have c2 : ∀ z, (hset h (m0 + 5) z).2.2 m0 = _ := fun z => hs_ne (by omega) hc
  have hW2 : WS (hset (hset h (m0 + 5) (.inl (0, 408, .inl (upd g X.length (sb_b (lowb v)))))) m0 (.inr (11, MOl m0 0 s O J nw a' fl (nI (X ++ [lowb v]).length) (.ref Jo) (nI n)))) m0 s O J nw a' fl Jo n (X ++ [lowb v]) := by
    refine ⟨hs_at, ⟨_, hs_ne (by omega) hs_at, fun j hj => ?_⟩, ⟨by simp; omega, fun y hy => (List.mem_append.mp hy).elim (hby y) (fun z => by rw [List.mem_singleton.mp z]; exact lowb_lt v)⟩, h7⟩
    rw [List.length_append, List.length_singleton] at hj
    by_cases e : j = X.length
    · rw [e, pk_us, List.getD_eq_getElem?_getD, List.getElem?_append_right (Nat.le_refl _)]; simp
    · rw [pk_un e, g2 j (by omega), List.getD_eq_getElem?_getD, List.getD_eq_getElem?_getD, List.getElem?_append_left (by omega)]
  have FF : FW m0 h (hset (hset h (m0 + 5) (.inl (0, 408, .inl (upd g X.length (sb_b (lowb v)))))) m0 (.inr (11, MOl m0 0 s O J nw a' fl (nI (X ++ [lowb v]).length) (.ref Jo) (nI n)))) 0 0 := ⟨Nat.le_refl _, Nat.le_refl _, Nat.le_refl _, Nat.le_refl _, fun q _ q1 q2 => (if_neg q1).trans (if_neg q2)⟩
  have el : MOl m0 0 s O J nw a' fl (nI (X ++ [lowb v]).length) (.ref Jo) (nI n) = (MOl m0 0 s O J nw a' fl (nI X.length) (.ref Jo) (nI n)).set 13 (.int (nI (X.length + 1))) := by simp [MOl]
  rw [el] at hW2 FF
  refine EvQ_of k_MO_add 2 [some (.ref m0), some (.int v)] rfl (Nat.le_of_ble_eq_true rfl) rfl ?_
  refine Ex_mv rfl rfl ?_; refine Ex_getf rfl hc rfl ?_; refine Ex_mv rfl rfl ?_; refine Ex_getf rfl hc rfl ?_; refine Ex_mv rfl rfl ?_; refine Ex_mv rfl rfl ?_; refine Ex_bast rfl g1 (vp_in_nI (by omega) (by decide)) ?_; refine Ex_mv rfl rfl ?_; refine Ex_mv rfl rfl ?_; refine Ex_getf rfl (c2 _) rfl ?_; refine Ex_mv rfl rfl ?_; (first | refine Ex_addN rfl ?_ | refine Ex_mv rfl rfl ?_); refine Ex_putf rfl (c2 _) rfl rfl ?_
  refine Ex_rt rfl rfl ?_
  rw [sb_low2, eu]; exact ⟨rfl, hW2, FF⟩
theorem c_MO_addTwoI (hW : WS h m0 s O J nw a' fl Jo n X) (hX : X.length + 2 ≤ 408) (v : Int32) : EvQ (prog nb sa) m_MO_addTwo [.ref m0, .int v] h (fun r h' => r = none ∧ WS h' m0 s O J nw a' fl Jo n (X ++ [lowb (v >>> (nI 8 &&& 31)), lowb v]) ∧ FW m0 h h' 0 0) := by
  obtain ⟨_, h1, e1, rfl, W1, F1⟩ := c_MO_add (nb := nb) (sa := sa) hW (by omega) (v >>> (nI 8 &&& 31))
  obtain ⟨_, h2, e2, rfl, W2, F2⟩ := c_MO_add (nb := nb) (sa := sa) W1 (by simp; omega) v
  have hc := hW.1
  have hc1 := W1.1
  rw [List.append_assoc] at W2
  refine EvQ_of k_MO_addTwo 2 [some (.ref m0), some (.int v)] rfl (Nat.le_of_ble_eq_true rfl) rfl ?_
  refine Ex_mv rfl rfl ?_; refine Ex_mv rfl rfl ?_; refine Ex_mv rfl rfl ?_; refine Ex_ishr rfl ?_; refine Ex_invV rfl (by rfl) (by rfl) hc (by rfl) (e1) ?_; refine Ex_mv rfl rfl ?_; refine Ex_mv rfl rfl ?_; refine Ex_invV rfl (by rfl) (by rfl) hc1 (by rfl) (e2) ?_
  refine Ex_rt rfl rfl ?_
  exact ⟨rfl, W2, F1.tr F2⟩
theorem c_MO_addTwo (hW : WS h m0 s O J nw a' fl Jo n X) (hX : X.length + 2 ≤ 408) {v : Nat} (hv : v < 65536) : EvQ (prog nb sa) m_MO_addTwo [.ref m0, .int (nI v)] h (fun r h' => r = none ∧ WS h' m0 s O J nw a' fl Jo n (X ++ tw2 v) ∧ FW m0 h h' 0 0) := by
  have := c_MO_addTwoI (nb := nb) (sa := sa) hW hX (nI v)
  rw [tw2_low hv] at this
  exact this
theorem c_MO_addFour (hW : WS h m0 s O J nw a' fl Jo n X) (hX : X.length + 4 ≤ 408) (v : Int32) : EvQ (prog nb sa) m_MO_addFour [.ref m0, .int v] h (fun r h' => r = none ∧ WS h' m0 s O J nw a' fl Jo n (X ++ f4 v) ∧ FW m0 h h' 0 0) := by
  obtain ⟨_, h1, e1, rfl, W1, F1⟩ := c_MO_addTwoI (nb := nb) (sa := sa) hW (by omega) (v >>> (nI 16 &&& 31))
  obtain ⟨_, h2, e2, rfl, W2, F2⟩ := c_MO_addTwoI (nb := nb) (sa := sa) W1 (by simp; omega) v
  have hc := hW.1
  have hc1 := W1.1
  rw [List.append_assoc] at W2
  refine EvQ_of k_MO_addFour 2 [some (.ref m0), some (.int v)] rfl (Nat.le_of_ble_eq_true rfl) rfl ?_
  refine Ex_mv rfl rfl ?_; refine Ex_mv rfl rfl ?_; refine Ex_mv rfl rfl ?_; refine Ex_ishr rfl ?_; refine Ex_invV rfl (by rfl) (by rfl) hc (by rfl) (e1) ?_; refine Ex_mv rfl rfl ?_; refine Ex_mv rfl rfl ?_; refine Ex_invV rfl (by rfl) (by rfl) hc1 (by rfl) (e2) ?_
  refine Ex_rt rfl rfl ?_
  exact ⟨rfl, W2, F1.tr F2⟩
theorem MO_addBytes_loop {t p k : Nat} {T : List Nat} (hp : p + k ≤ T.length) : ∀ (d i : Nat) (h : Hp) (X : List Nat), i + d = k → WS h m0 s O J nw a' fl Jo n X → X.length + d ≤ 408 → BAk (muM m0) h t T → Ex (prog nb sa) k_MO_addBytes 3 [some (.ref m0), some (.ref t), some (.int (nI p)), some (.int (nI k)), some (.int (nI i))] [] h (fun r h' => r = none ∧ WS h' m0 s O J nw a' fl Jo n (X ++ sl T (p + i) d) ∧ FW m0 h h' 0 0)
  | 0, i, h, X, hi, hW, hX, hT => by
    obtain ⟨⟨w, g, t1, t2, t3, t4⟩, t5⟩ := hT
    rw [sl_nil, List.append_nil]
    refine Ex_mv rfl rfl ?_; refine Ex_mv rfl rfl ?_; refine Ex_mv rfl rfl ?_; refine Ex_ift (nI_le (by omega) (by omega)) ?_
    refine Ex_rt rfl rfl ?_
    exact ⟨rfl, hW, FW.rf⟩
  | d + 1, i, h, X, hi, hW, hX, hT => by
    obtain ⟨⟨w, g, t1, t2, t3, t4⟩, t5⟩ := id hT
    have eg : g (nI (p + i)).toNatClampNeg = sb_b (b1 T (p + i)) := BA.get (T := T) t2 t4 (by omega)
    have hb := b1_lt t3 (p + i)
    obtain ⟨_, h1, e1, rfl, W1, F1⟩ := c_MO_add (nb := nb) (sa := sa) hW (by omega) (sb_b (b1 T (p + i)))
    rw [lowb_sb _ hb] at W1
    have ih := MO_addBytes_loop hp d (i + 1) h1 _ (by omega) W1 (by simp; omega) (hT.pf F1.pf)
    rw [List.append_assoc, List.singleton_append, show p + (i + 1) = p + i + 1 from rfl, ← sl_cons (by omega)] at ih
    have hc := hW.1
    refine Ex_mv rfl rfl ?_; refine Ex_mv rfl rfl ?_; refine Ex_mv rfl rfl ?_; refine Ex_iff (nI_ge (by omega) (by omega)) ?_; refine Ex_mv rfl rfl ?_; refine Ex_mv rfl rfl ?_; refine Ex_mv rfl rfl ?_; refine Ex_mv rfl rfl ?_; (first | refine Ex_addN rfl ?_ | refine Ex_mv rfl rfl ?_); refine Ex_iald rfl t1 (vp_in_nI (by omega) (by omega)) ?_
    rw [eg]
    refine Ex_invV rfl (by rfl) (by rfl) hc (by rfl) (e1) ?_; (first | refine Ex_incN rfl rfl ?_ | refine Ex_mv rfl rfl ?_); refine Ex_mv rfl rfl ?_
    exact Ex_mono ih (fun r h' z => ⟨z.1, z.2.1, F1.tr z.2.2⟩)
theorem c_MO_addBytes {t p k : Nat} {T : List Nat} (hW : WS h m0 s O J nw a' fl Jo n X) (hT : BAk (muM m0) h t T) (hp : p + k ≤ T.length) (hX : X.length + k ≤ 408) : EvQ (prog nb sa) m_MO_addBytes [.ref m0, .ref t, .int (nI p), .int (nI k)] h (fun r h' => r = none ∧ WS h' m0 s O J nw a' fl Jo n (X ++ sl T p k) ∧ FW m0 h h' 0 0) := by
  have lp := MO_addBytes_loop (nb := nb) (sa := sa) hp k 0 h X (Nat.zero_add _) hW hX hT
  refine EvQ_of k_MO_addBytes 5 [some (.ref m0), some (.ref t), some (.int (nI p)), some (.int (nI k)), none] rfl (Nat.le_of_ble_eq_true rfl) rfl ?_
  refine Ex_mv rfl rfl ?_; refine Ex_mv rfl rfl ?_
  exact lp
variable {B : List Nat} {x : Fs} {M : List Mng}
theorem MLs.ar {mu : Nat → Prop} {J : Nat} (hM : MLs mu h J M) : ∃ JL, AR mu h J JL M ∧ M.length ≤ JL ∧ JL ≤ 152 ∧ okA mu h J := by
  obtain ⟨JL, g, h1, h2, h3, h4, h5⟩ := hM
  exact ⟨JL, ⟨g, h1, h5⟩, h3, h4, h2⟩
theorem c_MO_moved (hW : WS h m0 s O J nw a' fl Jo M.length X) (hE : OE h m0 nb f B x Jo M) (hG : GG B x) (hs : SoM M) {i : Nat} (hi : i < 2 ^ 31) (ht : i = 0 ∨ tg B x.1 x.2.1 i ≠ 0 ∧ mng B x.1 x.2.1 i ∈ M) : EvQ (prog nb sa) m_MO_moved [.ref m0, .ref f, .int (nI i)] h (fun r h' => r = some (.int (nI (mvP M B x.1 x.2.1 i))) ∧ Gw h h' 1 5) := by
  obtain ⟨hF, hnb, hM, ⟨g, n1, n2⟩, h7⟩ := hE
  have hc := hW.1
  refine EvQ_of k_MO_moved 3 [some (.ref m0), some (.ref f), some (.int (nI i))] rfl (Nat.le_of_ble_eq_true rfl) rfl ?_
  unfold mvP
  by_cases i0 : i = 0
  · subst i0
    have h0 : x.1 0 = 0 := hG.1.1.1
    have t0 : tg B x.1 x.2.1 0 = 0 := by
      have e : st x.1 x.2.1 0 = 0 := by unfold st; split <;> first | exact h0 | rfl
      unfold tg; rw [if_pos e]
    rw [if_pos t0]
    refine Ex_mv rfl rfl ?_; refine Ex_mv rfl rfl ?_; refine Ex_iff (not_not_intro (show nI 0 = 0 from rfl)) ?_; refine Ex_mv rfl rfl ?_; refine Ex_mv rfl rfl ?_
    refine Ex_rt rfl rfl ?_
    exact ⟨rfl, Gw.rf.mono (by omega) (by omega)⟩
  · obtain ⟨t1, t2⟩ := ht.elim (fun z => absurd z i0) id
    rw [if_neg t1]
    obtain ⟨_, h1, e1, rfl, G1, s1, s2, s3⟩ := c_MO_meaningOf (nb := nb) (sa := sa) (m0 := m0) hF hG hnb (fun q hq => muM_lt h7 hq) (i := i) t1
    have W1 : Gw h h1 1 5 := ⟨by omega, by omega, by omega, by omega, s3⟩
    obtain ⟨JL, hA, l1, l2, l3⟩ := (hM.pf W1.pf).ar
    have fd := c_MO_find (nb := nb) (sa := sa) hA l1 l2 G1 hs
    have hlow := lowM_le M (mng B x.1 x.2.1 i)
    have hlt : lowM M (mng B x.1 x.2.1 i) < M.length := (List.getElem?_eq_some_iff.mp (lowM_has M hs t2)).1
    unfold fdI at fd
    rw [if_pos t2] at fd
    have eg : g (nI (lowM M (mng B x.1 x.2.1 i))).toNatClampNeg = nI (hpM M (lowM M (mng B x.1 x.2.1 i))) := by rw [nI_clamp (by omega)]; exact n2 _ hlt
    have n11 : h1.2.2 (m0 + 6) = _ := (s3 _ (by omega)).trans n1
    refine Ex_mv rfl rfl ?_; refine Ex_mv rfl rfl ?_; refine Ex_ift (nI_nz i0 hi) ?_; refine Ex_mv rfl rfl ?_; refine Ex_getf rfl hc rfl ?_; refine Ex_mv rfl rfl ?_; refine Ex_getf rfl hc rfl ?_; refine Ex_mv rfl rfl ?_; refine Ex_getf rfl hc rfl ?_; refine Ex_mv rfl rfl ?_; refine Ex_mv rfl rfl ?_; refine Ex_mv rfl rfl ?_; refine Ex_invV rfl (by rfl) (by rfl) hc (by rfl) (e1) ?_; refine Ex_inv rfl (by rfl) (by rfl) (by rfl) (fd) ?_; refine Ex_iald rfl n11 (vp_in_nI (by omega) (by decide)) ?_
    refine Ex_rt rfl rfl ?_
    exact ⟨by rw [eg], W1⟩
theorem c_MO_placeOf {ta tb t : Nat} {A Bb : List Nat} (hW : WS h m0 s O J nw a' fl Jo M.length X) (hnb : BAk (muM m0) h nb []) (hM : MLs (muM m0) h Jo M) (hN : ∃ g, h.2.2 (m0 + 6) = some (true, .inl (1, 152, .inl g)) ∧ ∀ k, k < M.length → g k = nI (hpM M k)) (hs : SoM M) (ha : BAk (muM m0) h ta A) (hb : BAk (muM m0) h tb Bb) (ht : t < 256) (hm : (t, 0, A, Bb, []) ∈ M) : EvQ (prog nb sa) m_MO_placeOf [.ref m0, .int (nI t), .ref ta, .ref tb] h (fun r h' => r = some (.int (nI (plM M (t, 0, A, Bb, [])))) ∧ Gw h h' 1 5) := by
  obtain ⟨g, n1, n2⟩ := hN
  have hc := hW.1
  have h7 := hW.2.2.2
  obtain ⟨_, h1, e1, rfl, N1⟩ := c_MM_init (nb := nb) (sa := sa) (h := h) (h2 := hnew h 5 (.inr (9, [.int 0, .long 0, .null, .null, .null]))) ⟨rfl, rfl, fun q hq => if_neg (by omega), if_pos rfl⟩
  have N4 := ((N1.set [.int (nI t), .long 0, .ref nb, .ref nb, .ref nb]).set [.int (nI t), .long 0, .ref ta, .ref nb, .ref nb]).set [.int (nI t), .long 0, .ref ta, .ref tb, .ref nb]
  have cu := N1.2.2.2
  have G4 := MGk.pf (mu := muM m0) (u := h.1) (m := (t, 0, A, Bb, [])) ⟨ta, tb, nb, N4.2.2.2, ha.pf N4.pf, hb.pf N4.pf, hnb.pf N4.pf, ⟨by rw [N4.1]; omega, fun z => by simp only [muM] at z; omega⟩, ht⟩ PF.rf
  have W4 : Gw h _ 1 5 := ⟨by rw [N4.1]; omega, by rw [N4.1]; omega, by rw [N4.2.1]; omega, by rw [N4.2.1]; omega, N4.2.2.1⟩
  obtain ⟨JL, hA, l1, l2, l3⟩ := (hM.pf W4.pf).ar
  have fd := c_MO_find (nb := nb) (sa := sa) hA l1 l2 G4 hs
  have hlt : lowM M (t, 0, A, Bb, []) < M.length := (List.getElem?_eq_some_iff.mp (lowM_has M hs hm)).1
  unfold fdI at fd
  rw [if_pos hm] at fd
  have eg : g (nI (lowM M (t, 0, A, Bb, []))).toNatClampNeg = nI (hpM M (lowM M (t, 0, A, Bb, []))) := by rw [nI_clamp (by omega)]; exact n2 _ hlt
  have n14 : (hset (hset (hset h1 h.1 (.inr (9, [.int (nI t), .long 0, .ref nb, .ref nb, .ref nb]))) h.1 (.inr (9, [.int (nI t), .long 0, .ref ta, .ref nb, .ref nb]))) h.1 (.inr (9, [.int (nI t), .long 0, .ref ta, .ref tb, .ref nb]))).2.2 (m0 + 6) = _ := (W4.2.2.2.2 _ (by omega)).trans n1
  have hc4 : (hset (hset (hset h1 h.1 (.inr (9, [.int (nI t), .long 0, .ref nb, .ref nb, .ref nb]))) h.1 (.inr (9, [.int (nI t), .long 0, .ref ta, .ref nb, .ref nb]))) h.1 (.inr (9, [.int (nI t), .long 0, .ref ta, .ref tb, .ref nb]))).2.2 m0 = _ := (W4.2.2.2.2 _ (by omega)).trans hc
  refine EvQ_of k_MO_placeOf 5 [some (.ref m0), some (.int (nI t)), some (.ref ta), some (.ref tb), none] rfl (Nat.le_of_ble_eq_true rfl) rfl ?_
  refine Ex_new rfl ?_; refine Ex_mv rfl rfl ?_; refine Ex_invI rfl (by rfl) (by rfl) (by rfl) (e1) ?_; refine Ex_mv rfl rfl ?_; refine Ex_mv rfl rfl ?_; refine Ex_mv rfl rfl ?_; refine Ex_putf rfl cu rfl rfl ?_; refine Ex_mv rfl rfl ?_; refine Ex_mv rfl rfl ?_; refine Ex_putf rfl hs_at rfl rfl ?_; refine Ex_mv rfl rfl ?_; refine Ex_mv rfl rfl ?_; refine Ex_putf rfl hs_at rfl rfl ?_; refine Ex_mv rfl rfl ?_; refine Ex_getf rfl hc4 rfl ?_; refine Ex_mv rfl rfl ?_; refine Ex_getf rfl hc4 rfl ?_; refine Ex_mv rfl rfl ?_; refine Ex_getf rfl hc4 rfl ?_; refine Ex_mv rfl rfl ?_; refine Ex_inv rfl (by rfl) (by rfl) (by rfl) (fd) ?_; refine Ex_iald rfl n14 (vp_in_nI (by omega) (by decide)) ?_
  refine Ex_rt rfl rfl ?_
  exact ⟨by rw [eg]; rfl, W4⟩
end REFY
