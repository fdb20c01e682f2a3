/-! the other side: join, joined, meaning -/
abbrev muJ (m0 J : Nat) : Nat → Prop := fun q => muM m0 q ∨ q = J
section REFT
variable {nb sa : Nat} {m0 : Nat}
theorem c_MO_lay {f J : Nat} {B : List Nat} {x : Fs} {mu : Nat → Prop} {cl : List Value} {h : Hp} {M : List Mng} (hG : GG B x) (hJ : mu J) (hA : AR mu h J 152 M) (hs : SoM M) (hl : M.length ≤ 150) (hF : HF mu h f (B, x)) (hnb : BAk mu h nb []) (hmu : ∀ q, mu q → q < h.1) (hc : h.2.2 m0 = some (true, .inr (11, cl))) (hmJ : m0 ≠ J) (hm1 : m0 < h.1) : EvQ (prog nb sa) m_MO_lay [.ref m0, .ref f, .ref J, .int (nI M.length)] h (fun v h' => LyR mu h' J (addS B x.1 x.2.1 (x.2.1 - 1) 1 M) v ∧ FJ J h h' 60 300 ∧ ∃ g, h'.2.2 J = some (true, .inl (10, 152, .inr (.inr (.inr (.inr g)))))) := by
  have hn : x.2.1 ≤ 61 := hG.1.2.2.1
  have n1 := hG.1.1.2.2.2.2.2.2.2
  have lp := MO_lay_loop (nb := nb) (sa := sa) (a3 := nI M.length) hG hJ (x.2.1 - 1) 1 M h none none none (by omega) (by decide) (by decide) hA hs hl hF hnb hmu hc hmJ hm1
  refine EvQ_of k_MO_lay 9 [some (.ref m0), some (.ref f), some (.ref J), some (.int (nI M.length)), none, none, none, none, none] rfl (Nat.le_of_ble_eq_true rfl) rfl ?_
  refine Ex_mv rfl rfl ?_; refine Ex_mv rfl rfl ?_; refine Ex_mv rfl rfl ?_; refine Ex_mv rfl rfl ?_
  exact Ex_mono lp (fun v h' z => ⟨z.1, z.2.1.mono (by omega) (by omega), z.2.2⟩)
def JnR (mu : Nat → Prop) (h' : Hp) (J : Nat) (o : Option (List Mng)) (n : Nat) : Prop := match o with
  | none => n = 151
  | some M' => n = M'.length ∧ SoM M' ∧ M'.length ≤ 150 ∧ AR mu h' J 152 M'
theorem MO_join_loop {J : Nat} {FL : List Fl} {gF : Nat → Option Nat} {mu : Nat → Prop} {cl : List Value} (h1c : cl[1]? = some (.ref (m0 + 1))) (h2c : cl[2]? = some (.int (nI FL.length))) (hJ : mu J) (hl6 : FL.length ≤ 6) (hG : ∀ z ∈ FL, GG z.1 z.2) (hmJ : m0 ≠ J) (hmJ1 : m0 + 1 ≠ J) {R : Option Value → Hp → Prop} : ∀ (Lr : List Fl) (k : Nat) (M : List Mng) (h : Hp), k + Lr.length = FL.length → FL.drop k = Lr → AR mu h J 152 M → SoM M → M.length ≤ 150 → (∀ i z, FL[i]? = some z → ∃ f, gF i = some f ∧ HF mu h f z) → BAk mu h nb [] → (∀ q, mu q → q < h.1) → h.2.2 m0 = some (true, .inr (11, cl)) → h.2.2 (m0 + 1) = some (true, .inl (7, 6, .inr (.inr (.inr (.inr gF))))) → m0 + 1 < h.1 → (∀ (h' : Hp) (n' k' : Nat), JnR mu h' J (jnM Lr M) n' → FJ J h h' (60 * Lr.length) (300 * Lr.length) → Ex (prog nb sa) k_MO_join 50 [some (.ref m0), some (.ref J), some (.int (nI n')), some (.int (nI k'))] [] h' R) → Ex (prog nb sa) k_MO_join 16 [some (.ref m0), some (.ref J), some (.int (nI M.length)), some (.int (nI k))] [] h R
  | [], k, M, h, hk, hd, hA, hs, hl, hF, hnb, hmu, hc, hc1, hm1, K => by
    have f0 := K h M.length k ⟨rfl, hs, hl, hA⟩ FJ.rf
    have hk' : k = FL.length := by simpa using hk
    refine Ex_mv rfl rfl ?_; refine Ex_mv rfl rfl ?_; refine Ex_getf rfl hc h2c ?_; refine Ex_mv rfl rfl ?_; refine Ex_ift (nI_le (by omega) (by omega)) ?_
    exact f0
  | z :: Lr, k, M, h, hk, hd, hA, hs, hl, hF, hnb, hmu, hc, hc1, hm1, K => by
    have hk' : k + (Lr.length + 1) = FL.length := by simpa using hk
    have hz : FL[k]? = some z := by
      have := congrArg (fun l => l[0]?) hd
      simpa [List.getElem?_drop] using this
    have hdr : FL.drop (k + 1) = Lr := by
      have e5 : FL.drop (k + 1) = (FL.drop k).drop 1 := by rw [List.drop_drop]
      rw [e5, hd]; rfl
    have hGz := hG z (List.mem_of_getElem? hz)
    obtain ⟨f, f1, f2⟩ := hF k z hz
    have ef : gF (nI k).toNatClampNeg = some f := by rw [nI_clamp (by omega)]; exact f1
    obtain ⟨v, h2, e2, L2, F2, g2, J2⟩ := c_MO_lay (nb := nb) (sa := sa) hGz hJ hA hs hl f2 hnb hmu hc hmJ (by omega)
    have P2 : PF mu h h2 := F2.pf hJ
    unfold jnM at K
    have hc2 : h2.2.2 m0 = _ := (F2.2.2.2.2 m0 (by omega) hmJ).trans hc
    have hc21 : h2.2.2 (m0 + 1) = _ := (F2.2.2.2.2 (m0 + 1) hm1 hmJ1).trans hc1
    have walk : ∀ (n' : Nat) (R : Option Value → Hp → Prop), v = some (.int (nI n')) → Ex (prog nb sa) k_MO_join 16 [some (.ref m0), some (.ref J), some (.int (nI n')), some (.int (nI (k + 1)))] [] h2 R → Ex (prog nb sa) k_MO_join 16 [some (.ref m0), some (.ref J), some (.int (nI M.length)), some (.int (nI k))] [] h R := by
      intro n' R hv K2
      subst hv
      refine Ex_mv rfl rfl ?_; refine Ex_mv rfl rfl ?_; refine Ex_getf rfl hc h2c ?_; refine Ex_mv rfl rfl ?_; refine Ex_iff (nI_ge (by omega) (by omega)) ?_
      refine Ex_mv rfl rfl ?_; refine Ex_mv rfl rfl ?_; refine Ex_mv rfl rfl ?_; refine Ex_iff (nI_nlt (by omega) (by omega)) ?_
      refine Ex_mv rfl rfl ?_; refine Ex_mv rfl rfl ?_; refine Ex_getf rfl hc h1c ?_; refine Ex_mv rfl rfl ?_
      refine Ex_aald rfl hc1 rfl (vp_in_nI (by omega) (by decide)) ef ?_
      refine Ex_mv rfl rfl ?_; refine Ex_mv rfl rfl ?_
      refine Ex_invV rfl (by rfl) (by rfl) hc (by rfl) e2 ?_
      refine Ex_mv rfl rfl ?_; refine Ex_incN rfl rfl ?_; refine Ex_mv rfl rfl ?_
      exact K2
    cases ha : addS z.1 z.2.1 z.2.2.1 (z.2.2.1 - 1) 1 M with
    | none =>
      rw [ha] at L2 K
      refine walk 151 R L2 ?_
      have f0 := K h2 151 (k + 1) rfl (F2.mono (by simp; omega) (by simp; omega))
      by_cases hx : FL.length ≤ k + 1
      · refine Ex_mv rfl rfl ?_; refine Ex_mv rfl rfl ?_; refine Ex_getf rfl hc2 h2c ?_; refine Ex_mv rfl rfl ?_; refine Ex_ift (nI_le hx (by omega)) ?_
        exact f0
      · refine Ex_mv rfl rfl ?_; refine Ex_mv rfl rfl ?_; refine Ex_getf rfl hc2 h2c ?_; refine Ex_mv rfl rfl ?_; refine Ex_iff (nI_ge (by omega) (by omega)) ?_
        refine Ex_mv rfl rfl ?_; refine Ex_mv rfl rfl ?_; refine Ex_mv rfl rfl ?_; refine Ex_ift (by decide) ?_
        exact f0
    | some M' =>
      rw [ha] at L2 K
      obtain ⟨l1, l2, l3, l4⟩ := L2
      refine walk M'.length R l1 ?_
      refine MO_join_loop h1c h2c hJ hl6 hG hmJ hmJ1 Lr (k + 1) M' h2 (by omega) hdr l4 l2 l3 (fun i z hz => by
        obtain ⟨f, q1, q2⟩ := hF i z hz
        exact ⟨f, q1, q2.pf P2⟩) (hnb.pf P2) (fun q hq => Nat.lt_of_lt_of_le (hmu q hq) F2.1) hc2 hc21 (Nat.lt_of_lt_of_le hm1 F2.1) (fun h' n' k' z1 z2 => K h' n' k' z1 ((F2.tr z2).mono (by simp only [List.length_cons]; omega) (by simp only [List.length_cons]; omega)))
theorem c_MO_join {h : Hp} {s : Sg} {c : Nat} (hS : MOs h m0 nb sa s c) (hG : SgG s) : EvQ (prog nb sa) m_MO_join [.ref m0] h (fun v h' => v = some (.int (q_join s).1) ∧ MOs h' m0 nb sa (s.1, s.2.1, s.2.2.1, s.2.2.2.1, (q_join s).2) 0 ∧ FX m0 h h' 361 1952) := by
  obtain ⟨h1, k1, k2, k3⟩ := hS.code
  obtain ⟨O, J0, nw, a', fl, ms, od, oc, hc, hR⟩ := hS
  have hh := k1 _ _ _ _ _ _ _ _ hc
  obtain ⟨O', J0', nw', a2', fl', ms', od', oc', hc1, hR1⟩ := id k2
  have h7 := k2.h7
  have hl6 := hG.2.2.2.1
  obtain ⟨⟨gF, a1, a2⟩, -⟩ := id hR1
  refine EvQ_of k_MO_join 4 [some (.ref m0), none, none, none] rfl (Nat.le_of_ble_eq_true rfl) rfl ?_
  refine Ex_mv rfl rfl ?_; refine Ex_mv rfl rfl ?_; refine Ex_putf rfl hc rfl rfl ?_
  have hh' : hset h m0 (.inr (11, (MOl m0 c s O J0 nw a' fl ms od oc).set 0 (.int (nI 0)))) = h1 := hh.symm
  rw [hh']
  clear hh hh'
  refine Ex_mv rfl rfl ?_; refine Ex_newq rfl (vin (by decide)) ?_
  generalize hg : hnew h1 _ _ = h2
  have s1 : h2.1 = h1.1 + 1 := by rw [← hg]; rfl
  have s2 : h2.2.1 = h1.2.1 + 152 := by rw [← hg]; rfl
  have s3 : ∀ q, q < h1.1 → h2.2.2 q = h1.2.2 q := fun q hq => by rw [← hg]; exact if_neg (by omega)
  have s4 : h2.2.2 h1.1 = some (true, .inl (10, 152, .inr (.inr (.inr (.inr (fun _ => none)))))) := by rw [← hg]; exact hn_at
  clear hg
  refine Ex_mv rfl rfl ?_; refine Ex_mv rfl rfl ?_; refine Ex_mv rfl rfl ?_; refine Ex_mv rfl rfl ?_; refine Ex_mv rfl rfl ?_
  have P2 : PF (muM m0) h1 h2 := ⟨by omega, by omega, fun q hq => s3 q hq.1⟩
  have mo : ∀ t, okA (muM m0) h1 t → okA (muJ m0 h1.1) h2 t := fun t ht => ⟨by have := ht.1; omega, fun z => z.elim ht.2 (fun e => by have := ht.1; omega)⟩
  have mo1 : ∀ t, okA (muM m0) h1 t → okA (muJ m0 h1.1) h1 t := fun t ht => ⟨ht.1, fun z => z.elim ht.2 (fun e => by have := ht.1; omega)⟩
  have PJ : PF (muJ m0 h1.1) h1 h2 := ⟨by omega, by omega, fun q hq => s3 q hq.1⟩
  refine MO_join_loop (nb := nb) (sa := sa) (J := h1.1) (FL := s.2.2.1) (gF := gF) (mu := muJ m0 h1.1) (cl := MOl m0 0 s O' J0' nw' a2' fl' ms' od' oc') rfl rfl (Or.inr rfl) hl6 (fun z hz => hG.1 z hz) (by omega) (by omega) s.2.2.1 0 [] h2 (by omega) (by simp) ⟨_, s4, fun j m hj => by simp at hj⟩ trivial (Nat.zero_le _) (fun i z hz => by
    obtain ⟨f, q1, q2⟩ := a2 i z hz
    exact ⟨f, q1, (q2.mono mo1).pf PJ⟩) ((hR1.2.2.2.2.2.2.2.1.mono mo1).pf PJ) (fun q hq => by
      rcases hq with q1 | q1
      · simp only [muM] at q1; omega
      · omega) ((s3 _ (by omega)).trans hc1) ((s3 _ (by omega)).trans a1) (by omega) ?_
  intro h3 n' k' JR F3
  have old : ∀ q, q < h1.1 → h3.2.2 q = h1.2.2 q := fun q hq => (F3.2.2.2.2 q (by omega) (by omega)).trans (s3 q hq)
  have le1 : h1.1 ≤ h3.1 ∧ h1.2.1 ≤ h3.2.1 := ⟨by have := F3.1; omega, by have := F3.2.2.1; omega⟩
  have S3 := k2.grow le1.1 le1.2 old
  have hk36 : 60 * s.2.2.1.length ≤ 360 ∧ 300 * s.2.2.1.length ≤ 1800 := by omega
  have FX3 : FX m0 h h3 361 1952 := k3.tr (FX.gr le1.1 le1.2 old (by have := F3.2.1; have := k3.2.1; omega) (by have := F3.2.2.2.1; have := k3.2.2; omega) : FX m0 h1 h3 361 1952)
  unfold q_join
  cases hj : jnM s.2.2.1 [] with
  | none =>
    rw [hj] at JR
    have e : n' = 151 := JR
    subst e
    refine Ex_mv rfl rfl ?_; refine Ex_mv rfl rfl ?_; refine Ex_mv rfl rfl ?_; refine Ex_iff (by decide) ?_; refine Ex_mv rfl rfl ?_
    refine Ex_rt rfl rfl ?_
    exact ⟨rfl, S3, FX3⟩
  | some M' =>
    rw [hj] at JR
    obtain ⟨e, j2, j3, gJ, j4, j5⟩ := JR
    subst e
    have hc3 : h3.2.2 m0 = _ := (old m0 (by omega)).trans hc1
    have hR3 : MOr h3 m0 nb sa s O' J0' := hR1.eq ⟨le1.1, le1.2, fun q hq => old q hq.1⟩ (old _ (by omega)) (old _ (by omega)) (old _ (by omega)) (old _ (by omega))
    have okJ : okA (muM m0) h3 h1.1 := ⟨by have := F3.1; omega, fun z => by simp only [muM] at z; omega⟩
    have hML : MLs (muM m0) h3 h1.1 M' := ⟨152, gJ, j4, okJ, by omega, Nat.le_refl _, fun j m hm => by
      obtain ⟨u, q1, q2⟩ := j5 j m hm
      exact ⟨u, q1, q2.mono (fun t ht => ⟨ht.1, fun z => ht.2 (Or.inl z)⟩)⟩⟩
    have hR4 : MOr h3 m0 nb sa (s.1, s.2.1, s.2.2.1, s.2.2.2.1, M') O' h1.1 := by
      obtain ⟨x1, x2, x3, x4, x5⟩ := hR3
      exact ⟨x1, x2, x3, hML, x5⟩
    have S4 : MOs (hset h3 m0 (.inr (11, MOl m0 0 (s.1, s.2.1, s.2.2.1, s.2.2.2.1, M') O' h1.1 nw' a2' fl' ms' od' oc'))) m0 nb sa (s.1, s.2.1, s.2.2.1, s.2.2.2.1, M') 0 := ⟨O', h1.1, nw', a2', fl', ms', od', oc', hs_at, hR4.m0⟩
    have eh : hset (hset h3 m0 (.inr (11, (MOl m0 0 s O' J0' nw' a2' fl' ms' od' oc').set 10 (.ref h1.1)))) m0 (.inr (11, ((MOl m0 0 s O' J0' nw' a2' fl' ms' od' oc').set 10 (.ref h1.1)).set 11 (.int (nI M'.length)))) = hset h3 m0 (.inr (11, MOl m0 0 (s.1, s.2.1, s.2.2.1, s.2.2.2.1, M') O' h1.1 nw' a2' fl' ms' od' oc')) := by
      unfold hset
      refine Prod.ext rfl (Prod.ext rfl (funext fun q => ?_))
      show (if q = m0 then _ else (if q = m0 then _ else _)) = (if q = m0 then _ else _)
      by_cases e : q = m0
      · rw [if_pos e, if_pos e]; rfl
      · rw [if_neg e, if_neg e, if_neg e]
    refine Ex_mv rfl rfl ?_; refine Ex_mv rfl rfl ?_; refine Ex_mv rfl rfl ?_; refine Ex_ift (nI_le (by omega) (by omega)) ?_; refine Ex_mv rfl rfl ?_; refine Ex_mv rfl rfl ?_; refine Ex_putf rfl hc3 rfl rfl ?_; refine Ex_mv rfl rfl ?_; refine Ex_mv rfl rfl ?_; refine Ex_putf rfl hs_at rfl rfl ?_; refine Ex_mv rfl rfl ?_
    refine Ex_rt rfl rfl ?_
    rw [eh]; exact ⟨rfl, S4, FX3.set (Or.inl rfl)⟩
end REFT
