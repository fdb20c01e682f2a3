/-! join, joined, meaning, alike -/
noncomputable def jnM : List Fl → List Mng → Option (List Mng)
  | [], M => some M
  | z :: r, M => match addS z.1 z.2.1 z.2.2.1 (z.2.2.1 - 1) 1 M with
    | none => none
    | some M' => jnM r M'
noncomputable def q_join (s : Sg) : Int32 × List Mng := match jnM s.2.2.1 [] with
  | none => (-3, s.2.2.2.2)
  | some M => (nI M.length, M)
noncomputable def q_joined (z : Fl) (J : List Mng) (i : Int32) : Int32 := if i < 0 then -1 else if tg z.1 z.2.1 z.2.2.1 i.toNatClampNeg = 0 then -1 else oI 0 (fndM J (mng z.1 z.2.1 z.2.2.1 i.toNatClampNeg))
noncomputable def talA (m : Mng) : List Fl → Nat
  | [] => 0
  | z :: r => talS z.1 z.2.1 z.2.2.1 m (z.2.2.1 - 1) 1 + talA m r
noncomputable def q_meaning (FL : List Fl) (J : List Mng) (j w : Int32) : Int32 := if j < 0 then -1 else match J[j.toNatClampNeg]? with
  | none => -1
  | some m => if w = 0 then nI m.1 else if w = 1 then nI (talA m FL) else -2
def q_alike (z y : Fl) : Int32 := if z.1 = y.1 then 2 else if b4 z.1 4 = b4 y.1 4 ∧ mea z.1 y.1 (mng z.1 z.2.1 z.2.2.1) (mng y.1 y.2.1 y.2.2.1) ((bT z.1 z.2.2.2.1).map (·.1)) ((bT y.1 y.2.2.2.1).map (·.1)) z.2.2.2.1 y.2.2.2.1 = true then 1 else 0
section JOIN
variable {nb sa : Nat} {c0 : Nat} {s : Sg}
abbrev cellC (c0 : Nat) (s : Sg) (kr kt : Nat) : Option (Bool × Ce) := some (true, .inr (6, [.ref (c0 + 1), .ref (c0 + 3), .ref (c0 + 5), .int (nI s.2.2.1.length), .int s.2.2.2.1, .ref kr, .ref kt, .ref (c0 + 62)]))
theorem CPs.re {h : Hp} {kr kt : Nat} (hS : CPs h c0 s) (hcell : h.2.2 c0 = cellC c0 s kr kt) : (kr = c0 + 6 ∧ kt = c0 + 34 ∨ kr = c0 + 34 ∧ kt = c0 + 6) ∧ (∃ Q pc L, RK h kr Q pc L ∧ mgs Q L = s.2.2.2.2) ∧ (∃ Q pc L, RK h kt Q pc L) ∧ (∃ f g, WR h (c0 + 62) f g) ∧ (∀ h' O', (∀ q, (q < kt ∨ kt + 28 ≤ q) → (q < c0 + 62 ∨ c0 + 65 ≤ q) → (q < c0 + 3 ∨ c0 + 5 ≤ q) → h'.2.2 q = h.2.2 q) → RW h' (c0 + 3) O' → (∃ Q pc L, RK h' kt Q pc L) → (∃ f g, WR h' (c0 + 62) f g) → CPs h' c0 (s.1, O', s.2.2)) ∧ (∀ h' M, (∀ q, (q < kt ∨ kt + 28 ≤ q) → q ≠ c0 → h'.2.2 q = h.2.2 q) → h'.2.2 c0 = cellC c0 s kt kr → (∃ Q pc L, RK h' kt Q pc L ∧ mgs Q L = M) → CPs h' c0 (s.1, s.2.1, s.2.2.1, s.2.2.2.1, M)) := by
  obtain ⟨P, Fn, kr', kt', g, hc, hkk, hT, hO, hF, hg, hP, hCF, hFn, hr, ht, hw, hl⟩ := hS
  have e := hc.symm.trans hcell
  simp only [Option.some.injEq, Prod.mk.injEq, true_and, Sum.inr.injEq, List.cons.injEq, Value.ref.injEq, and_true] at e
  obtain ⟨rfl, rfl⟩ := e
  have slot : ∀ i, i < 6 → c0 + 65 + 11 * P i + 11 ≤ c0 + 131 := fun i hi => by have := (hg i hi).2; omega
  refine ⟨hkk, hr, ht, hw, fun h' O' F hO' ht' hw' => ?_, fun h' M F hc' ht' => ?_⟩
  · obtain ⟨Q1, pc1, L1, hr1, hr2⟩ := hr
    exact ⟨P, Fn, kr', kt', g, (F _ (by omega) (by omega) (by omega)).trans hc, hkk, hT.eq (fun q z1 z2 => F q (by omega) (by omega) (by omega)), hO', (F _ (by omega) (by omega) (by omega)).trans hF, hg, hP, fun i hi => CF.eq (hCF i hi) (fun q z1 z2 => F q (by omega) (by omega) (by omega)), hFn, ⟨Q1, pc1, L1, hr1.eq (fun q z1 z2 => F q (by omega) (by omega) (by omega)), hr2⟩, ht', hw', hl⟩
  · obtain ⟨Q1, pc1, L1, hr1, hr2⟩ := hr
    obtain ⟨fw, gw, hw1⟩ := hw
    exact ⟨P, Fn, kt', kr', g, hc', hkk.elim (fun z => Or.inr ⟨z.2, z.1⟩) (fun z => Or.inl ⟨z.2, z.1⟩), hT.eq (fun q z1 z2 => F q (by omega) (by omega)), hO.eq (fun q z1 z2 => F q (by omega) (by omega)), (F _ (by omega) (by omega)).trans hF, hg, hP, fun i hi => CF.eq (hCF i hi) (fun q z1 z2 => F q (by omega) (by omega)), hFn, ht', ⟨Q1, pc1, L1, hr1.eq (fun q z1 z2 => F q (by omega) (by omega))⟩, ⟨fw, gw, hw1.eq (fun q z1 z2 => F q (by omega) (by omega))⟩, hl⟩
theorem CP_join_loop {kr kt : Nat} (hG : SgG s) : ∀ (r : List Fl) (i : Nat) (x3 : Option Value) (h : Hp) (Q : Nat → Fp) (L : List (Nat × Nat)), s.2.2.1.drop i = r → i ≤ s.2.2.1.length → CPs h c0 s → h.2.2 c0 = cellC c0 s kr kt → RK h kt Q i L → SoM (mgs Q L) → ∀ R : Option Value → Hp → Prop, (∀ h' (x2 x3 : Option Value), FrI kt (kt + 28) h h' → CPs h' c0 s → h'.2.2 c0 = cellC c0 s kr kt → jnM r (mgs Q L) = none → Ex (prog nb sa) k_CP_join 59 [some (.ref c0), some (.int (nI 0)), x2, x3] [] h' R) → (∀ h' (x2 : Nat) (x3 : Option Value) Q' pc' L', FrI kt (kt + 28) h h' → CPs h' c0 s → h'.2.2 c0 = cellC c0 s kr kt → RK h' kt Q' pc' L' → jnM r (mgs Q L) = some (mgs Q' L') → Ex (prog nb sa) k_CP_join 59 [some (.ref c0), some (.int (nI 1)), some (.int (nI x2)), x3] [] h' R) → Ex (prog nb sa) k_CP_join 11 [some (.ref c0), some (.int (nI 1)), some (.int (nI i)), x3] [] h R
  | [], i, x3, h, Q, L, hd, hi, hS, hc, hK, hso, R, K0, K1 => by
    have hl6 := hG.2.2.2.1
    have hle : s.2.2.1.length ≤ i := by
      have := congrArg List.length hd
      simp at this; omega
    refine Ex_mv rfl rfl ?_; refine Ex_mv rfl rfl ?_; refine Ex_getf rfl (by assumption) rfl ?_; refine Ex_mv rfl rfl ?_; refine Ex_ift (nI_le (by omega) (by omega)) ?_
    exact K1 h i x3 Q i L FrI.rf hS hc hK rfl
  | z :: r, i, x3, h, Q, L, hd, hi, hS, hc, hK, hso, R, K0, K1 => by
    have hl6 := hG.2.2.2.1
    have hlt : i < s.2.2.1.length := by
      rcases Nat.lt_or_ge i s.2.2.1.length with q | q
      · exact q
      · rw [List.drop_eq_nil_of_le q] at hd; cases hd
    have hzi : s.2.2.1[i]? = some z := by
      have : (s.2.2.1.drop i)[0]? = some z := by rw [hd]; rfl
      rw [List.getElem?_drop] at this; exact this
    have hd2 : s.2.2.1.drop (i + 1) = r := by
      have := congrArg List.tail hd
      simpa using this
    obtain ⟨hkk, -, -, -, hre, -⟩ := hS.re hc
    rcases c_CP_fileAt (nb := nb) (sa := sa) hS (nI i) with ⟨e0, e1⟩ | ⟨z', c, e0, e1, hC, h1, h2, hz⟩
    · rw [fA_nI (by omega), hzi] at e0; cases e0
    · rw [fA_nI (by omega), hzi] at e0
      simp only [Option.some.injEq] at e0
      subst e0
      have hGz := hG.1 z hz
      have hcc := hC.1
      obtain ⟨v, h3, e3, hA, F3⟩ := c_RK_add (nb := nb) (sa := sa) hK (CF.po hC) hGz.tv (by omega) (by omega) hso
      have hrow := hS.rows.2.fr F3 (by omega)
      have hS3 : ∀ {Q pc L}, RK h3 kt Q pc L → CPs h3 c0 s := fun hk => by
        obtain ⟨fw, gw, hw⟩ := (hS.re hc).2.2.2.1
        exact hre h3 s.2.1 (fun q q1 q2 q3 => F3.2.2 q q1) hrow ⟨_, _, _, hk⟩ ⟨fw, gw, hw.fr F3 (by omega)⟩
      have hc3 : h3.2.2 c0 = cellC c0 s kr kt := F3.at hc (by omega)
      have hkt := hK.1
      have hjn : jnM (z :: r) (mgs Q L) = (match addS z.1 z.2.1 z.2.2.1 (z.2.2.1 - 1) 1 (mgs Q L) with | none => none | some M' => jnM r M') := rfl
      rw [hjn] at K0 K1
      cases ha : addS z.1 z.2.1 z.2.2.1 (z.2.2.1 - 1) 1 (mgs Q L) with
      | none =>
        rw [ha] at hA K0
        obtain ⟨rfl, L', hK'⟩ := hA
        have hS' := hS3 hK'
        refine Ex_mv rfl rfl ?_; refine Ex_mv rfl rfl ?_; refine Ex_getf rfl (by assumption) rfl ?_; refine Ex_mv rfl rfl ?_; refine Ex_iff (nI_ge (by omega) (by omega)) ?_; refine Ex_mv rfl rfl ?_; refine Ex_mv rfl rfl ?_; refine Ex_iff (by decide) ?_; refine Ex_mv rfl rfl ?_; refine Ex_mv rfl rfl ?_; refine Ex_invV rfl (by rfl) (by rfl) (by assumption) (by rfl) (e1) ?_; refine Ex_mv rfl rfl ?_; refine Ex_mv rfl rfl ?_; refine Ex_mv rfl rfl ?_; refine Ex_mv rfl rfl ?_; refine Ex_getf rfl (by assumption) rfl ?_; refine Ex_mv rfl rfl ?_; refine Ex_getf rfl (by assumption) rfl ?_; refine Ex_invV rfl (by rfl) (by rfl) (by assumption) (by rfl) (e3) ?_; refine Ex_mv rfl rfl ?_; refine Ex_ift (by decide) ?_; refine Ex_mv rfl rfl ?_; refine Ex_mv rfl rfl ?_; (first | refine Ex_incN rfl rfl ?_ | refine Ex_mv rfl rfl ?_); refine Ex_mv rfl rfl ?_
        by_cases hq : i + 1 < s.2.2.1.length
        · refine Ex_mv rfl rfl ?_; refine Ex_mv rfl rfl ?_; refine Ex_getf rfl hc3 rfl ?_; refine Ex_mv rfl rfl ?_; refine Ex_iff (nI_ge (by omega) (by omega)) ?_; refine Ex_mv rfl rfl ?_; refine Ex_mv rfl rfl ?_; refine Ex_ift (by decide) ?_
          exact K0 h3 _ _ F3 hS' hc3 rfl
        · refine Ex_mv rfl rfl ?_; refine Ex_mv rfl rfl ?_; refine Ex_getf rfl hc3 rfl ?_; refine Ex_mv rfl rfl ?_; refine Ex_ift (nI_le (by omega) (by omega)) ?_
          exact K0 h3 _ _ F3 hS' hc3 rfl
      | some M' =>
        rw [ha] at hA K0 K1
        obtain ⟨rfl, L', hK', hm', hso'⟩ := hA
        have hS' := hS3 hK'
        have ih := CP_join_loop hG r (i + 1) (some (.ref c)) h3 (upQ Q i (z.1, z.2.1, z.2.2.1)) L' hd2 (by omega) hS' hc3 hK' (by rw [hm']; exact hso') R (fun h' x2 x3 F' q1 q2 q3 => K0 h' x2 x3 (F3.tr F') q1 q2 (by rw [hm'] at q3; exact q3)) (fun h' x2 x3 Q' pc' L'' F' q1 q2 q3 q4 => K1 h' x2 x3 Q' pc' L'' (F3.tr F') q1 q2 q3 (by rw [hm'] at q4; exact q4))
        refine Ex_mv rfl rfl ?_; refine Ex_mv rfl rfl ?_; refine Ex_getf rfl (by assumption) rfl ?_; refine Ex_mv rfl rfl ?_; refine Ex_iff (nI_ge (by omega) (by omega)) ?_; refine Ex_mv rfl rfl ?_; refine Ex_mv rfl rfl ?_; refine Ex_iff (by decide) ?_; refine Ex_mv rfl rfl ?_; refine Ex_mv rfl rfl ?_; refine Ex_invV rfl (by rfl) (by rfl) (by assumption) (by rfl) (e1) ?_; refine Ex_mv rfl rfl ?_; refine Ex_mv rfl rfl ?_; refine Ex_mv rfl rfl ?_; refine Ex_mv rfl rfl ?_; refine Ex_getf rfl (by assumption) rfl ?_; refine Ex_mv rfl rfl ?_; refine Ex_getf rfl (by assumption) rfl ?_; refine Ex_invV rfl (by rfl) (by rfl) (by assumption) (by rfl) (e3) ?_; refine Ex_mv rfl rfl ?_; refine Ex_iff (by decide) ?_; refine Ex_mv rfl rfl ?_; refine Ex_mv rfl rfl ?_; refine Ex_mv rfl rfl ?_; (first | refine Ex_incN rfl rfl ?_ | refine Ex_mv rfl rfl ?_); refine Ex_mv rfl rfl ?_
        exact ih
theorem c_CP_join {h : Hp} (hS : CPs h c0 s) (hG : SgG s) : EvQ (prog nb sa) m_CP_join [.ref c0] h (fun v h' => v = some (.int (q_join s).1) ∧ CPs h' c0 (s.1, s.2.1, s.2.2.1, s.2.2.2.1, (q_join s).2) ∧ FC c0 h h') := by
  obtain ⟨kr, kt, hc⟩ := hS.cell
  obtain ⟨hkk, -, ⟨Q, pc, L, hK⟩, ⟨fw, gw, hw⟩, hre, -⟩ := hS.re hc
  obtain ⟨_, h1, e1, rfl, K1, F1⟩ := c_RK_clear (nb := nb) (sa := sa) hK
  have hc1 : h1.2.2 c0 = cellC c0 s kr kt := F1.at hc (by omega)
  have hS1 : CPs h1 c0 s := hre h1 s.2.1 (fun q q1 q2 q3 => F1.2.2 q q1) (hS.rows.2.fr F1 (by omega)) ⟨_, _, _, K1⟩ ⟨fw, gw, hw.fr F1 (by omega)⟩
  have hk := hK.1
  unfold q_join
  refine EvQ_of k_CP_join 4 [some (.ref c0), none, none, none] rfl (Nat.le_of_ble_eq_true rfl) rfl ?_
  refine Ex_mv rfl rfl ?_; refine Ex_getf rfl (by assumption) rfl ?_; refine Ex_invV rfl (by rfl) (by rfl) (by assumption) (by rfl) (e1) ?_; refine Ex_mv rfl rfl ?_; refine Ex_mv rfl rfl ?_; refine Ex_mv rfl rfl ?_; refine Ex_mv rfl rfl ?_
  refine CP_join_loop (kr := kr) (kt := kt) hG s.2.2.1 0 none h1 Q [] rfl (Nat.zero_le _) hS1 hc1 K1 trivial _ ?_ ?_
  · intro h2 x2 x3 F2 S2 c2 hj
    have hj' : jnM s.2.2.1 [] = none := hj
    rw [hj']
    refine Ex_mv rfl rfl ?_; refine Ex_mv rfl rfl ?_; refine Ex_iff (by decide) ?_; refine Ex_mv rfl rfl ?_
    exact Ex_rt rfl rfl ⟨rfl, S2, FC.of (F1.tr F2) (by omega) (by omega)⟩
  · intro h2 x2 x3 Q2 pc2 L2 F2 S2 c2 K2 hj
    have hj' : jnM s.2.2.1 [] = some (mgs Q2 L2) := hj
    rw [hj']
    obtain ⟨-, -, -, -, -, hsw⟩ := S2.re c2
    have FF : ∀ a b, FrI c0 (c0 + 1) h2 (hset (hset h2 c0 a) c0 b) := fun a b => (FrI.rf.set (by omega) (by omega)).set (by omega) (by omega)
    have K3 : ∀ a b, RK (hset (hset h2 c0 a) c0 b) kt Q2 pc2 L2 := fun a b => K2.fr (FF a b) (by omega)
    have hk3 : ∀ a b, (hset (hset h2 c0 a) c0 b).2.2 kt = _ := fun a b => (K3 a b).1
    refine Ex_mv rfl rfl ?_; refine Ex_mv rfl rfl ?_; refine Ex_ift (by decide) ?_
    refine Ex_mv rfl rfl ?_; refine Ex_getf rfl c2 rfl ?_; refine Ex_mv rfl rfl ?_; refine Ex_mv rfl rfl ?_; refine Ex_mv rfl rfl ?_; refine Ex_getf rfl c2 rfl ?_; refine Ex_putf rfl c2 rfl rfl ?_
    refine Ex_mv rfl rfl ?_; refine Ex_mv rfl rfl ?_; refine Ex_putf rfl hs_at rfl rfl ?_
    refine Ex_mv rfl rfl ?_; refine Ex_getf rfl hs_at rfl ?_; refine Ex_invV rfl (by rfl) (by rfl) (hk3 _ _) (by rfl) (c_RK_size (K3 _ _)) ?_
    refine Ex_rt rfl rfl ⟨?_, ?_, ?_⟩
    · show some (Value.int (nI L2.length)) = some (Value.int (nI (mgs Q2 L2).length))
      rw [mgs_len]
    · exact hsw _ (mgs Q2 L2) (fun q q1 q2 => (FF _ _).2.2 q (by omega)) hs_at ⟨Q2, pc2, L2, K3 _ _, rfl⟩
    · exact FC.of (((F1.tr F2).wd (lo' := c0) (hi' := c0 + 131) (by omega) (by omega)).tr ((FF _ _).wd (by omega) (by omega))) (by omega) (by omega)
theorem c_CP_joined {h : Hp} (hS : CPs h c0 s) (hG : SgG s) (f i : Int32) : Ev (prog nb sa) m_CP_joined [.ref c0, .int f, .int i] h (some (.int (match fA s.2.2.1 f with | none => -1 | some z => q_joined z s.2.2.2.2 i))) h := by
  obtain ⟨kr, kt, hc⟩ := hS.cell
  obtain ⟨hkk, ⟨Q, pc, L, hK, hm⟩, -⟩ := hS.re hc
  rcases c_CP_fileAt (nb := nb) (sa := sa) hS f with ⟨e0, e1⟩ | ⟨z, c, e0, e1, hC, h1, h2, hz⟩
  · rw [e0]
    refine Ev_ofL k_CP_joined 4 [some (.ref c0), some (.int f), some (.int i), none] rfl (Nat.le_of_ble_eq_true rfl) rfl ?_
    refine Ex_mv rfl rfl ?_; refine Ex_mv rfl rfl ?_; refine Ex_invV rfl (by rfl) (by rfl) (by assumption) (by rfl) (e1) ?_; refine Ex_mv rfl rfl ?_; refine Ex_mv rfl rfl ?_; refine Ex_mv rfl rfl ?_; refine Ex_mv rfl rfl ?_
    exact Ex_rt rfl rfl ⟨rfl, rfl⟩
  · rw [e0]
    have hGz := hG.1 z hz
    have hcc := hC.1
    have hP := CF.po hC
    have hpo := hP.1
    have hk := hK.1
    simp only
    unfold q_joined
    rcases i32_cases i with hn | ⟨k, hk, rfl⟩
    · rw [if_pos hn]
      refine Ev_ofL k_CP_joined 4 [some (.ref c0), some (.int f), some (.int i), none] rfl (Nat.le_of_ble_eq_true rfl) rfl ?_
      refine Ex_mv rfl rfl ?_; refine Ex_mv rfl rfl ?_; refine Ex_invV rfl (by rfl) (by rfl) (by assumption) (by rfl) (e1) ?_; refine Ex_mv rfl rfl ?_; refine Ex_mv rfl rfl ?_; refine Ex_mv rfl rfl ?_; refine Ex_mv rfl rfl ?_; refine Ex_getf rfl (by assumption) rfl ?_; refine Ex_mv rfl rfl ?_; refine Ex_invV rfl (by rfl) (by rfl) (by assumption) (by rfl) (c_PL_tagN hP hn) ?_; refine Ex_mv rfl rfl ?_; refine Ex_iff (by decide) ?_; refine Ex_mv rfl rfl ?_
      exact Ex_rt rfl rfl ⟨rfl, rfl⟩
    · rw [if_neg (nI_pos hk), nI_clamp hk]
      have ht := tg_lt (S := z.2.1) (n := z.2.2.1) (CF.row hC).lt k
      by_cases t0 : tg z.1 z.2.1 z.2.2.1 k = 0
      · rw [if_pos t0]
        refine Ev_ofL k_CP_joined 4 [some (.ref c0), some (.int f), some (.int (nI k)), none] rfl (Nat.le_of_ble_eq_true rfl) rfl ?_
        refine Ex_mv rfl rfl ?_; refine Ex_mv rfl rfl ?_; refine Ex_invV rfl (by rfl) (by rfl) (by assumption) (by rfl) (e1) ?_; refine Ex_mv rfl rfl ?_; refine Ex_mv rfl rfl ?_; refine Ex_mv rfl rfl ?_; refine Ex_mv rfl rfl ?_; refine Ex_getf rfl (by assumption) rfl ?_; refine Ex_mv rfl rfl ?_; refine Ex_invV rfl (by rfl) (by rfl) (by assumption) (by rfl) (c_PL_tag hP hk) ?_; refine Ex_mv rfl rfl ?_; refine Ex_iff (by rw [t0]; decide) ?_; refine Ex_mv rfl rfl ?_
        exact Ex_rt rfl rfl ⟨rfl, rfl⟩
      · rw [if_neg t0]
        have hkn := (tg_at rfl t0).1
        have hn61 : z.2.2.1 ≤ 61 := hP.2.2.2.1
        have hfd := c_RK_find (nb := nb) (sa := sa) hK hP hGz.tv (i := k) (by omega) (by rw [hm]; exact hG.2.1)
        rw [hm] at hfd
        refine Ev_ofL k_CP_joined 4 [some (.ref c0), some (.int f), some (.int (nI k)), none] rfl (Nat.le_of_ble_eq_true rfl) rfl ?_
        refine Ex_mv rfl rfl ?_; refine Ex_mv rfl rfl ?_; refine Ex_invV rfl (by rfl) (by rfl) (by assumption) (by rfl) (e1) ?_; refine Ex_mv rfl rfl ?_; refine Ex_mv rfl rfl ?_; refine Ex_mv rfl rfl ?_; refine Ex_mv rfl rfl ?_; refine Ex_getf rfl (by assumption) rfl ?_; refine Ex_mv rfl rfl ?_; refine Ex_invV rfl (by rfl) (by rfl) (by assumption) (by rfl) (c_PL_tag hP hk) ?_; refine Ex_mv rfl rfl ?_; refine Ex_ift (nI_nz t0 (by omega)) ?_; refine Ex_mv rfl rfl ?_; refine Ex_getf rfl (by assumption) rfl ?_; refine Ex_mv rfl rfl ?_; refine Ex_getf rfl (by assumption) rfl ?_; refine Ex_mv rfl rfl ?_; refine Ex_invV rfl (by rfl) (by rfl) (by assumption) (by rfl) (hfd) ?_
        exact Ex_rt rfl rfl ⟨rfl, rfl⟩
theorem talS_le (B : List Nat) (S : Nat → Nat) (n : Nat) (m : Mng) : ∀ d i, talS B S n m d i ≤ d
  | 0, i => Nat.le_refl _
  | d + 1, i => by
    have := talS_le B S n m d (i + 1)
    unfold talS
    split <;> omega
theorem CP_placesOf_loop {h : Hp} {kr kt k pc : Nat} {Q : Nat → Fp} {L : List (Nat × Nat)} (hS : CPs h c0 s) (hG : SgG s) (hc : h.2.2 c0 = cellC c0 s kr kt) (hK : RK h kr Q pc L) (hkl : k < L.length) : ∀ (r : List Fl) (i t : Nat) (x4 : Option Value), s.2.2.1.drop i = r → t ≤ 61 * i → i ≤ 6 → Ex (prog nb sa) k_CP_placesOf 4 [some (.ref c0), some (.int (nI k)), some (.int (nI t)), some (.int (nI i)), x4] [] h (fun v h' => v = some (.int (nI (t + talA (mg Q (L.getD k (0, 0))) r))) ∧ h' = h)
  | [], i, t, x4, hd, ht, hi => by
    have hl6 := hG.2.2.2.1
    have hle : s.2.2.1.length ≤ i := by
      have := congrArg List.length hd
      simp at this; omega
    refine Ex_mv rfl rfl ?_; refine Ex_mv rfl rfl ?_; refine Ex_getf rfl (by assumption) rfl ?_; refine Ex_mv rfl rfl ?_; refine Ex_ift (nI_le (by omega) (by omega)) ?_; refine Ex_mv rfl rfl ?_
    exact Ex_rt rfl rfl ⟨rfl, rfl⟩
  | z :: r, i, t, x4, hd, ht, hi => by
    have hl6 := hG.2.2.2.1
    have hlt : i < s.2.2.1.length := by
      rcases Nat.lt_or_ge i s.2.2.1.length with q | q
      · exact q
      · rw [List.drop_eq_nil_of_le q] at hd; cases hd
    have hzi : s.2.2.1[i]? = some z := by
      have : (s.2.2.1.drop i)[0]? = some z := by rw [hd]; rfl
      rw [List.getElem?_drop] at this; exact this
    have hd2 : s.2.2.1.drop (i + 1) = r := by
      have := congrArg List.tail hd
      simpa using this
    rcases c_CP_fileAt (nb := nb) (sa := sa) hS (nI i) with ⟨e0, e1⟩ | ⟨z', c, e0, e1, hC, h1, h2, hz⟩
    · rw [fA_nI (by omega), hzi] at e0; cases e0
    · rw [fA_nI (by omega), hzi] at e0
      simp only [Option.some.injEq] at e0
      subst e0
      have hGz := hG.1 z hz
      have hcc := hC.1
      have hk := hK.1
      have hn61 : z.2.2.1 ≤ 61 := (CF.po hC).2.2.2.1
      have htl := talS_le z.1 z.2.1 z.2.2.1 (mg Q (L.getD k (0, 0))) (z.2.2.1 - 1) 1
      rw [talA, ← Nat.add_assoc]
      refine Ex_mv rfl rfl ?_; refine Ex_mv rfl rfl ?_; refine Ex_getf rfl (by assumption) rfl ?_; refine Ex_mv rfl rfl ?_; refine Ex_iff (nI_ge (by omega) (by omega)) ?_; refine Ex_mv rfl rfl ?_; refine Ex_mv rfl rfl ?_; refine Ex_invV rfl (by rfl) (by rfl) (by assumption) (by rfl) (e1) ?_; refine Ex_mv rfl rfl ?_; refine Ex_mv rfl rfl ?_; refine Ex_mv rfl rfl ?_; refine Ex_mv rfl rfl ?_; refine Ex_mv rfl rfl ?_; refine Ex_getf rfl (by assumption) rfl ?_; refine Ex_mv rfl rfl ?_; refine Ex_mv rfl rfl ?_; refine Ex_getf rfl (by assumption) rfl ?_; refine Ex_invV rfl (by rfl) (by rfl) (by assumption) (by rfl) (c_RK_tally hK (CF.po hC) hGz.tv hkl) ?_; (first | refine Ex_addN rfl ?_ | refine Ex_mv rfl rfl ?_); refine Ex_mv rfl rfl ?_; (first | refine Ex_incN rfl rfl ?_ | refine Ex_mv rfl rfl ?_); refine Ex_mv rfl rfl ?_
      exact CP_placesOf_loop hS hG hc hK hkl r (i + 1) _ _ hd2 (by omega) (by omega)
theorem c_CP_meaning {h : Hp} (hS : CPs h c0 s) (hG : SgG s) (j w : Int32) : Ev (prog nb sa) m_CP_meaning [.ref c0, .int j, .int w] h (some (.int (q_meaning s.2.2.1 s.2.2.2.2 j w))) h := by
  obtain ⟨kr, kt, hc⟩ := hS.cell
  obtain ⟨hkk, ⟨Q, pc, L, hK, hm⟩, -⟩ := hS.re hc
  have hk := hK.1
  have hl : L.length ≤ 150 := hK.2.2.2.2.2.2.1
  unfold q_meaning
  rcases i32_cases j with hn | ⟨k, hk2, rfl⟩
  · rw [if_pos hn]
    refine Ev_ofL k_CP_meaning 3 [some (.ref c0), some (.int j), some (.int w)] rfl (Nat.le_of_ble_eq_true rfl) rfl ?_
    refine Ex_mv rfl rfl ?_; refine Ex_mv rfl rfl ?_; refine Ex_ift hn ?_; refine Ex_mv rfl rfl ?_
    exact Ex_rt rfl rfl ⟨rfl, rfl⟩
  · rw [if_neg (nI_pos hk2), nI_clamp hk2, ← hm]
    by_cases hkl : k < L.length
    · have e1 : (mgs Q L)[k]? = some (mg Q (L.getD k (0, 0))) := by
        rw [List.getElem?_eq_getElem (by rw [mgs_len]; exact hkl), mgs_at hkl]
      rw [e1]
      have e2 : Ev (prog nb sa) m_CP_placesOf [.ref c0, .int (nI k)] h (some (.int (nI (talA (mg Q (L.getD k (0, 0))) s.2.2.1)))) h := by
        refine Ev_ofL k_CP_placesOf 5 [some (.ref c0), some (.int (nI k)), none, none, none] rfl (Nat.le_of_ble_eq_true rfl) rfl ?_
        refine Ex_mv rfl rfl ?_; refine Ex_mv rfl rfl ?_; refine Ex_mv rfl rfl ?_; refine Ex_mv rfl rfl ?_
        refine Ex_mono (CP_placesOf_loop hS hG hc hK hkl s.2.2.1 0 0 _ rfl (by omega) (by omega)) ?_
        rintro v h' ⟨rfl, rfl⟩
        rw [Nat.zero_add]
        exact ⟨rfl, rfl⟩
      refine Ev_ofL k_CP_meaning 3 [some (.ref c0), some (.int (nI k)), some (.int w)] rfl (Nat.le_of_ble_eq_true rfl) rfl ?_
      refine Ex_mv rfl rfl ?_; refine Ex_mv rfl rfl ?_; refine Ex_lt0 (by omega) ?_; refine Ex_mv rfl rfl ?_; refine Ex_mv rfl rfl ?_; refine Ex_getf rfl (by assumption) rfl ?_; refine Ex_invV rfl (by rfl) (by rfl) (by assumption) (by rfl) (c_RK_size hK) ?_; refine Ex_mv rfl rfl ?_; refine Ex_ift (nI_lt (by omega) (by omega)) ?_; refine Ex_mv rfl rfl ?_; refine Ex_mv rfl rfl ?_
      (first | refine Ex_swN (k := 0) rfl (by omega) (by omega) (fun b18 => ?_) (fun b18_0 => ?_) | refine Ex_sw (fun b18 => ?_) (fun b18_0 => ?_))
      · refine Ex_mv rfl rfl ?_; refine Ex_getf rfl (by assumption) rfl ?_; refine Ex_mv rfl rfl ?_; refine Ex_invV rfl (by rfl) (by rfl) (by assumption) (by rfl) (c_RK_tag hK hkl) ?_
        refine Ex_rt rfl rfl ⟨?_, rfl⟩
        rw [b18]; rfl
      (first | refine Ex_swN (k := 1) rfl (by omega) (by omega) (fun b18 => ?_) (fun b18_1 => ?_) | refine Ex_sw (fun b18 => ?_) (fun b18_1 => ?_))
      · refine Ex_mv rfl rfl ?_; refine Ex_mv rfl rfl ?_; refine Ex_invV rfl (by rfl) (by rfl) (by assumption) (by rfl) (e2) ?_
        refine Ex_rt rfl rfl ⟨?_, rfl⟩
        rw [b18]; rfl
      refine Ex_sw0 ?_
      refine Ex_mv rfl rfl ?_
      refine Ex_rt rfl rfl ⟨?_, rfl⟩
      simp only []; rw [if_neg b18_0, if_neg b18_1]
    · have e1 : (mgs Q L)[k]? = none := List.getElem?_eq_none (by rw [mgs_len]; omega)
      rw [e1]
      refine Ev_ofL k_CP_meaning 3 [some (.ref c0), some (.int (nI k)), some (.int w)] rfl (Nat.le_of_ble_eq_true rfl) rfl ?_
      refine Ex_mv rfl rfl ?_; refine Ex_mv rfl rfl ?_; refine Ex_lt0 (by omega) ?_; refine Ex_mv rfl rfl ?_; refine Ex_mv rfl rfl ?_; refine Ex_getf rfl (by assumption) rfl ?_; refine Ex_invV rfl (by rfl) (by rfl) (by assumption) (by rfl) (c_RK_size hK) ?_; refine Ex_mv rfl rfl ?_; refine Ex_iff (nI_nlt (by omega) (by omega)) ?_; refine Ex_mv rfl rfl ?_
      exact Ex_rt rfl rfl ⟨rfl, rfl⟩
theorem c_CP_alike {h : Hp} (hS : CPs h c0 s) (hG : SgG s) (a b : Int32) : Ev (prog nb sa) m_CP_alike [.ref c0, .int a, .int b] h (some (.int (match fA s.2.2.1 a with | none => -1 | some z => match fA s.2.2.1 b with | none => -1 | some y => q_alike z y))) h := by
  obtain ⟨kr, kt, hc⟩ := hS.cell
  rcases c_CP_fileAt (nb := nb) (sa := sa) hS a with ⟨e0, e1⟩ | ⟨z, c, e0, e1, hC, h1, h2, hz⟩
  · rw [e0]
    rcases c_CP_fileAt (nb := nb) (sa := sa) hS b with ⟨f0, f1⟩ | ⟨y, d, f0, f1, -⟩
    · refine Ev_ofL k_CP_alike 5 [some (.ref c0), some (.int a), some (.int b), none, none] rfl (Nat.le_of_ble_eq_true rfl) rfl ?_
      refine Ex_mv rfl rfl ?_; refine Ex_mv rfl rfl ?_; refine Ex_invV rfl (by rfl) (by rfl) (by assumption) (by rfl) (e1) ?_; refine Ex_mv rfl rfl ?_; refine Ex_mv rfl rfl ?_; refine Ex_mv rfl rfl ?_; refine Ex_invV rfl (by rfl) (by rfl) (by assumption) (by rfl) (f1) ?_; refine Ex_mv rfl rfl ?_; refine Ex_mv rfl rfl ?_; refine Ex_mv rfl rfl ?_; refine Ex_mv rfl rfl ?_
      exact Ex_rt rfl rfl ⟨rfl, rfl⟩
    · refine Ev_ofL k_CP_alike 5 [some (.ref c0), some (.int a), some (.int b), none, none] rfl (Nat.le_of_ble_eq_true rfl) rfl ?_
      refine Ex_mv rfl rfl ?_; refine Ex_mv rfl rfl ?_; refine Ex_invV rfl (by rfl) (by rfl) (by assumption) (by rfl) (e1) ?_; refine Ex_mv rfl rfl ?_; refine Ex_mv rfl rfl ?_; refine Ex_mv rfl rfl ?_; refine Ex_invV rfl (by rfl) (by rfl) (by assumption) (by rfl) (f1) ?_; refine Ex_mv rfl rfl ?_; refine Ex_mv rfl rfl ?_; refine Ex_mv rfl rfl ?_; refine Ex_mv rfl rfl ?_
      exact Ex_rt rfl rfl ⟨rfl, rfl⟩
  · rw [e0]
    rcases c_CP_fileAt (nb := nb) (sa := sa) hS b with ⟨f0, f1⟩ | ⟨y, d, f0, f1, hD, g1, g2, hy⟩
    · rw [f0]
      refine Ev_ofL k_CP_alike 5 [some (.ref c0), some (.int a), some (.int b), none, none] rfl (Nat.le_of_ble_eq_true rfl) rfl ?_
      refine Ex_mv rfl rfl ?_; refine Ex_mv rfl rfl ?_; refine Ex_invV rfl (by rfl) (by rfl) (by assumption) (by rfl) (e1) ?_; refine Ex_mv rfl rfl ?_; refine Ex_mv rfl rfl ?_; refine Ex_mv rfl rfl ?_; refine Ex_invV rfl (by rfl) (by rfl) (by assumption) (by rfl) (f1) ?_; refine Ex_mv rfl rfl ?_; refine Ex_mv rfl rfl ?_; refine Ex_mv rfl rfl ?_; refine Ex_mv rfl rfl ?_; refine Ex_mv rfl rfl ?_; refine Ex_mv rfl rfl ?_
      exact Ex_rt rfl rfl ⟨rfl, rfl⟩
    · rw [f0]
      simp only
      have hGz := hG.1 z hz
      have hGy := hG.1 y hy
      have hcc := hC.1
      have hdd := hD.1
      have hrC : RW h (c + 2) z.1 := CF.row hC
      have hrD : RW h (d + 2) y.1 := CF.row hD
      obtain ⟨fC, hr1, -⟩ := id hrC
      obtain ⟨fD, hr2, -⟩ := id hrD
      have hor := c_RW_order (nb := nb) (sa := sa) hrC hrD (a := 0) (n := z.1.length) (b := 0) (m := y.1.length) (by omega) (by omega) (by decide) (by decide)
      rw [show sl z.1 0 z.1.length = z.1 by simp [sl], show sl y.1 0 y.1.length = y.1 by simp [sl]] at hor
      unfold q_alike
      by_cases e : z.1 = y.1
      · rw [if_pos e]
        refine Ev_ofL k_CP_alike 5 [some (.ref c0), some (.int a), some (.int b), none, none] rfl (Nat.le_of_ble_eq_true rfl) rfl ?_
        refine Ex_mv rfl rfl ?_; refine Ex_mv rfl rfl ?_; refine Ex_invV rfl (by rfl) (by rfl) (by assumption) (by rfl) (e1) ?_; refine Ex_mv rfl rfl ?_; refine Ex_mv rfl rfl ?_; refine Ex_mv rfl rfl ?_; refine Ex_invV rfl (by rfl) (by rfl) (by assumption) (by rfl) (f1) ?_; refine Ex_mv rfl rfl ?_; refine Ex_mv rfl rfl ?_; refine Ex_mv rfl rfl ?_; refine Ex_mv rfl rfl ?_; refine Ex_mv rfl rfl ?_; refine Ex_mv rfl rfl ?_; refine Ex_getf rfl (by assumption) rfl ?_; refine Ex_mv rfl rfl ?_; refine Ex_mv rfl rfl ?_; refine Ex_getf rfl (by assumption) rfl ?_; refine Ex_invV rfl (by rfl) (by rfl) (by assumption) (by rfl) (c_RW_size hrC) ?_; refine Ex_mv rfl rfl ?_; refine Ex_getf rfl (by assumption) rfl ?_; refine Ex_mv rfl rfl ?_; refine Ex_mv rfl rfl ?_; refine Ex_getf rfl (by assumption) rfl ?_; refine Ex_invV rfl (by rfl) (by rfl) (by assumption) (by rfl) (c_RW_size hrD) ?_; refine Ex_invV rfl (by rfl) (by rfl) (by assumption) (by rfl) (hor) ?_; refine Ex_mv rfl rfl ?_; refine Ex_iff (not_not_intro ((cmpL_good.2.1 _ _).mpr e)) ?_; refine Ex_mv rfl rfl ?_
        exact Ex_rt rfl rfl ⟨rfl, rfl⟩
      · rw [if_neg e]
        have hme := c_CF_meansAs (nb := nb) (sa := sa) hC hD hGz.tv hGy.tv hGz.inc hGy.inc
        rw [tB_eq hGz.1, tB_eq hGy.1] at hme
        by_cases q : b4 z.1 4 = b4 y.1 4 ∧ mea z.1 y.1 (mng z.1 z.2.1 z.2.2.1) (mng y.1 y.2.1 y.2.2.1) ((bT z.1 z.2.2.2.1).map (·.1)) ((bT y.1 y.2.2.2.1).map (·.1)) z.2.2.2.1 y.2.2.2.1 = true
        · rw [if_pos q] at hme ⊢
          refine Ev_ofL k_CP_alike 5 [some (.ref c0), some (.int a), some (.int b), none, none] rfl (Nat.le_of_ble_eq_true rfl) rfl ?_
          refine Ex_mv rfl rfl ?_; refine Ex_mv rfl rfl ?_; refine Ex_invV rfl (by rfl) (by rfl) (by assumption) (by rfl) (e1) ?_; refine Ex_mv rfl rfl ?_; refine Ex_mv rfl rfl ?_; refine Ex_mv rfl rfl ?_; refine Ex_invV rfl (by rfl) (by rfl) (by assumption) (by rfl) (f1) ?_; refine Ex_mv rfl rfl ?_; refine Ex_mv rfl rfl ?_; refine Ex_mv rfl rfl ?_; refine Ex_mv rfl rfl ?_; refine Ex_mv rfl rfl ?_; refine Ex_mv rfl rfl ?_; refine Ex_getf rfl (by assumption) rfl ?_; refine Ex_mv rfl rfl ?_; refine Ex_mv rfl rfl ?_; refine Ex_getf rfl (by assumption) rfl ?_; refine Ex_invV rfl (by rfl) (by rfl) (by assumption) (by rfl) (c_RW_size hrC) ?_; refine Ex_mv rfl rfl ?_; refine Ex_getf rfl (by assumption) rfl ?_; refine Ex_mv rfl rfl ?_; refine Ex_mv rfl rfl ?_; refine Ex_getf rfl (by assumption) rfl ?_; refine Ex_invV rfl (by rfl) (by rfl) (by assumption) (by rfl) (c_RW_size hrD) ?_; refine Ex_invV rfl (by rfl) (by rfl) (by assumption) (by rfl) (hor) ?_; refine Ex_mv rfl rfl ?_; refine Ex_ift (fun w => e ((cmpL_good.2.1 _ _).mp w)) ?_; refine Ex_mv rfl rfl ?_; refine Ex_mv rfl rfl ?_; refine Ex_invV rfl (by rfl) (by rfl) (by assumption) (by rfl) (hme) ?_; refine Ex_mv rfl rfl ?_; refine Ex_iff (by decide) ?_; refine Ex_mv rfl rfl ?_; refine Ex_mv rfl rfl ?_
          exact Ex_rt rfl rfl ⟨rfl, rfl⟩
        · rw [if_neg q] at hme ⊢
          refine Ev_ofL k_CP_alike 5 [some (.ref c0), some (.int a), some (.int b), none, none] rfl (Nat.le_of_ble_eq_true rfl) rfl ?_
          refine Ex_mv rfl rfl ?_; refine Ex_mv rfl rfl ?_; refine Ex_invV rfl (by rfl) (by rfl) (by assumption) (by rfl) (e1) ?_; refine Ex_mv rfl rfl ?_; refine Ex_mv rfl rfl ?_; refine Ex_mv rfl rfl ?_; refine Ex_invV rfl (by rfl) (by rfl) (by assumption) (by rfl) (f1) ?_; refine Ex_mv rfl rfl ?_; refine Ex_mv rfl rfl ?_; refine Ex_mv rfl rfl ?_; refine Ex_mv rfl rfl ?_; refine Ex_mv rfl rfl ?_; refine Ex_mv rfl rfl ?_; refine Ex_getf rfl (by assumption) rfl ?_; refine Ex_mv rfl rfl ?_; refine Ex_mv rfl rfl ?_; refine Ex_getf rfl (by assumption) rfl ?_; refine Ex_invV rfl (by rfl) (by rfl) (by assumption) (by rfl) (c_RW_size hrC) ?_; refine Ex_mv rfl rfl ?_; refine Ex_getf rfl (by assumption) rfl ?_; refine Ex_mv rfl rfl ?_; refine Ex_mv rfl rfl ?_; refine Ex_getf rfl (by assumption) rfl ?_; refine Ex_invV rfl (by rfl) (by rfl) (by assumption) (by rfl) (c_RW_size hrD) ?_; refine Ex_invV rfl (by rfl) (by rfl) (by assumption) (by rfl) (hor) ?_; refine Ex_mv rfl rfl ?_; refine Ex_ift (fun w => e ((cmpL_good.2.1 _ _).mp w)) ?_; refine Ex_mv rfl rfl ?_; refine Ex_mv rfl rfl ?_; refine Ex_invV rfl (by rfl) (by rfl) (by assumption) (by rfl) (hme) ?_; refine Ex_mv rfl rfl ?_; refine Ex_ift (by decide) ?_; refine Ex_mv rfl rfl ?_
          exact Ex_rt rfl rfl ⟨rfl, rfl⟩
end JOIN
