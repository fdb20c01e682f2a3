/-! the other side: feed, back, drop, a new file -/
theorem sb_id : ∀ c, c < 256 → (sb_b c).toInt8.toInt32 = sb_b c := by decide +kernel
theorem MOr.tape {h : Hp} {m0 nb sa O J : Nat} {s : Sg} {T' : List Nat} (hR : MOr h m0 nb sa s O J) (g : Nat → Int32) (hT : h.2.2 (m0 + 2) = some (true, .inl (0, 400, .inl g))) (hg : ∀ j, j < T'.length → g j = sb_b (T'.getD j 0)) : MOr h m0 nb sa (T', s.2) O J := by
  obtain ⟨a, b, c⟩ := hR
  exact ⟨a, ⟨g, hT, hg⟩, c⟩
theorem MOr.t2 {h : Hp} {m0 nb sa O J : Nat} {s : Sg} {T' : List Nat} (hR : MOr h m0 nb sa s O J) (g : Nat → Int32) (hg : ∀ j, j < T'.length → g j = sb_b (T'.getD j 0)) : MOr (hset h (m0 + 2) (.inl (0, 400, .inl g))) m0 nb sa (T', s.2) O J := by
  obtain ⟨⟨gF, a1, a2⟩, ⟨gT, b1, b2⟩, c, d, ⟨g5, e⟩, ⟨g6, f⟩, g', i, j⟩ := hR
  have F : PF (muM m0) h (hset h (m0 + 2) (.inl (0, 400, .inl g))) := PF.rf.set (by simp [muM])
  refine ⟨⟨gF, hs_ne (by omega) a1, fun i z hz => ?_⟩, ⟨g, hs_at, hg⟩, c.pf F, d.pf F, ⟨g5, hs_ne (by omega) e⟩, ⟨g6, hs_ne (by omega) f⟩, g', i.pf F, j.pf F⟩
  obtain ⟨f, q1, q2⟩ := a2 i z hz
  exact ⟨f, q1, q2.pf F⟩
section REFI
variable {nb sa : Nat} {m0 : Nat}
theorem MO_feed_loop {w : Int64} {n : Int32} : ∀ (d : Nat) (h : Hp) (s : Sg), MOs h m0 nb sa s 0 → s.1.length + d ≤ 400 → d ≤ 8 → ∀ x4 : Int32, x4 = nI d - nI 1 → Ex (prog nb sa) k_MO_feed 38 [some (.ref m0), some (.long w), none, some (.int n), some (.int x4)] [] h (fun v h' => v = some (.int (nI (s.1 ++ fdB w d).length)) ∧ MOs h' m0 nb sa (s.1 ++ fdB w d, s.2) 0 ∧ FX m0 h h' 0 0)
  | 0, h, s, hS, hl, h8, x4, hx => by
    obtain ⟨O, J, nw, a', fl, ms, od, oc, hc⟩ := hS.cell
    have hx2 : x4 = -1 := by rw [hx]; decide
    subst hx2
    rw [fdB, List.append_nil]
    refine Ex_mv rfl rfl ?_; refine Ex_mv rfl rfl ?_; refine Ex_ift (by decide) ?_; refine Ex_mv rfl rfl ?_; refine Ex_getf rfl (by assumption) rfl ?_
    refine Ex_rt rfl rfl ?_
    exact ⟨rfl, hS, FX.rf⟩
  | d + 1, h, s, hS, hl, h8, x4, hx => by
    obtain ⟨O, J, nw, a', fl, ms, od, oc, hc, hR⟩ := id hS
    obtain ⟨-, ⟨gT, t1, t2⟩, -⟩ := id hR
    have hx2 : x4 = nI d := by rw [hx, pk_sub (by omega)]; rfl
    subst hx2
    generalize hv : (w >>> ((nI (8 * d)).toInt64 &&& 63)).toInt32 = v at *
    have hR2 := (hR.t2 (T' := s.1 ++ [lowb v]) (upd gT s.1.length (sb_b (lowb v))) (fun j hj => by
      rw [List.length_append, List.length_singleton] at hj
      by_cases e : j = s.1.length
      · rw [e, pk_us, List.getD_eq_getElem?_getD, List.getElem?_append_right (Nat.le_refl _)]; simp
      · rw [pk_un e, t2 j (by omega), List.getD_eq_getElem?_getD, List.getD_eq_getElem?_getD, List.getElem?_append_left (by omega)]))
    have hS2 : MOs (hset (hset h (m0 + 2) (.inl (0, 400, .inl (upd gT s.1.length (sb_b (lowb v)))))) m0 (.inr (11, MOl m0 0 (s.1 ++ [lowb v], s.2) O J nw a' fl ms od oc))) m0 nb sa (s.1 ++ [lowb v], s.2) 0 := ⟨O, J, nw, a', fl, ms, od, oc, hs_at, hR2.m0⟩
    have ih := MO_feed_loop (w := w) (n := n) d _ _ hS2 (by simp; omega) (by omega) (nI d + -1) (by rw [show nI 1 = 1 from rfl, Int32.sub_eq_add_neg])
    have eu : (nI s.1.length).toNatClampNeg = s.1.length := nI_clamp (by omega)
    have c2 : ∀ z, (hset h (m0 + 2) z).2.2 m0 = _ := fun z => hs_ne (by omega) hc
    refine Ex_mv rfl rfl ?_; refine Ex_mv rfl rfl ?_; refine Ex_lt0 (by omega) ?_; refine Ex_mv rfl rfl ?_; refine Ex_getf rfl (by assumption) rfl ?_; refine Ex_mv rfl rfl ?_; refine Ex_getf rfl (by assumption) rfl ?_; refine Ex_mv rfl rfl ?_; refine Ex_mv rfl rfl ?_; refine Ex_mv rfl rfl ?_; (first | refine Ex_mulN rfl ?_ | refine Ex_mv rfl rfl ?_); refine Ex_lshr rfl ?_; refine Ex_mv rfl rfl ?_; refine Ex_mv rfl rfl ?_; refine Ex_bast rfl t1 (vp_in_nI (by omega) (by decide)) ?_; refine Ex_mv rfl rfl ?_; refine Ex_mv rfl rfl ?_; refine Ex_getf rfl (c2 _) rfl ?_; refine Ex_mv rfl rfl ?_; (first | refine Ex_addN rfl ?_ | refine Ex_mv rfl rfl ?_); refine Ex_putf rfl (c2 _) rfl rfl ?_
    refine Ex_mv rfl rfl ?_
    refine Ex_mv rfl rfl ?_
    rw [hv, sb_low2, eu]
    have el : MOl m0 0 (s.1 ++ [lowb v], s.2) O J nw a' fl ms od oc = (MOl m0 0 s O J nw a' fl ms od oc).set 4 (.int (nI (s.1.length + 1))) := by simp [MOl]
    rw [el] at ih
    refine Ex_mono ih ?_
    rintro v' h' ⟨rfl, q1, q2⟩
    rw [fdB, hv]
    simp only [List.append_assoc, List.cons_append, List.nil_append] at q1 ⊢
    exact ⟨trivial, q1, ((FX.rf.set (by simp [muN])).set (by simp [muN])).tr q2⟩
theorem c_MO_feed {h : Hp} {s : Sg} {c : Nat} (hS : MOs h m0 nb sa s c) (hl : s.1.length ≤ 400) (w : Int64) (n : Int32) : EvQ (prog nb sa) m_MO_feed [.ref m0, .long w, .int n] h (fun v h' => v = some (.int (q_feed s.1 w n).1) ∧ MOs h' m0 nb sa ((q_feed s.1 w n).2, s.2) 0 ∧ FX m0 h h' 0 0) := by
  obtain ⟨h1, k1, k2, k3⟩ := hS.code
  obtain ⟨O, J, nw, a', fl, ms, od, oc, hc, hR⟩ := hS
  have := k1 _ _ _ _ _ _ _ _ hc
  subst this
  have hin := c_MO_isInI (nb := nb) (sa := sa) (h := hset h m0 (.inr (11, MOl m0 0 s O J nw a' fl ms od oc))) (v := n) (lo := nI 1) (hi := nI 8)
  unfold q_feed
  refine EvQ_of k_MO_feed 5 [some (.ref m0), some (.long w), none, some (.int n), none] rfl (Nat.le_of_ble_eq_true rfl) rfl ?_
  by_cases h12 : n < 1 ∨ nI 8 < n
  · rw [if_pos h12]
    rw [if_pos (show n < nI 1 ∨ nI 8 < n from h12)] at hin
    refine Ex_mv rfl rfl ?_; refine Ex_mv rfl rfl ?_; refine Ex_putf rfl hc rfl rfl ?_; refine Ex_mv rfl rfl ?_; refine Ex_mv rfl rfl ?_; refine Ex_mv rfl rfl ?_; refine Ex_inv rfl (by rfl) (by rfl) (by rfl) (hin) ?_; refine Ex_mv rfl rfl ?_; refine Ex_iff (not_not_intro (show nI 0 = 0 from rfl)) ?_; refine Ex_mv rfl rfl ?_
    refine Ex_rt rfl rfl ?_
    exact ⟨rfl, k2, k3⟩
  · rw [if_neg h12]
    rw [if_neg (show ¬ (n < nI 1 ∨ nI 8 < n) from h12)] at hin
    have h1 : ¬ n < 1 := fun z => h12 (Or.inl z)
    have hk : ∃ k, k < 2 ^ 31 ∧ n = nI k := by
      rcases i32_cases n with z | z
      · exact absurd (Int32.lt_trans z (by decide)) h1
      · exact z
    obtain ⟨k, hk, rfl⟩ := hk
    have hk8 : k ≤ 8 := Nat.le_of_not_lt (fun z => h12 (Or.inr (nI_lt z hk)))
    have hk1 : 1 ≤ k := by
      rcases Nat.eq_zero_or_pos k with z | z
      · subst z; exact absurd (by decide) h1
      · exact z
    rw [nI_clamp hk]
    by_cases h3 : 400 < s.1.length + k
    · rw [if_pos h3]
      refine Ex_mv rfl rfl ?_; refine Ex_mv rfl rfl ?_; refine Ex_putf rfl hc rfl rfl ?_; refine Ex_mv rfl rfl ?_; refine Ex_mv rfl rfl ?_; refine Ex_mv rfl rfl ?_; refine Ex_inv rfl (by rfl) (by rfl) (by rfl) (hin) ?_; refine Ex_mv rfl rfl ?_; refine Ex_ift (show ¬ nI 1 = 0 by decide) ?_; refine Ex_mv rfl rfl ?_; refine Ex_getf rfl hs_at rfl ?_; refine Ex_mv rfl rfl ?_; (first | refine Ex_addN rfl ?_ | refine Ex_mv rfl rfl ?_); refine Ex_mv rfl rfl ?_; refine Ex_mv rfl rfl ?_; refine Ex_iff (nI_ge (by omega) (by omega)) ?_; refine Ex_mv rfl rfl ?_
      refine Ex_rt rfl rfl ?_
      exact ⟨rfl, k2, k3⟩
    · rw [if_neg h3]
      have key : ∀ x4 : Int32, x4 = nI k - nI 1 → Ex (prog nb sa) k_MO_feed 38 [some (.ref m0), some (.long w), none, some (.int (nI k)), some (.int x4)] [] (hset h m0 (.inr (11, MOl m0 0 s O J nw a' fl ms od oc))) (fun v h' => v = some (.int (nI (s.1 ++ fdB w k).length)) ∧ MOs h' m0 nb sa (s.1 ++ fdB w k, s.2) 0 ∧ FX m0 h h' 0 0) := by
        intro x4 hx4
        refine Ex_mono (MO_feed_loop k _ s k2 (by omega) hk8 x4 hx4) ?_
        rintro v h' ⟨rfl, q1, q2⟩
        exact ⟨rfl, q1, k3.tr q2⟩
      refine Ex_mv rfl rfl ?_; refine Ex_mv rfl rfl ?_; refine Ex_putf rfl hc rfl rfl ?_; refine Ex_mv rfl rfl ?_; refine Ex_mv rfl rfl ?_; refine Ex_mv rfl rfl ?_; refine Ex_inv rfl (by rfl) (by rfl) (by rfl) (hin) ?_; refine Ex_mv rfl rfl ?_; refine Ex_ift (show ¬ nI 1 = 0 by decide) ?_; refine Ex_mv rfl rfl ?_; refine Ex_getf rfl hs_at rfl ?_; refine Ex_mv rfl rfl ?_; (first | refine Ex_addN rfl ?_ | refine Ex_mv rfl rfl ?_); refine Ex_mv rfl rfl ?_; refine Ex_mv rfl rfl ?_; refine Ex_ift (nI_le (by omega) (by omega)) ?_; refine Ex_mv rfl rfl ?_; refine Ex_mv rfl rfl ?_; (first | refine Ex_subN rfl (by omega) ?_ | refine Ex_mv rfl rfl ?_); refine Ex_mv rfl rfl ?_
      exact key _ (by rw [pk_sub hk1])
theorem MO_back_loop {s : Sg} {O J : Nat} {cl : List Value} (h3 : cl[3]? = some (.ref (m0 + 2))) (h4 : cl[4]? = some (.int (nI s.2.1.length))) (h5 : cl[5]? = some (.ref O)) : ∀ (d k : Nat) (h : Hp) (g : Nat → Int32), k + d = s.2.1.length → h.2.2 m0 = some (true, .inr (11, cl)) → MOr h m0 nb sa s O J → h.2.2 (m0 + 2) = some (true, .inl (0, 400, .inl g)) → (∀ j, j < k → g j = sb_b (s.2.1.getD j 0)) → Ex (prog nb sa) k_MO_back 16 [some (.ref m0), some (.int (nI k))] [] h (fun v h' => v = some (.int (nI s.2.1.length)) ∧ h'.2.2 m0 = some (true, .inr (11, cl)) ∧ MOr h' m0 nb sa (s.2.1, s.2) O J ∧ FX m0 h h' 0 0)
  | 0, k, h, g, hk, hc, hR, hT, hg => by
    obtain ⟨⟨w, gO, o1, o2, o3, o4⟩, o5⟩ := hR.2.2.1
    refine Ex_mv rfl rfl ?_; refine Ex_mv rfl rfl ?_; refine Ex_getf rfl hc h4 ?_; refine Ex_mv rfl rfl ?_; refine Ex_ift (nI_le (by omega) (by omega)) ?_
    refine Ex_mv rfl rfl ?_; refine Ex_getf rfl hc h4 ?_
    exact Ex_rt rfl rfl ⟨rfl, hc, hR.tape g hT (fun j hj => hg j (by omega)), FX.rf⟩
  | d + 1, k, h, g, hk, hc, hR, hT, hg => by
    obtain ⟨⟨w, gO, o1, o2, o3, o4⟩, o5⟩ := hR.2.2.1
    have hOne : O ≠ m0 + 2 := fun e => o5.2 (by simp [muM, e])
    have eo : gO (nI k).toNatClampNeg = sb_b (s.2.1.getD k 0) := by rw [nI_clamp (by omega)]; exact o2 k (by omega)
    have hb : s.2.1.getD k 0 < 256 := b1_lt o3 k
    refine Ex_mv rfl rfl ?_; refine Ex_mv rfl rfl ?_; refine Ex_getf rfl hc h4 ?_; refine Ex_mv rfl rfl ?_; refine Ex_iff (nI_ge (by omega) (by omega)) ?_
    refine Ex_mv rfl rfl ?_; refine Ex_getf rfl hc h3 ?_; refine Ex_mv rfl rfl ?_; refine Ex_mv rfl rfl ?_; refine Ex_getf rfl hc h5 ?_; refine Ex_mv rfl rfl ?_
    refine Ex_iald rfl o1 (vp_in_nI (by omega) (by omega)) ?_
    rw [eo]
    refine Ex_bast rfl hT (vp_in_nI (by omega) (by decide)) ?_
    rw [sb_id _ hb, nI_clamp (by omega)]
    refine Ex_incN rfl rfl ?_; refine Ex_mv rfl rfl ?_
    have F : FX m0 h (hset h (m0 + 2) (.inl (0, 400, .inl (upd g k (sb_b (s.2.1.getD k 0)))))) 0 0 := FX.rf.set (by simp [muN])
    obtain ⟨q1, ⟨gT, q2, q3⟩, q4⟩ := id hR
    have gl : ∀ x2 : Nat → Int32, MOr (hset h (m0 + 2) (.inl (0, 400, .inl x2))) m0 nb sa ([], s.2) O J := fun x2 => hR.t2 x2 (fun j hj => absurd hj (Nat.not_lt_zero _))
    have ih := MO_back_loop (s := ([], s.2)) h3 h4 h5 d (k + 1) (hset h (m0 + 2) (.inl (0, 400, .inl (upd g k (sb_b (s.2.1.getD k 0)))))) _ (by show k + 1 + d = s.2.1.length; omega) (hs_ne (by omega) hc) (gl _) hs_at (fun j hj => by
      by_cases e : j = k
      · rw [e, pk_us]
      · rw [pk_un e]; exact hg j (by omega))
    refine Ex_mono ih ?_
    rintro v h' ⟨rfl, z1, z2, z3⟩
    exact ⟨rfl, z1, z2, F.tr z3⟩
theorem c_MO_back {h : Hp} {s : Sg} {c : Nat} (hS : MOs h m0 nb sa s c) : EvQ (prog nb sa) m_MO_back [.ref m0] h (fun v h' => v = some (.int (nI s.2.1.length)) ∧ MOs h' m0 nb sa (s.2.1, s.2) 0 ∧ FX m0 h h' 0 0) := by
  obtain ⟨h1, k1, k2, k3⟩ := hS.code
  obtain ⟨O, J, nw, a', fl, ms, od, oc, hc, hR⟩ := hS
  have := k1 _ _ _ _ _ _ _ _ hc
  subst this
  obtain ⟨⟨w, gO, o1, o2, o3, o4⟩, o5⟩ := hR.m0 (c := .inr (11, MOl m0 0 s O J nw a' fl ms od oc)) |>.2.2.1
  obtain ⟨-, ⟨gT, t1, t2⟩, -⟩ := id hR
  have ih := MO_back_loop (nb := nb) (sa := sa) (m0 := m0) (s := s) (O := O) (J := J) (cl := MOl m0 0 (s.2.1, s.2) O J nw a' fl ms od oc) rfl rfl rfl s.2.1.length 0 (hset (hset h m0 (.inr (11, MOl m0 0 s O J nw a' fl ms od oc))) m0 (.inr (11, MOl m0 0 (s.2.1, s.2) O J nw a' fl ms od oc))) gT (Nat.zero_add _) hs_at hR.m0.m0 (hs_ne (by omega) (hs_ne (by omega) t1)) (fun j hj => by omega)
  refine EvQ_of k_MO_back 2 [some (.ref m0), none] rfl (Nat.le_of_ble_eq_true rfl) rfl ?_
  refine Ex_mv rfl rfl ?_; refine Ex_mv rfl rfl ?_; refine Ex_putf rfl hc rfl rfl ?_; refine Ex_mv rfl rfl ?_; refine Ex_mv rfl rfl ?_; refine Ex_getf rfl hs_at rfl ?_; refine Ex_alen rfl o1 rfl ?_; refine Ex_putf rfl hs_at rfl rfl ?_; refine Ex_mv rfl rfl ?_; refine Ex_mv rfl rfl ?_
  refine Ex_mono ih ?_
  rintro v h' ⟨rfl, z1, z2, z3⟩
  exact ⟨rfl, ⟨O, J, nw, a', fl, ms, od, oc, z1, z2⟩, ((FX.m).tr (FX.m)).tr z3⟩
theorem MO_drop_loop {n i0 : Nat} {cl : List Value} {g0 : Nat → Option Nat} (h1 : cl[1]? = some (.ref (m0 + 1))) (h2 : cl[2]? = some (.int (nI n))) (hn : n ≤ 6) {R : Option Value → Hp → Prop} : ∀ (d k : Nat) (h : Hp) (g : Nat → Option Nat), k + 1 + d = n → i0 ≤ k → h.2.2 m0 = some (true, .inr (11, cl)) → h.2.2 (m0 + 1) = some (true, .inl (7, 6, .inr (.inr (.inr (.inr g))))) → (∀ j, g j = shf g0 i0 k j) → (∀ j, j < n → ∃ f fs, g0 j = some f ∧ h.2.2 f = some (true, .inr (8, fs)) ∧ f ≠ m0 + 1) → (∀ h' k' g', h'.2.2 (m0 + 1) = some (true, .inl (7, 6, .inr (.inr (.inr (.inr g'))))) → (∀ j, g' j = shf g0 i0 (n - 1) j) → h'.1 = h.1 → h'.2.1 = h.2.1 → (∀ q, q ≠ m0 + 1 → h'.2.2 q = h.2.2 q) → Ex (prog nb sa) k_MO_drop 42 [some (.ref m0), some (.int (nI i0)), some (.int (nI k'))] [] h' R) → Ex (prog nb sa) k_MO_drop 12 [some (.ref m0), some (.int (nI i0)), some (.int (nI k))] [] h R
  | 0, k, h, g, hk, hik, hc, hF, hg, hf, K => by
    refine Ex_mv rfl rfl ?_; refine Ex_mv rfl rfl ?_; refine Ex_addN rfl ?_; refine Ex_mv rfl rfl ?_; refine Ex_getf rfl hc h2 ?_; refine Ex_mv rfl rfl ?_; refine Ex_ift (nI_le (by omega) (by omega)) ?_
    exact K h k g hF (by rw [show n - 1 = k by omega]; exact hg) rfl rfl (fun _ _ => rfl)
  | d + 1, k, h, g, hk, hik, hc, hF, hg, hf, K => by
    obtain ⟨f, fs, f1, f2, f3⟩ := hf (k + 1) (by omega)
    have e1 : g (nI (k + 1)).toNatClampNeg = some f := by
      rw [nI_clamp (by omega), hg, ← f1]
      unfold shf
      rw [if_neg (by omega), if_neg (by omega)]
    refine Ex_mv rfl rfl ?_; refine Ex_mv rfl rfl ?_; refine Ex_addN rfl ?_; refine Ex_mv rfl rfl ?_; refine Ex_getf rfl hc h2 ?_; refine Ex_mv rfl rfl ?_; refine Ex_iff (nI_ge (by omega) (by omega)) ?_
    refine Ex_mv rfl rfl ?_; refine Ex_getf rfl hc h1 ?_; refine Ex_mv rfl rfl ?_; refine Ex_mv rfl rfl ?_; refine Ex_getf rfl hc h1 ?_; refine Ex_mv rfl rfl ?_; refine Ex_mv rfl rfl ?_; refine Ex_addN rfl ?_
    refine Ex_aald rfl hF rfl (vp_in_nI (by omega) (by decide)) e1 ?_
    refine Ex_aast rfl hF f2 rfl (vp_in_nI (by omega) (by decide)) ?_
    rw [nI_clamp (show k < 2 ^ 31 by omega)]
    refine Ex_incN rfl rfl ?_; refine Ex_mv rfl rfl ?_
    refine MO_drop_loop h1 h2 hn d (k + 1) _ _ (by omega) (by omega) (hs_ne (by omega) hc) hs_at (fun j => ?_) (fun j hj => ?_) (fun h' k' g' z1 z2 z3 z4 z5 => K h' k' g' z1 z2 z3 z4 (fun q hq => (z5 q hq).trans (if_neg hq)))
    · by_cases e : j = k
      · subst e
        rw [va_up, if_pos rfl, ← f1]
        unfold shf
        rw [if_neg (by omega), if_pos (by omega)]
      · rw [va_up, if_neg e, hg]
        unfold shf
        by_cases c1 : j < i0
        · rw [if_pos c1, if_pos c1]
        · rw [if_neg c1, if_neg c1]
          by_cases c2 : j < k
          · rw [if_pos c2, if_pos (by omega)]
          · rw [if_neg c2, if_neg (by omega)]
    · obtain ⟨f', fs', y1, y2, y3⟩ := hf j hj
      exact ⟨f', fs', y1, hs_ne y3 y2, y3⟩
theorem c_MO_drop {h : Hp} {s : Sg} {c : Nat} (hS : MOs h m0 nb sa s c) (hl : s.2.2.1.length ≤ 6) (i : Int32) : EvQ (prog nb sa) m_MO_drop [.ref m0, .int i] h (fun v h' => v = some (.int (q_drop s.2.2.1 i).1) ∧ MOs h' m0 nb sa (s.1, s.2.1, (q_drop s.2.2.1 i).2, s.2.2.2) 0 ∧ FX m0 h h' 0 0) := by
  obtain ⟨h1, e1, k2, k3⟩ := c_MO_isFile (nb := nb) hS hl i
  obtain ⟨O0, J0, nw0, a0, fl0, ms0, od0, oc0, hc0⟩ := hS.cell
  obtain ⟨O, J, nw, a', fl, ms, od, oc, hc, hR⟩ := id k2
  unfold q_drop
  refine EvQ_of k_MO_drop 3 [some (.ref m0), some (.int i), none] rfl (Nat.le_of_ble_eq_true rfl) rfl ?_
  rcases okF_cases s.2.2.1 i with ⟨z1, z2⟩ | ⟨k, z, rfl, hk, hk2, z3, z1, z2⟩
  · rw [z1]
    rw [z2] at e1
    refine Ex_mv rfl rfl ?_; refine Ex_mv rfl rfl ?_; refine Ex_invV rfl (by rfl) (by rfl) (by assumption) (by rfl) (e1) ?_; refine Ex_mv rfl rfl ?_; refine Ex_iff (not_not_intro (show nI 0 = 0 from rfl)) ?_; refine Ex_mv rfl rfl ?_
    refine Ex_rt rfl rfl ?_
    exact ⟨rfl, k2, k3⟩
  · rw [z1]
    rw [z2] at e1
    obtain ⟨⟨gF, a1, a2⟩, rest⟩ := id hR
    have hfs : ∀ j, j < s.2.2.1.length → ∃ f fs, gF j = some f ∧ h1.2.2 f = some (true, .inr (8, fs)) ∧ f ≠ m0 + 1 := fun j hj => by
      obtain ⟨f, q1, q2⟩ := a2 j _ (List.getElem?_eq_getElem hj)
      obtain ⟨b, t1, t2, t3, t7, a5, a6, t8, ow, gt, ga, gc, gx, gm, c1, c2, -⟩ := q2
      exact ⟨f, _, q1, c1, fun e => c2.2 (by simp [muM, e])⟩
    have lp := MO_drop_loop (nb := nb) (sa := sa) (m0 := m0) (n := s.2.2.1.length) (i0 := k) (cl := MOl m0 0 s O J nw a' fl ms od oc) (g0 := gF) rfl rfl hl (R := fun v h' => v = some (.int (nI (s.2.2.1.length - 1))) ∧ MOs h' m0 nb sa (s.1, s.2.1, s.2.2.1.eraseIdx (nI k).toNatClampNeg, s.2.2.2) 0 ∧ FX m0 h h' 0 0) (s.2.2.1.length - 1 - k) k h1 gF (by omega) (Nat.le_refl _) hc a1 (fun j => by unfold shf; split; rfl; rfl) hfs (fun h' k' g' y1 y2 y3 y4 y5 => by
      have hc' : h'.2.2 m0 = _ := (y5 m0 (by omega)).trans hc
      have PF1 : PF (muM m0) h1 h' := ⟨by omega, by omega, fun q hq => y5 q (fun e => hq.2 (by simp [muM, e]))⟩
      obtain ⟨b, c', d, e, f', g, i', j'⟩ := rest
      have lenE : (s.2.2.1.eraseIdx k).length = s.2.2.1.length - 1 := by rw [List.length_eraseIdx]; simp [hk]
      have hR' : MOr (hset h' m0 (.inr (11, MOl m0 0 (s.1, s.2.1, s.2.2.1.eraseIdx k, s.2.2.2) O J nw a' fl ms od oc))) m0 nb sa (s.1, s.2.1, s.2.2.1.eraseIdx k, s.2.2.2) O J := by
        refine MOr.m0 ⟨⟨g', y1, fun j z hz => ?_⟩, ?_, c'.pf PF1, d.pf PF1, ?_, ?_, by rw [y3]; exact g, i'.pf PF1, j'.pf PF1⟩
        · rw [y2]
          unfold shf
          have hjl : j < s.2.2.1.length - 1 := by
            have := (List.getElem?_eq_some_iff.mp hz).1
            rw [lenE] at this; exact this
          have hz' : (s.2.2.1.eraseIdx k)[j]? = some z := hz
          rw [List.getElem?_eraseIdx] at hz'
          by_cases cc : j < k
          · rw [if_pos cc] at hz' ⊢
            obtain ⟨f, q1, q2⟩ := a2 j z hz'
            exact ⟨f, q1, q2.pf PF1⟩
          · rw [if_neg cc] at hz' ⊢
            rw [if_pos hjl]
            obtain ⟨f, q1, q2⟩ := a2 (j + 1) z hz'
            exact ⟨f, q1, q2.pf PF1⟩
        · obtain ⟨gT, b1, b2⟩ := b
          exact ⟨gT, (y5 _ (by omega)).trans b1, b2⟩
        · obtain ⟨g5, e⟩ := e
          exact ⟨g5, (y5 _ (by omega)).trans e⟩
        · obtain ⟨g6, e⟩ := f'
          exact ⟨g6, (y5 _ (by omega)).trans e⟩
      have FX1 : FX m0 h1 h' 0 0 := ⟨⟨PF1, fun q _ q2 => y5 q (by omega)⟩, by omega, by omega⟩
      refine Ex_mv rfl rfl ?_; refine Ex_mv rfl rfl ?_; refine Ex_getf rfl hc' rfl ?_; refine Ex_mv rfl rfl ?_; refine Ex_subN rfl (by omega) ?_; refine Ex_putf rfl hc' rfl rfl ?_
      refine Ex_mv rfl rfl ?_; refine Ex_getf rfl hs_at rfl ?_
      rw [nI_clamp hk2]
      have hS' : MOs (hset h' m0 (.inr (11, MOl m0 0 (s.1, s.2.1, s.2.2.1.eraseIdx k, s.2.2.2) O J nw a' fl ms od oc))) m0 nb sa (s.1, s.2.1, s.2.2.1.eraseIdx k, s.2.2.2) 0 := ⟨O, J, nw, a', fl, ms, od, oc, hs_at, hR'⟩
      have el : MOl m0 0 (s.1, s.2.1, s.2.2.1.eraseIdx k, s.2.2.2) O J nw a' fl ms od oc = (MOl m0 0 s O J nw a' fl ms od oc).set 2 (.int (nI (s.2.2.1.length - 1))) := by unfold MOl; rw [lenE]; rfl
      rw [el] at hS'
      exact Ex_rt rfl rfl ⟨rfl, hS', (k3.tr FX1).tr FX.m⟩)
    refine Ex_mv rfl rfl ?_; refine Ex_mv rfl rfl ?_; refine Ex_invV rfl (by rfl) (by rfl) (by assumption) (by rfl) (e1) ?_; refine Ex_mv rfl rfl ?_; refine Ex_ift (show ¬ nI 1 = 0 by decide) ?_; refine Ex_mv rfl rfl ?_; refine Ex_mv rfl rfl ?_
    exact lp
end REFI
