/-! drop -/
def q_drop (FL : List Fl) (f : Int32) : Int32 × List Fl := match fA FL f with
  | none => (-1, FL)
  | some _ => (nI (FL.length - 1), FL.eraseIdx f.toNatClampNeg)
def shf {α : Type} (g : Nat → α) (k i j : Nat) : α := if j < k then g j else if j < i then g (j + 1) else g j
section DROP
variable {nb sa : Nat} {c0 : Nat} {s : Sg}
theorem CP_drop_loop {k cg : Nat} {P : Nat → Nat} {cell : List Value} {g : Nat → Option Nat} (hcell : cell[2]? = some (.ref (c0 + 5))) (hg : ∀ i, i < 6 → g i = some (c0 + 65 + 11 * P i)) {R : Option Value → Hp → Prop} : ∀ (d i : Nat) (h : Hp) (ga : Nat → Option Nat), i + d = 5 → k ≤ i → h.2.2 c0 = some (true, .inr (6, cell)) → h.2.2 (c0 + 5) = some (true, .inl (5, 6, .inr (.inr (.inr (.inr ga))))) → (∀ j, j < 6 → ga j = shf g k i j) → (∀ j, j < 6 → ∃ fs, h.2.2 (c0 + 65 + 11 * P j) = some (true, .inr (0, fs))) → (∀ h' ga', FrI (c0 + 5) (c0 + 6) h h' → h'.2.2 (c0 + 5) = some (true, .inl (5, 6, .inr (.inr (.inr (.inr ga'))))) → (∀ j, j < 6 → ga' j = shf g k 5 j) → Ex (prog nb sa) k_CP_drop 49 [some (.ref c0), some (.int (nI k)), some (.ref cg), some (.int (nI 5))] [] h' R) → Ex (prog nb sa) k_CP_drop 14 [some (.ref c0), some (.int (nI k)), some (.ref cg), some (.int (nI i))] [] h R
  | 0, i, h, ga, hd, hk, hc, hF, hga, hcf, K => by
    have : i = 5 := by omega
    subst this
    refine Ex_mv rfl rfl ?_; refine Ex_mv rfl rfl ?_; refine Ex_lt0 (by omega) ?_; refine Ex_mv rfl rfl ?_; refine Ex_mv rfl rfl ?_; (first | refine Ex_addN rfl ?_ | refine Ex_mv rfl rfl ?_); refine Ex_mv rfl rfl ?_; refine Ex_getf rfl hc hcell ?_; refine Ex_alen rfl hF rfl ?_; refine Ex_mv rfl rfl ?_; refine Ex_ift (nI_le (by omega) (by omega)) ?_
    exact K h ga FrI.rf hF hga
  | d + 1, i, h, ga, hd, hk, hc, hF, hga, hcf, K => by
    have e1 : ga (nI (i + 1)).toNatClampNeg = some (c0 + 65 + 11 * P (i + 1)) := by
      rw [nI_clamp (by omega), hga _ (by omega)]
      unfold shf
      rw [if_neg (by omega), if_neg (by omega), hg _ (by omega)]
    obtain ⟨fs, hfs⟩ := hcf (i + 1) (by omega)
    have F1 : ∀ z, FrI (c0 + 5) (c0 + 6) h (hset h (c0 + 5) z) := fun z => FrI.rf.set (by omega) (by omega)
    have ih := CP_drop_loop hcell hg (R := R) (k := k) (cg := cg) d (i + 1) (hset h (c0 + 5) (.inl (5, 6, .inr (.inr (.inr (.inr (va_up ga (nI i).toNatClampNeg (some (c0 + 65 + 11 * P (i + 1)))))))))) _ (by omega) (by omega) (hs_ne (by omega) hc) hs_at (fun j hj => by
      rw [nI_clamp (by omega)]
      by_cases e : j = i
      · subst e
        unfold shf
        rw [if_neg (by omega), if_pos (by omega), hg _ (by omega)]
        simp [va_up]
      · have : va_up ga i (some (c0 + 65 + 11 * P (i + 1))) j = ga j := by simp [va_up, e]
        rw [this, hga j hj]
        unfold shf
        by_cases e2 : j < k
        · rw [if_pos e2, if_pos e2]
        · rw [if_neg e2, if_neg e2]
          by_cases e3 : j < i
          · rw [if_pos e3, if_pos (by omega)]
          · rw [if_neg e3, if_neg (by omega)]) (fun j hj => by obtain ⟨fs, q⟩ := hcf j hj; exact ⟨fs, hs_ne (by omega) q⟩) (fun h' ga' F' q1 q2 => K h' ga' ((F1 _).tr F') q1 q2)
    refine Ex_mv rfl rfl ?_; refine Ex_mv rfl rfl ?_; refine Ex_lt0 (by omega) ?_; refine Ex_mv rfl rfl ?_; refine Ex_mv rfl rfl ?_; (first | refine Ex_addN rfl ?_ | refine Ex_mv rfl rfl ?_); refine Ex_mv rfl rfl ?_; refine Ex_getf rfl hc hcell ?_; refine Ex_alen rfl hF rfl ?_; refine Ex_mv rfl rfl ?_; refine Ex_iff (nI_ge (by omega) (by omega)) ?_
    refine Ex_mv rfl rfl ?_; refine Ex_getf rfl hc hcell ?_; refine Ex_mv rfl rfl ?_; refine Ex_mv rfl rfl ?_; refine Ex_getf rfl hc hcell ?_; refine Ex_mv rfl rfl ?_; refine Ex_mv rfl rfl ?_; (first | refine Ex_addN rfl ?_ | refine Ex_mv rfl rfl ?_)
    refine Ex_aald rfl hF rfl (vp_in_nI (by omega) (by omega)) e1 ?_
    refine Ex_aast rfl hF hfs rfl (vp_in_nI (by omega) (by omega)) ?_
    refine Ex_incN rfl rfl ?_; refine Ex_mv rfl rfl ?_
    exact ih
theorem getElem?_eraseIdx' {FL : List Fl} {k i : Nat} : (FL.eraseIdx k)[i]? = if i < k then FL[i]? else FL[i + 1]? := by
  rw [List.getElem?_eraseIdx]
theorem c_CP_drop {h : Hp} (hS : CPs h c0 s) (f : Int32) : EvQ (prog nb sa) m_CP_drop [.ref c0, .int f] h (fun v h' => v = some (.int (q_drop s.2.2.1 f).1) ∧ CPs h' c0 (s.1, s.2.1, (q_drop s.2.2.1 f).2, s.2.2.2) ∧ FC c0 h h') := by
  obtain ⟨P, Fn, kr, kt, g, hc, hkk, hT, hO, hF, hg, hP, hCF, hFn, ⟨Q1, pc1, L1, hr1, hr2⟩, ⟨Q2, pc2, L2, ht1⟩, ⟨fw, gw, hw1⟩, hl⟩ := id hS
  unfold q_drop
  rcases c_CP_fileAt (nb := nb) (sa := sa) hS f with ⟨e0, e1⟩ | ⟨z, c, e0, e1, -⟩
  · rw [e0]
    refine EvQ_of k_CP_drop 4 [some (.ref c0), some (.int f), none, none] rfl (Nat.le_of_ble_eq_true rfl) rfl ?_
    refine Ex_mv rfl rfl ?_; refine Ex_mv rfl rfl ?_; refine Ex_invV rfl (by rfl) (by rfl) (by assumption) (by rfl) (e1) ?_; refine Ex_mv rfl rfl ?_; refine Ex_mv rfl rfl ?_; refine Ex_mv rfl rfl ?_; refine Ex_mv rfl rfl ?_
    refine Ex_rt rfl rfl ?_
    exact ⟨rfl, hS, FC.rf⟩
  · rw [e0]
    have hk : ∃ k, k < s.2.2.1.length ∧ f = nI k := by
      rcases i32_cases f with hn | ⟨k, hk, rfl⟩
      · rw [fA, if_pos hn] at e0; cases e0
      · rw [fA_nI hk] at e0
        refine ⟨k, ?_, rfl⟩
        rcases Nat.lt_or_ge k s.2.2.1.length with q | q
        · exact q
        · rw [List.getElem?_eq_none q] at e0; cases e0
    obtain ⟨k, hkl, rfl⟩ := hk
    have hk6 : k < 6 := by omega
    have e2 : Ev (prog nb sa) m_CP_fileAt [.ref c0, .int (nI k)] h (some (.ref (c0 + 65 + 11 * P k))) h := by
      have e : g (nI k).toNatClampNeg = some (c0 + 65 + 11 * P k) := by rw [nI_clamp (by omega)]; exact (hg k (by omega)).1
      refine Ev_ofL k_CP_fileAt 2 [some (.ref c0), some (.int (nI k))] rfl (Nat.le_of_ble_eq_true rfl) rfl ?_
      refine Ex_mv rfl rfl ?_; refine Ex_mv rfl rfl ?_; refine Ex_lt0 (by omega) ?_; refine Ex_mv rfl rfl ?_; refine Ex_mv rfl rfl ?_; refine Ex_getf rfl (by assumption) rfl ?_; refine Ex_mv rfl rfl ?_; refine Ex_iff (nI_ge (by omega) (by omega)) ?_; refine Ex_mv rfl rfl ?_; refine Ex_mv rfl rfl ?_; refine Ex_getf rfl (by assumption) rfl ?_; refine Ex_alen rfl (by assumption) rfl ?_; refine Ex_mv rfl rfl ?_; refine Ex_iff (nI_ge (by omega) (by omega)) ?_; refine Ex_mv rfl rfl ?_; refine Ex_getf rfl (by assumption) rfl ?_; refine Ex_mv rfl rfl ?_; refine Ex_aald rfl (by assumption) rfl (vp_in_nI (by omega) (by decide)) e ?_; refine Ex_mv rfl rfl ?_
      exact Ex_rt rfl rfl ⟨rfl, rfl⟩
    rw [nI_clamp (by omega)]
    have hcf : ∀ j, j < 6 → ∃ fs, h.2.2 (c0 + 65 + 11 * P j) = some (true, .inr (0, fs)) := fun j hj => ⟨_, (hCF j hj).1⟩
    have hin : ∀ j, j < 6 → P j < 6 := fun j hj => (hg j hj).2
    have hlen : (s.2.2.1.eraseIdx k).length = s.2.2.1.length - 1 := by rw [List.length_eraseIdx, if_pos hkl]
    refine EvQ_of k_CP_drop 4 [some (.ref c0), some (.int (nI k)), none, none] rfl (Nat.le_of_ble_eq_true rfl) rfl ?_
    refine Ex_mv rfl rfl ?_; refine Ex_mv rfl rfl ?_; refine Ex_invV rfl (by rfl) (by rfl) hc (by rfl) e2 ?_; refine Ex_mv rfl rfl ?_; refine Ex_mv rfl rfl ?_; refine Ex_mv rfl rfl ?_; refine Ex_mv rfl rfl ?_; refine Ex_mv rfl rfl ?_
    refine CP_drop_loop (P := P) (g := g) (k := k) rfl (fun i hi => (hg i hi).1) (5 - k) k h g (by omega) (Nat.le_refl _) hc hF (fun j hj => by unfold shf; split <;> (try split) <;> first | rfl | omega) hcf ?_
    intro h1 ga F1 hF1 hga
    have hc1 := F1.at hc (by omega)
    have hlast : h1.2.2 (c0 + 65 + 11 * P k) = _ := F1.at (hCF k hk6).1 (by omega)
    have c2 : ∀ y, (hset h1 (c0 + 5) y).2.2 c0 = _ := fun y => hs_ne (by omega) hc1
    refine Ex_mv rfl rfl ?_; refine Ex_getf rfl (by assumption) rfl ?_; refine Ex_mv rfl rfl ?_; refine Ex_getf rfl (by assumption) rfl ?_; refine Ex_alen rfl (by assumption) rfl ?_; refine Ex_mv rfl rfl ?_; (first | refine Ex_subN rfl (by omega) ?_ | refine Ex_mv rfl rfl ?_); refine Ex_mv rfl rfl ?_; refine Ex_aast rfl hF1 hlast rfl (vp_in_nI (by omega) (by decide)) ?_; refine Ex_mv rfl rfl ?_; refine Ex_mv rfl rfl ?_; refine Ex_getf rfl (c2 _) rfl ?_; refine Ex_mv rfl rfl ?_; (first | refine Ex_subN rfl (by omega) ?_ | refine Ex_mv rfl rfl ?_); refine Ex_putf rfl (c2 _) rfl rfl ?_; refine Ex_mv rfl rfl ?_; refine Ex_getf rfl hs_at rfl ?_
    refine Ex_rt rfl rfl ?_
    have FF : ∀ y w, FrI c0 (c0 + 6) h (hset (hset h1 (c0 + 5) y) c0 w) := fun y w => (((F1.wd (by omega) (by omega)).set (by omega) (by omega)).set (by omega) (by omega))
    refine ⟨rfl, ?_, FC.of (FF _ _) (by omega) (by omega)⟩
    have h56 : ∀ y w q, (q ≠ c0 ∧ q ≠ c0 + 5) → (hset (hset h1 (c0 + 5) y) c0 w).2.2 q = h.2.2 q := fun y w q hq => (if_neg hq.1).trans ((if_neg hq.2).trans (F1.2.2 q (by omega)))
    refine ⟨fun j => if j = 5 then P k else shf P k 5 j, fun j => if j = 5 then Fn k else shf Fn k 5 j, kr, kt, _, ?_, hkk, hT.eq (fun q z1 z2 => h56 _ _ q (by omega)), hO.eq (fun q z1 z2 => h56 _ _ q (by omega)), hs_ne (by omega) hs_at, ?_, ?_, ?_, ?_, ⟨Q1, pc1, L1, hr1.eq (fun q z1 z2 => h56 _ _ q (by omega)), hr2⟩, ⟨Q2, pc2, L2, ht1.eq (fun q z1 z2 => h56 _ _ q (by omega))⟩, ⟨fw, gw, hw1.eq (fun q z1 z2 => h56 _ _ q (by omega))⟩, by simp only [hlen]; omega⟩
    · simp only [hlen]; exact hs_at
    · intro i hi
      rw [show (nI (6 - 1)).toNatClampNeg = 5 from by decide]
      by_cases e : i = 5
      · subst e
        simp only [if_true]
        exact ⟨by simp [va_up], hin k hk6⟩
      · simp only [e, if_false]
        have : va_up ga 5 (some (c0 + 65 + 11 * P k)) i = ga i := by simp [va_up, e]
        rw [this, hga i hi]
        unfold shf
        by_cases e2 : i < k
        · rw [if_pos e2, if_pos e2]; exact hg i hi
        · rw [if_neg e2, if_neg e2, if_pos (by omega), if_pos (by omega)]; exact hg (i + 1) (by omega)
    · intro i j hi hj hij
      have key : ∀ i, i < 6 → ∃ i', i' < 6 ∧ (if i = 5 then P k else shf P k 5 i) = P i' ∧ i' = (if i = 5 then k else if i < k then i else i + 1) := by
        intro i hi
        by_cases e : i = 5
        · exact ⟨k, hk6, by rw [if_pos e], by rw [if_pos e]⟩
        · unfold shf
          by_cases e2 : i < k
          · exact ⟨i, hi, by rw [if_neg e, if_pos e2], by rw [if_neg e, if_pos e2]⟩
          · exact ⟨i + 1, by omega, by rw [if_neg e, if_neg e2, if_pos (by omega)], by rw [if_neg e, if_neg e2]⟩
      obtain ⟨i', i1, i2, i3⟩ := key i hi
      obtain ⟨j', j1, j2, j3⟩ := key j hj
      simp only [i2, j2] at hij
      have := hP i' j' i1 j1 hij
      split at i3 <;> split at j3 <;> (try split at i3) <;> (try split at j3) <;> omega
    · intro i hi
      have key : ∃ i', i' < 6 ∧ (if i = 5 then P k else shf P k 5 i) = P i' ∧ (if i = 5 then Fn k else shf Fn k 5 i) = Fn i' := by
        by_cases e : i = 5
        · exact ⟨k, hk6, by rw [if_pos e], by rw [if_pos e]⟩
        · unfold shf
          by_cases e2 : i < k
          · exact ⟨i, hi, by rw [if_neg e, if_pos e2], by rw [if_neg e, if_pos e2]⟩
          · exact ⟨i + 1, by omega, by rw [if_neg e, if_neg e2, if_pos (by omega)], by rw [if_neg e, if_neg e2, if_pos (by omega)]⟩
      obtain ⟨i', i1, i2, i3⟩ := key
      simp only [i2, i3]
      exact CF.eq (hCF i' i1) (fun q z1 z2 => h56 _ _ q (by omega))
    · intro i hi
      simp only [hlen] at hi
      rw [getElem?_eraseIdx']
      show _ = some (if i = 5 then Fn k else shf Fn k 5 i)
      rw [if_neg (by omega : ¬ i = 5)]
      unfold shf
      by_cases e2 : i < k
      · rw [if_pos e2, if_pos e2]; exact hFn i (by omega)
      · rw [if_neg e2, if_neg e2, if_pos (by omega)]; exact hFn (i + 1) (by omega)
end DROP
