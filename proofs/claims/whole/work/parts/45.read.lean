/-! read, drop -/
section EQ
variable {h h' : Hp}
theorem RW.eq {r : Nat} {B : List Nat} (h1 : RW h r B) (F : ∀ q, r ≤ q → q < r + 2 → h'.2.2 q = h.2.2 q) : RW h' r B := by
  obtain ⟨g, a, b, c⟩ := h1
  exact ⟨g, (F _ (by omega) (by omega)).trans a, (F _ (by omega) (by omega)).trans b, c⟩
theorem AI.eq {a n : Nat} {L : List Nat} (h1 : AI h a n L) (F : h'.2.2 a = h.2.2 a) : AI h' a n L := by
  obtain ⟨g, b, c⟩ := h1
  exact ⟨g, F.trans b, c⟩
theorem PO.eq {p n : Nat} {B : List Nat} {S : Nat → Nat} (h1 : PO h p B S n) (F : ∀ q, p ≤ q → q < p + 4 → h'.2.2 q = h.2.2 q) : PO h' p B S n := by
  obtain ⟨a, b, ⟨g, c, d⟩, e, k⟩ := h1
  exact ⟨(F _ (by omega) (by omega)).trans a, b.eq (fun q h1 h2 => F q (by omega) (by omega)), ⟨g, (F _ (by omega) (by omega)).trans c, d⟩, e, k⟩
theorem CF.eq {c n bh aa : Nat} {B M0 M1 : List Nat} {S : Nat → Nat} {TL : List (Nat × Nat)} (h1 : CF h c B S n bh aa M0 M1 TL) (F : ∀ q, c ≤ q → q < c + 11 → h'.2.2 q = h.2.2 q) : CF h' c B S n bh aa M0 M1 TL := by
  obtain ⟨a1, a2, a3, a4, a5, a6, a7, a8, a9⟩ := h1
  exact ⟨(F _ (by omega) (by omega)).trans a1, a2.eq (fun q h1 h2 => F q (by omega) (by omega)), (F _ (by omega) (by omega)).trans a3, a4.eq (F _ (by omega) (by omega)), a5.eq (F _ (by omega) (by omega)), a6.eq (F _ (by omega) (by omega)), a7.eq (F _ (by omega) (by omega)), a8.eq (F _ (by omega) (by omega)), a9⟩
theorem RK.eq {k pc : Nat} {Q : Nat → Fp} {L : List (Nat × Nat)} (h1 : RK h k Q pc L) (F : ∀ q, k ≤ q → q < k + 28 → h'.2.2 q = h.2.2 q) : RK h' k Q pc L := by
  obtain ⟨a1, ⟨g, a2, a3⟩, a4, a5, a6, a7⟩ := h1
  exact ⟨(F _ (by omega) (by omega)).trans a1, ⟨g, (F _ (by omega) (by omega)).trans a2, a3⟩, a4.eq (F _ (by omega) (by omega)), a5.eq (F _ (by omega) (by omega)), fun i hi => (a6 i hi).eq (fun q h1 h2 => F q (by omega) (by omega)), a7⟩
theorem WR.eq {w : Nat} {f g : Nat → Int32} (h1 : WR h w f g) (F : ∀ q, w ≤ q → q < w + 3 → h'.2.2 q = h.2.2 q) : WR h' w f g := ⟨(F _ (by omega) (by omega)).trans h1.1, (F _ (by omega) (by omega)).trans h1.2.1, (F _ (by omega) (by omega)).trans h1.2.2⟩
theorem CPs.eq {c0 : Nat} {s : Sg} (hS : CPs h c0 s) (F : ∀ q, c0 ≤ q → q < c0 + 131 → h'.2.2 q = h.2.2 q) : CPs h' c0 s := by
  obtain ⟨P, Fn, kr, kt, g, hc, hkk, hT, hO0, hF, hg, hP, hCF, hFn, ⟨Q1, pc1, L1, hr, hr2⟩, ⟨Q2, pc2, L2, ht⟩, ⟨f, g2, hw⟩, hl⟩ := hS
  exact ⟨P, Fn, kr, kt, g, (F _ (by omega) (by omega)).trans hc, hkk, hT.eq (fun q h1 h2 => F q (by omega) (by omega)), hO0.eq (fun q h1 h2 => F q (by omega) (by omega)), (F _ (by omega) (by omega)).trans hF, hg, hP, fun i hi => CF.eq (hCF i hi) (fun q h1 h2 => F q (by omega) (by have := (hg i hi).2; omega)), hFn, ⟨Q1, pc1, L1, hr.eq (fun q h1 h2 => F q (by omega) (by omega)), hr2⟩, ⟨Q2, pc2, L2, ht.eq (fun q h1 h2 => F q (by omega) (by omega))⟩, ⟨f, g2, hw.eq (fun q h1 h2 => F q (by omega) (by omega))⟩, hl⟩
end EQ
/-- what read answers, the state behind it -/
def q_read (s : Sg) : Int32 × Sg := if s.2.2.1.length = 6 then (-3, s) else match p_read s.1 with
  | .inl (f, w) => (-20 - nI f, ([], s.2.1, s.2.2.1, nI w, s.2.2.2.2))
  | .inr (_, x) => (nI s.2.2.1.length, ([], s.2.1, s.2.2.1 ++ [(s.1, x)], -1, s.2.2.2.2))
section READ
variable {nb sa : Nat} {h : Hp} {c0 : Nat} {s : Sg}
theorem c_CP_read (hS : CPs h c0 s) (hsz : c0 + 131 ≤ h.1) : EvQ (prog nb sa) m_CP_read [.ref c0] h (fun v h' => v = some (.int (q_read s).1) ∧ CPs h' c0 (q_read s).2 ∧ FC c0 h h') := by
  obtain ⟨P, Fn, kr, kt, g, hc, hkk, hT, hO, hF, hg, hP, hCF, hFn, hr, ht, hw, hl⟩ := id hS
  unfold q_read
  by_cases h6 : s.2.2.1.length = 6
  · rw [if_pos h6]
    refine EvQ_of k_CP_read 3 [some (.ref c0), none, none] rfl (Nat.le_of_ble_eq_true rfl) rfl ?_
    refine Ex_mv rfl rfl ?_; refine Ex_getf rfl (by assumption) rfl ?_; refine Ex_mv rfl rfl ?_; refine Ex_lt0 (by omega) ?_; refine Ex_mv rfl rfl ?_; refine Ex_getf rfl (by assumption) rfl ?_; refine Ex_mv rfl rfl ?_; refine Ex_getf rfl (by assumption) rfl ?_; refine Ex_alen rfl (by assumption) rfl ?_; refine Ex_mv rfl rfl ?_; refine Ex_iff (nI_nlt (by omega) (by omega)) ?_; refine Ex_mv rfl rfl ?_
    refine Ex_rt rfl rfl ?_
    exact ⟨rfl, hS, FC.rf⟩
  · rw [if_neg h6]
    have hi6 : s.2.2.1.length < 6 := by omega
    have hp6 := (hg _ hi6).2
    have hge : g (nI s.2.2.1.length).toNatClampNeg = some (c0 + 65 + 11 * P s.2.2.1.length) := by rw [nI_clamp (by omega)]; exact (hg _ hi6).1
    generalize hcc : c0 + 65 + 11 * P s.2.2.1.length = c at *
    have hb1 : c0 + 65 ≤ c := by omega
    have hb2 : c + 11 ≤ c0 + 131 := by omega
    have hCc : CFs h c (Fn s.2.2.1.length).1 (Fn s.2.2.1.length).2 := by have := hCF _ hi6; rw [hcc] at this; exact this
    obtain ⟨_, h1, e1, rfl, C1, F1⟩ := c_CF_begin (nb := nb) (sa := sa) hCc hT (by omega)
    obtain ⟨_, h2, e2, rfl, T2, F2⟩ := c_RW_clear (nb := nb) (sa := sa) (hT.fr F1 (by omega))
    have C2 : CFs h2 c s.1 x00 := CF.fr C1 F2 (by omega)
    have hc0c := hCc.1
    have hc1 := F1.at hc (by omega)
    have hc2 := F2.at hc1 (by omega)
    have hT1 : h1.2.2 (c0 + 1) = _ := (hT.fr F1 (by omega)).choose_spec.1
    have hsz2 : h2.1 = h.1 := F2.1.trans F1.1
    have hrd : h2.1 < c ∨ c + 11 ≤ h2.1 := by omega
    let z3 : Hp := hnew h2 5 (.inr (3, [.int 0, .int 0, .null, .null, .int 0]))
    have hz3 : z3.2.2 h2.1 = some (true, .inr (3, [.int 0, .int 0, .null, .null, .int 0])) := if_pos rfl
    have F3 : ∀ q, q ≠ h2.1 → z3.2.2 q = h2.2.2 q := fun q hq => if_neg hq
    have C3 : CFs z3 c s.1 x00 := CF.eq C2 (fun q g1 g2 => F3 q (by omega))
    obtain ⟨_, h4, e4, rfl, R4, F4⟩ := c_RD_init (nb := nb) (sa := sa) hrd (by rfl) hz3 C3 rfl
    obtain ⟨_, h5, e5, rfl, R5, F5⟩ := c_RD_scan (nb := nb) (sa := sa) hrd R4 (fun a x e => by simp only [Sum.inr.injEq, Prod.mk.injEq] at e; rw [← e.2]; exact ⟨rfl, rfl⟩)
    obtain ⟨_, h6', e6, rfl, R6, F6⟩ := c_RD_checkTells (nb := nb) (sa := sa) hrd R5
    obtain ⟨_, h7, e7, rfl, R7, F7⟩ := c_RD_checkSorts (nb := nb) (sa := sa) (k := 0) hrd (by decide) R6 (fun a x e => chk_tv (by decide) e)
    obtain ⟨_, h8, e8, rfl, R8, F8⟩ := c_RD_checkSorts (nb := nb) (sa := sa) (k := 1) hrd (by decide) R7 (fun a x e => chk_tv (by decide) (srt_ok e).1)
    have FF : FR c h2.1 z3 h8 := (((F4.tr F5).tr F6).tr F7).tr F8
    have hall : ∀ q, q < h.1 → (q < c ∨ c + 11 ≤ q) → (q < c0 + 1 ∨ c0 + 3 ≤ q) → h8.2.2 q = h.2.2 q := by
      intro q g1 g2 g3
      rw [FF.2.2 q g2 (by omega), F3 q (by omega), F2.2.2 q (by omega), F1.2.2 q g2]
    have hc8 : h8.2.2 c0 = _ := (hall c0 (by omega) (by omega) (by omega)).trans hc
    have hT8 : RW h8 (c0 + 1) [] := T2.eq (fun q g1 g2 => by rw [FF.2.2 q (by omega) (by omega), F3 q (by omega)])
    have hsz8 : h8.1 = h.1 + 1 ∧ h8.2.1 = h.2.1 + 5 := by
      rw [FF.1, FF.2.1]
      exact ⟨by show h2.1 + 1 = _; omega, by show h2.2.1 + 5 = _; rw [F2.2.1, F1.2.1]⟩
    have R8' : RSt h8 c h2.1 s.1 (p_read s.1) := R8
    obtain ⟨f4, w4, a4, x4, hR4, -⟩ := id R4
    obtain ⟨f5, w5, a5, x5, hR5, -⟩ := id R5
    obtain ⟨f6, w6, a6, x6, hR6, -⟩ := id R6
    obtain ⟨f7, w7, a7, x7, hR7, -⟩ := id R7
    obtain ⟨f8, w8, a8, x8, hR8, hC8, ha8, hf8, hm8⟩ := id R8'
    have hRd9 : ∀ z, (hset h8 c0 z).2.2 h2.1 = _ := fun z => hs_ne (by omega) hR8
    obtain ⟨Q1, pc1, L1, hr1, hr2⟩ := hr
    obtain ⟨Q2, pc2, L2, ht1⟩ := ht
    obtain ⟨fw, gw, hw1⟩ := hw
    have slot : ∀ i, i < 6 → i ≠ s.2.2.1.length → c0 + 65 + 11 * P i + 11 ≤ c ∨ c + 11 ≤ c0 + 65 + 11 * P i := by
      intro i hi hne
      have : P i ≠ P s.2.2.1.length := fun z => hne (hP i _ hi hi6 z)
      omega
    have fin : ∀ (h9 : Hp) (FL' : List Fl) (pl' : Int32) (Fn' : Nat → Fl), h9.1 = h8.1 → h9.2.1 = h8.2.1 → (∀ q, q ≠ c0 → h9.2.2 q = h8.2.2 q) → h9.2.2 c0 = some (true, .inr (6, [.ref (c0 + 1), .ref (c0 + 3), .ref (c0 + 5), .int (nI FL'.length), .int pl', .ref kr, .ref kt, .ref (c0 + 62)])) → FL'.length ≤ 6 → (∀ i, i ≠ s.2.2.1.length → Fn' i = Fn i) → (∀ i, i < FL'.length → FL'[i]? = some (Fn' i)) → CFs h8 c (Fn' s.2.2.1.length).1 (Fn' s.2.2.1.length).2 → CPs h9 c0 ([], s.2.1, FL', pl', s.2.2.2.2) ∧ FC c0 h h9 := by
      intro h9 FL' pl' Fn' g1 g2 g3 g4 g5 g6 g7 g8
      have hall9 : ∀ q, q < h.1 → (q < c ∨ c + 11 ≤ q) → (q < c0 ∨ c0 + 3 ≤ q) → h9.2.2 q = h.2.2 q := fun q z1 z2 z3 => (g3 q (by omega)).trans (hall q z1 z2 (by omega))
      refine ⟨⟨P, Fn', kr, kt, g, g4, hkk, hT8.eq (fun q z1 z2 => g3 q (by omega)), hO.eq (fun q z1 z2 => hall9 q (by omega) (by omega) (by omega)), (hall9 _ (by omega) (by omega) (by omega)).trans hF, hg, hP, fun i hi => ?_, g7, ⟨Q1, pc1, L1, hr1.eq (fun q z1 z2 => hall9 q (by omega) (by omega) (by omega)), hr2⟩, ⟨Q2, pc2, L2, ht1.eq (fun q z1 z2 => hall9 q (by omega) (by omega) (by omega))⟩, ⟨fw, gw, hw1.eq (fun q z1 z2 => hall9 q (by omega) (by omega) (by omega))⟩, g5⟩, by omega, by omega, by omega, by omega, fun q z1 z2 => hall9 q z1 (by omega) (by omega)⟩
      by_cases e : i = s.2.2.1.length
      · subst e; rw [hcc]; exact CF.eq g8 (fun q z1 z2 => g3 q (by omega))
      · rw [g6 i e]
        have := slot i hi e
        have := (hg i hi).2
        exact CF.eq (hCF i hi) (fun q z1 z2 => hall9 q (by omega) (by omega) (by omega))
    have hlen6 : s.2.2.1.length + 1 ≤ 6 := by omega
    refine EvQ_of k_CP_read 3 [some (.ref c0), none, none] rfl (Nat.le_of_ble_eq_true rfl) rfl ?_
    cases hpr : p_read s.1 with
    | inl e =>
      rw [hpr] at hm8
      obtain ⟨q1, q2, q3⟩ := hm8
      have hf0 : f8 ≠ 0 := by omega
      subst q1
      subst q2
      refine Ex_mv rfl rfl ?_; refine Ex_getf rfl (by assumption) rfl ?_; refine Ex_mv rfl rfl ?_; refine Ex_lt0 (by omega) ?_; refine Ex_mv rfl rfl ?_; refine Ex_getf rfl (by assumption) rfl ?_; refine Ex_mv rfl rfl ?_; refine Ex_getf rfl (by assumption) rfl ?_; refine Ex_alen rfl (by assumption) rfl ?_; refine Ex_mv rfl rfl ?_; refine Ex_ift (nI_lt (by omega) (by omega)) ?_; refine Ex_mv rfl rfl ?_; refine Ex_getf rfl (by assumption) rfl ?_; refine Ex_mv rfl rfl ?_; refine Ex_getf rfl (by assumption) rfl ?_; refine Ex_aald rfl (by assumption) rfl (vp_in_nI (by omega) (by decide)) hge ?_; refine Ex_mv rfl rfl ?_; refine Ex_mv rfl rfl ?_; refine Ex_mv rfl rfl ?_; refine Ex_getf rfl (by assumption) rfl ?_; refine Ex_invV rfl (by rfl) (by rfl) (by assumption) (by rfl) (e1) ?_; refine Ex_mv rfl rfl ?_; refine Ex_getf rfl (by assumption) rfl ?_; refine Ex_invV rfl (by rfl) (by rfl) (by assumption) (by rfl) (e2) ?_; refine Ex_new rfl ?_; refine Ex_mv rfl rfl ?_; refine Ex_mv rfl rfl ?_; refine Ex_invI rfl (by rfl) (by rfl) (by rfl) (e4) ?_; refine Ex_mv rfl rfl ?_; refine Ex_mv rfl rfl ?_; refine Ex_invV rfl (by rfl) (by rfl) (by assumption) (by rfl) (e5) ?_; refine Ex_mv rfl rfl ?_; refine Ex_invV rfl (by rfl) (by rfl) (by assumption) (by rfl) (e6) ?_; refine Ex_mv rfl rfl ?_; refine Ex_mv rfl rfl ?_; refine Ex_invV rfl (by rfl) (by rfl) (by assumption) (by rfl) (e7) ?_; refine Ex_mv rfl rfl ?_; refine Ex_mv rfl rfl ?_; refine Ex_invV rfl (by rfl) (by rfl) (by assumption) (by rfl) (e8) ?_; refine Ex_mv rfl rfl ?_; refine Ex_mv rfl rfl ?_; refine Ex_getf rfl (by assumption) rfl ?_; refine Ex_putf rfl (by assumption) rfl rfl ?_; refine Ex_mv rfl rfl ?_; refine Ex_getf rfl (hRd9 _) rfl ?_; refine Ex_mv rfl rfl ?_; refine Ex_iff (nI_nz hf0 (by omega)) ?_; refine Ex_mv rfl rfl ?_; refine Ex_mv rfl rfl ?_; refine Ex_getf rfl (hRd9 _) rfl ?_; (first | refine Ex_subN rfl (by omega) ?_ | refine Ex_mv rfl rfl ?_)
      refine Ex_rt rfl rfl ?_
      refine ⟨rfl, ?_⟩
      exact fin _ s.2.2.1 (nI e.2) (fun i => if i = s.2.2.1.length then (s.1, x8) else Fn i) rfl rfl (fun q hq => if_neg hq) hs_at hl (fun i hi => if_neg hi) (fun i hi => by rw [if_neg (by omega)]; exact hFn i hi) (by rw [if_pos rfl]; exact hC8)
    | inr e =>
      obtain ⟨ae, xe⟩ := e
      rw [hpr] at hm8
      obtain ⟨rfl, rfl, q3, q4, q5⟩ := hm8
      subst q4
      have hlast : ∀ i, i < (s.2.2.1 ++ [(s.1, x8)]).length → (s.2.2.1 ++ [(s.1, x8)])[i]? = some (if i = s.2.2.1.length then (s.1, x8) else Fn i) := by
        intro i hi
        by_cases e : i = s.2.2.1.length
        · subst e; rw [if_pos rfl]; simp
        · rw [if_neg e, List.getElem?_append_left (by simp at hi; omega)]
          exact hFn i (by simp at hi; omega)
      refine Ex_mv rfl rfl ?_; refine Ex_getf rfl (by assumption) rfl ?_; refine Ex_mv rfl rfl ?_; refine Ex_lt0 (by omega) ?_; refine Ex_mv rfl rfl ?_; refine Ex_getf rfl (by assumption) rfl ?_; refine Ex_mv rfl rfl ?_; refine Ex_getf rfl (by assumption) rfl ?_; refine Ex_alen rfl (by assumption) rfl ?_; refine Ex_mv rfl rfl ?_; refine Ex_ift (nI_lt (by omega) (by omega)) ?_; refine Ex_mv rfl rfl ?_; refine Ex_getf rfl (by assumption) rfl ?_; refine Ex_mv rfl rfl ?_; refine Ex_getf rfl (by assumption) rfl ?_; refine Ex_aald rfl (by assumption) rfl (vp_in_nI (by omega) (by decide)) hge ?_; refine Ex_mv rfl rfl ?_; refine Ex_mv rfl rfl ?_; refine Ex_mv rfl rfl ?_; refine Ex_getf rfl (by assumption) rfl ?_; refine Ex_invV rfl (by rfl) (by rfl) (by assumption) (by rfl) (e1) ?_; refine Ex_mv rfl rfl ?_; refine Ex_getf rfl (by assumption) rfl ?_; refine Ex_invV rfl (by rfl) (by rfl) (by assumption) (by rfl) (e2) ?_; refine Ex_new rfl ?_; refine Ex_mv rfl rfl ?_; refine Ex_mv rfl rfl ?_; refine Ex_invI rfl (by rfl) (by rfl) (by rfl) (e4) ?_; refine Ex_mv rfl rfl ?_; refine Ex_mv rfl rfl ?_; refine Ex_invV rfl (by rfl) (by rfl) (by assumption) (by rfl) (e5) ?_; refine Ex_mv rfl rfl ?_; refine Ex_invV rfl (by rfl) (by rfl) (by assumption) (by rfl) (e6) ?_; refine Ex_mv rfl rfl ?_; refine Ex_mv rfl rfl ?_; refine Ex_invV rfl (by rfl) (by rfl) (by assumption) (by rfl) (e7) ?_; refine Ex_mv rfl rfl ?_; refine Ex_mv rfl rfl ?_; refine Ex_invV rfl (by rfl) (by rfl) (by assumption) (by rfl) (e8) ?_; refine Ex_mv rfl rfl ?_; refine Ex_mv rfl rfl ?_; refine Ex_getf rfl (by assumption) rfl ?_; refine Ex_putf rfl (by assumption) rfl rfl ?_; refine Ex_mv rfl rfl ?_; refine Ex_getf rfl (hRd9 _) rfl ?_; refine Ex_mv rfl rfl ?_; refine Ex_ift (by decide) ?_; refine Ex_mv rfl rfl ?_; refine Ex_mv rfl rfl ?_; refine Ex_getf rfl hs_at rfl ?_; refine Ex_mv rfl rfl ?_; (first | refine Ex_addN rfl ?_ | refine Ex_mv rfl rfl ?_); refine Ex_putf rfl hs_at rfl rfl ?_; refine Ex_mv rfl rfl ?_; refine Ex_getf rfl hs_at rfl ?_; refine Ex_mv rfl rfl ?_; (first | refine Ex_subN rfl (by omega) ?_ | refine Ex_mv rfl rfl ?_)
      refine Ex_rt rfl rfl ?_
      refine ⟨by rw [Nat.add_sub_cancel], ?_⟩
      exact fin _ (s.2.2.1 ++ [(s.1, x8)]) (-1) (fun i => if i = s.2.2.1.length then (s.1, x8) else Fn i) rfl rfl (fun q hq => (if_neg hq).trans (if_neg hq)) (by rw [List.length_append]; exact hs_at) (by simp; omega) (fun i hi => if_neg hi) hlast (by rw [if_pos rfl]; exact hC8)
end READ
