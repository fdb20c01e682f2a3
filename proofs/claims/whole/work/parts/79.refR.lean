/-! the other side: orders, a sorted row of meanings -/
theorem lg_c3 (a b : Int64) : lg_cmp a b = c3L a b := by
  unfold c3L
  by_cases h1 : a < b
  · have h2 : ¬ b < a := fun q => Int64.lt_irrefl (Int64.lt_trans h1 q)
    have h3 : ¬ a = b := fun q => by subst q; exact Int64.lt_irrefl h1
    rw [if_pos h1]; simp [lg_cmp, h2, h3]
  · rw [if_neg h1]
    by_cases h2 : a = b
    · rw [if_pos h2]; subst h2; simp [lg_cmp, Int64.lt_irrefl]; rfl
    · have h3 : b < a := by
        rcases Int64.le_total a b with q | q
        · exact absurd (Int64.lt_of_le_of_ne q h2) h1
        · exact Int64.lt_of_le_of_ne q (fun z => h2 z.symm)
      rw [if_neg h2]; simp [lg_cmp, h3]; rfl
section REFR
variable {nb sa : Nat} {h : Hp}
theorem MO_compare_loop {t u : Nat} {A B : List Nat} (hA : BA h t A) (hB : BA h u B) : ∀ (d k : Nat), k + d = A.length → k ≤ B.length → Ex (prog nb sa) k_MO_compare 2 [some (.ref t), some (.ref u), some (.int (nI k))] [] h (fun v h' => v = some (.int (cmpL (A.drop k) (B.drop k))) ∧ h' = h) := by
  obtain ⟨w, g, a1, a2, a3, a4⟩ := hA
  obtain ⟨w', g', b1', b2', b3', b4'⟩ := hB
  intro d
  have ji := c_JI_compare (nb := nb) (sa := sa) (h := h) (a := A.length) (b := B.length) (by omega) (by omega)
  have last : ∀ k, k ≤ A.length → k ≤ B.length → k = A.length ∨ k = B.length → cmpL (A.drop k) (B.drop k) = c3 A.length B.length := by
    intro k h1 h2 h3
    rw [cmpL_nil (A.length - k) (B.length - k) _ _ (by simp) (by simp) (by omega), ← c3_shift _ _ k, Nat.sub_add_cancel h1, Nat.sub_add_cancel h2]
  induction d with
  | zero =>
    intro k hk hkb
    have e := last k (by omega) hkb (Or.inl (by omega))
    rw [e]
    refine Ex_mv rfl rfl ?_; refine Ex_mv rfl rfl ?_; refine Ex_alen rfl a1 rfl ?_; refine Ex_mv rfl rfl ?_; refine Ex_ift (nI_le (by omega) (by omega)) ?_; refine Ex_mv rfl rfl ?_; refine Ex_alen rfl a1 rfl ?_; refine Ex_mv rfl rfl ?_; refine Ex_alen rfl b1' rfl ?_; refine Ex_inv rfl (by rfl) (by rfl) (by rfl) (ji) ?_
    exact Ex_rt rfl rfl ⟨rfl, rfl⟩
  | succ d ih =>
    intro k hk hkb
    have eA := BA.get (T := A) a2 a4 (k := k) (by omega)
    have lA := b1_lt a3 k
    by_cases hb : k = B.length
    · have e := last k (by omega) hkb (Or.inr hb)
      rw [e]
      refine Ex_mv rfl rfl ?_; refine Ex_mv rfl rfl ?_; refine Ex_alen rfl a1 rfl ?_; refine Ex_mv rfl rfl ?_; refine Ex_iff (nI_ge (by omega) (by omega)) ?_; refine Ex_mv rfl rfl ?_; refine Ex_mv rfl rfl ?_; refine Ex_alen rfl b1' rfl ?_; refine Ex_mv rfl rfl ?_; refine Ex_ift (nI_le (by omega) (by omega)) ?_; refine Ex_mv rfl rfl ?_; refine Ex_alen rfl a1 rfl ?_; refine Ex_mv rfl rfl ?_; refine Ex_alen rfl b1' rfl ?_; refine Ex_inv rfl (by rfl) (by rfl) (by rfl) (ji) ?_
      exact Ex_rt rfl rfl ⟨rfl, rfl⟩
    · have eB := BA.get (T := B) b2' b4' (k := k) (by omega)
      have lB := b1_lt b3' k
      have dA : A.drop k = b1 A k :: A.drop (k + 1) := by
        unfold b1; rw [List.getD_eq_getElem?_getD, List.getElem?_eq_getElem (by omega), Option.getD_some]; exact List.drop_eq_getElem_cons (by omega)
      have dB : B.drop k = b1 B k :: B.drop (k + 1) := by
        unfold b1; rw [List.getD_eq_getElem?_getD, List.getElem?_eq_getElem (by omega), Option.getD_some]; exact List.drop_eq_getElem_cons (by omega)
      rw [dA, dB]
      unfold cmpL
      by_cases e : b1 A k = b1 B k
      · rw [if_pos e]
        have ih' := ih (k + 1) (by omega) (by omega)
        refine Ex_mv rfl rfl ?_; refine Ex_mv rfl rfl ?_; refine Ex_alen rfl a1 rfl ?_; refine Ex_mv rfl rfl ?_; refine Ex_iff (nI_ge (by omega) (by omega)) ?_; refine Ex_mv rfl rfl ?_; refine Ex_mv rfl rfl ?_; refine Ex_alen rfl b1' rfl ?_; refine Ex_mv rfl rfl ?_; refine Ex_iff (nI_ge (by omega) (by omega)) ?_; refine Ex_mv rfl rfl ?_; refine Ex_mv rfl rfl ?_; refine Ex_iald rfl a1 (vp_in_nI (by omega) (by omega)) ?_
        rw [eA]
        refine Ex_mv rfl rfl ?_; refine Ex_mv rfl rfl ?_; refine Ex_iald rfl b1' (vp_in_nI (by omega) (by omega)) ?_
        rw [eB]
        refine Ex_mv rfl rfl ?_; refine Ex_ift (by rw [e]) ?_; (first | refine Ex_incN rfl rfl ?_ | refine Ex_mv rfl rfl ?_); refine Ex_mv rfl rfl ?_
        exact ih'
      · rw [if_neg e]
        have nb1 : ¬ sb_b (b1 A k) = sb_b (b1 B k) := fun z => e (by
          have := congrArg (fun y => y &&& nI 255) z
          simp only [sb_and lA, sb_and lB] at this
          exact (nI_eq (by omega) (by omega)).mp this)
        unfold c3
        rw [if_neg e]
        by_cases l : b1 A k < b1 B k
        · rw [if_pos l]
          refine Ex_mv rfl rfl ?_; refine Ex_mv rfl rfl ?_; refine Ex_alen rfl a1 rfl ?_; refine Ex_mv rfl rfl ?_; refine Ex_iff (nI_ge (by omega) (by omega)) ?_; refine Ex_mv rfl rfl ?_; refine Ex_mv rfl rfl ?_; refine Ex_alen rfl b1' rfl ?_; refine Ex_mv rfl rfl ?_; refine Ex_iff (nI_ge (by omega) (by omega)) ?_; refine Ex_mv rfl rfl ?_; refine Ex_mv rfl rfl ?_; refine Ex_iald rfl a1 (vp_in_nI (by omega) (by omega)) ?_
          rw [eA]
          refine Ex_mv rfl rfl ?_; refine Ex_mv rfl rfl ?_; refine Ex_iald rfl b1' (vp_in_nI (by omega) (by omega)) ?_
          rw [eB]
          refine Ex_mv rfl rfl ?_; refine Ex_iff nb1 ?_; refine Ex_mv rfl rfl ?_; refine Ex_mv rfl rfl ?_; refine Ex_iald rfl a1 (vp_in_nI (by omega) (by omega)) ?_
          rw [eA]
          refine Ex_mv rfl rfl ?_; refine Ex_iand rfl ?_
          rw [sb_and lA]
          refine Ex_mv rfl rfl ?_; refine Ex_mv rfl rfl ?_; refine Ex_iald rfl b1' (vp_in_nI (by omega) (by omega)) ?_
          rw [eB]
          refine Ex_mv rfl rfl ?_; refine Ex_iand rfl ?_
          rw [sb_and lB]
          refine Ex_mv rfl rfl ?_; refine Ex_iff (nI_ge (by omega) (by omega)) ?_; refine Ex_mv rfl rfl ?_; refine Ex_mv rfl rfl ?_
          exact Ex_rt rfl rfl ⟨rfl, rfl⟩
        · rw [if_neg l]
          refine Ex_mv rfl rfl ?_; refine Ex_mv rfl rfl ?_; refine Ex_alen rfl a1 rfl ?_; refine Ex_mv rfl rfl ?_; refine Ex_iff (nI_ge (by omega) (by omega)) ?_; refine Ex_mv rfl rfl ?_; refine Ex_mv rfl rfl ?_; refine Ex_alen rfl b1' rfl ?_; refine Ex_mv rfl rfl ?_; refine Ex_iff (nI_ge (by omega) (by omega)) ?_; refine Ex_mv rfl rfl ?_; refine Ex_mv rfl rfl ?_; refine Ex_iald rfl a1 (vp_in_nI (by omega) (by omega)) ?_
          rw [eA]
          refine Ex_mv rfl rfl ?_; refine Ex_mv rfl rfl ?_; refine Ex_iald rfl b1' (vp_in_nI (by omega) (by omega)) ?_
          rw [eB]
          refine Ex_mv rfl rfl ?_; refine Ex_iff nb1 ?_; refine Ex_mv rfl rfl ?_; refine Ex_mv rfl rfl ?_; refine Ex_iald rfl a1 (vp_in_nI (by omega) (by omega)) ?_
          rw [eA]
          refine Ex_mv rfl rfl ?_; refine Ex_iand rfl ?_
          rw [sb_and lA]
          refine Ex_mv rfl rfl ?_; refine Ex_mv rfl rfl ?_; refine Ex_iald rfl b1' (vp_in_nI (by omega) (by omega)) ?_
          rw [eB]
          refine Ex_mv rfl rfl ?_; refine Ex_iand rfl ?_
          rw [sb_and lB]
          refine Ex_mv rfl rfl ?_; refine Ex_ift (nI_le (by omega) (by omega)) ?_; refine Ex_mv rfl rfl ?_
          exact Ex_rt rfl rfl ⟨rfl, rfl⟩
theorem c_MO_compare {t u : Nat} {A B : List Nat} (hA : BA h t A) (hB : BA h u B) : Ev (prog nb sa) m_MO_compare [.ref t, .ref u] h (some (.int (cmpL A B))) h := by
  have lp := MO_compare_loop (nb := nb) (sa := sa) hA hB A.length 0 (Nat.zero_add _) (Nat.zero_le _)
  refine Ev_ofL k_MO_compare 3 [some (.ref t), some (.ref u), none] rfl (Nat.le_of_ble_eq_true rfl) rfl ?_
  refine Ex_mv rfl rfl ?_; refine Ex_mv rfl rfl ?_
  exact lp
theorem c_MO_compare_ {mu : Nat → Prop} {t u : Nat} {x y : Mng} (hx : MGk mu h t x) (hy : MGk mu h u y) : Ev (prog nb sa) m_MO_compare_ [.ref t, .ref u] h (some (.int (cmpM x y))) h := by
  obtain ⟨xa, xb, xc, x1, x2, x3, x4, x5, x6⟩ := hx
  obtain ⟨ya, yb, yc, y1, y2, y3, y4, y5, y6⟩ := hy
  have ca := c_MO_compare (nb := nb) (sa := sa) x2.1 y2.1
  have cb := c_MO_compare (nb := nb) (sa := sa) x3.1 y3.1
  have cc := c_MO_compare (nb := nb) (sa := sa) x4.1 y4.1
  refine Ev_ofL k_MO_compare_ 3 [some (.ref t), some (.ref u), none] rfl (Nat.le_of_ble_eq_true rfl) rfl ?_
  unfold cmpM
  by_cases e1 : x.1 = y.1
  · rw [if_neg (not_not_intro e1)]
    have e1' : nI x.1 = nI y.1 := by rw [e1]
    by_cases e2 : c3L x.2.1 y.2.1 = nI 0
    · rw [if_neg (not_not_intro e2)]
      by_cases e3 : cmpL x.2.2.1 y.2.2.1 = nI 0
      · rw [if_neg (not_not_intro e3)]
        by_cases e4 : cmpL x.2.2.2.1 y.2.2.2.1 = nI 0
        · rw [if_neg (not_not_intro e4)]
          refine Ex_mv rfl rfl ?_; refine Ex_getf rfl x1 rfl ?_; refine Ex_mv rfl rfl ?_; refine Ex_getf rfl y1 rfl ?_; refine Ex_mv rfl rfl ?_; refine Ex_ift e1' ?_; refine Ex_mv rfl rfl ?_; refine Ex_getf rfl x1 rfl ?_; refine Ex_mv rfl rfl ?_; refine Ex_getf rfl y1 rfl ?_; refine Ex_mv rfl rfl ?_
          rw [lg_c3]
          refine Ex_mv rfl rfl ?_; refine Ex_ift e2 ?_; refine Ex_mv rfl rfl ?_; refine Ex_getf rfl x1 rfl ?_; refine Ex_mv rfl rfl ?_; refine Ex_getf rfl y1 rfl ?_; refine Ex_inv rfl (by rfl) (by rfl) (by rfl) (ca) ?_; refine Ex_mv rfl rfl ?_; refine Ex_mv rfl rfl ?_; refine Ex_mv rfl rfl ?_; refine Ex_iff (not_not_intro e3) ?_; refine Ex_mv rfl rfl ?_; refine Ex_getf rfl x1 rfl ?_; refine Ex_mv rfl rfl ?_; refine Ex_getf rfl y1 rfl ?_; refine Ex_inv rfl (by rfl) (by rfl) (by rfl) (cb) ?_; refine Ex_mv rfl rfl ?_; refine Ex_mv rfl rfl ?_; refine Ex_mv rfl rfl ?_; refine Ex_mv rfl rfl ?_; refine Ex_iff (not_not_intro e4) ?_; refine Ex_mv rfl rfl ?_; refine Ex_getf rfl x1 rfl ?_; refine Ex_mv rfl rfl ?_; refine Ex_getf rfl y1 rfl ?_; refine Ex_inv rfl (by rfl) (by rfl) (by rfl) (cc) ?_; refine Ex_mv rfl rfl ?_
          exact Ex_rt rfl rfl ⟨rfl, rfl⟩
        · rw [if_pos e4]
          refine Ex_mv rfl rfl ?_; refine Ex_getf rfl x1 rfl ?_; refine Ex_mv rfl rfl ?_; refine Ex_getf rfl y1 rfl ?_; refine Ex_mv rfl rfl ?_; refine Ex_ift e1' ?_; refine Ex_mv rfl rfl ?_; refine Ex_getf rfl x1 rfl ?_; refine Ex_mv rfl rfl ?_; refine Ex_getf rfl y1 rfl ?_; refine Ex_mv rfl rfl ?_
          rw [lg_c3]
          refine Ex_mv rfl rfl ?_; refine Ex_ift e2 ?_; refine Ex_mv rfl rfl ?_; refine Ex_getf rfl x1 rfl ?_; refine Ex_mv rfl rfl ?_; refine Ex_getf rfl y1 rfl ?_; refine Ex_inv rfl (by rfl) (by rfl) (by rfl) (ca) ?_; refine Ex_mv rfl rfl ?_; refine Ex_mv rfl rfl ?_; refine Ex_mv rfl rfl ?_; refine Ex_iff (not_not_intro e3) ?_; refine Ex_mv rfl rfl ?_; refine Ex_getf rfl x1 rfl ?_; refine Ex_mv rfl rfl ?_; refine Ex_getf rfl y1 rfl ?_; refine Ex_inv rfl (by rfl) (by rfl) (by rfl) (cb) ?_; refine Ex_mv rfl rfl ?_; refine Ex_mv rfl rfl ?_; refine Ex_mv rfl rfl ?_; refine Ex_mv rfl rfl ?_; refine Ex_ift e4 ?_; refine Ex_mv rfl rfl ?_
          exact Ex_rt rfl rfl ⟨rfl, rfl⟩
      · rw [if_pos e3]
        refine Ex_mv rfl rfl ?_; refine Ex_getf rfl x1 rfl ?_; refine Ex_mv rfl rfl ?_; refine Ex_getf rfl y1 rfl ?_; refine Ex_mv rfl rfl ?_; refine Ex_ift e1' ?_; refine Ex_mv rfl rfl ?_; refine Ex_getf rfl x1 rfl ?_; refine Ex_mv rfl rfl ?_; refine Ex_getf rfl y1 rfl ?_; refine Ex_mv rfl rfl ?_
        rw [lg_c3]
        refine Ex_mv rfl rfl ?_; refine Ex_ift e2 ?_; refine Ex_mv rfl rfl ?_; refine Ex_getf rfl x1 rfl ?_; refine Ex_mv rfl rfl ?_; refine Ex_getf rfl y1 rfl ?_; refine Ex_inv rfl (by rfl) (by rfl) (by rfl) (ca) ?_; refine Ex_mv rfl rfl ?_; refine Ex_mv rfl rfl ?_; refine Ex_mv rfl rfl ?_; refine Ex_ift e3 ?_; refine Ex_mv rfl rfl ?_; refine Ex_mv rfl rfl ?_; refine Ex_mv rfl rfl ?_; refine Ex_mv rfl rfl ?_; refine Ex_ift e3 ?_; refine Ex_mv rfl rfl ?_
        exact Ex_rt rfl rfl ⟨rfl, rfl⟩
    · rw [if_pos e2]
      rcases c3L_good.1 x.2.1 y.2.1 with q | q | q
      · rw [q]
        refine Ex_mv rfl rfl ?_; refine Ex_getf rfl x1 rfl ?_; refine Ex_mv rfl rfl ?_; refine Ex_getf rfl y1 rfl ?_; refine Ex_mv rfl rfl ?_; refine Ex_ift e1' ?_; refine Ex_mv rfl rfl ?_; refine Ex_getf rfl x1 rfl ?_; refine Ex_mv rfl rfl ?_; refine Ex_getf rfl y1 rfl ?_; refine Ex_mv rfl rfl ?_
        rw [lg_c3]
        refine Ex_mv rfl rfl ?_; refine Ex_iff e2 ?_; refine Ex_mv rfl rfl ?_; refine Ex_getf rfl x1 rfl ?_; refine Ex_mv rfl rfl ?_; refine Ex_getf rfl y1 rfl ?_; refine Ex_mv rfl rfl ?_
        rw [lg_c3, q]
        refine Ex_mv rfl rfl ?_; refine Ex_iff (by decide) ?_; refine Ex_mv rfl rfl ?_; refine Ex_mv rfl rfl ?_
        exact Ex_rt rfl rfl ⟨rfl, rfl⟩
      · exact absurd q e2
      · rw [q]
        refine Ex_mv rfl rfl ?_; refine Ex_getf rfl x1 rfl ?_; refine Ex_mv rfl rfl ?_; refine Ex_getf rfl y1 rfl ?_; refine Ex_mv rfl rfl ?_; refine Ex_ift e1' ?_; refine Ex_mv rfl rfl ?_; refine Ex_getf rfl x1 rfl ?_; refine Ex_mv rfl rfl ?_; refine Ex_getf rfl y1 rfl ?_; refine Ex_mv rfl rfl ?_
        rw [lg_c3]
        refine Ex_mv rfl rfl ?_; refine Ex_iff e2 ?_; refine Ex_mv rfl rfl ?_; refine Ex_getf rfl x1 rfl ?_; refine Ex_mv rfl rfl ?_; refine Ex_getf rfl y1 rfl ?_; refine Ex_mv rfl rfl ?_
        rw [lg_c3, q]
        refine Ex_mv rfl rfl ?_; refine Ex_ift (by decide) ?_; refine Ex_mv rfl rfl ?_
        exact Ex_rt rfl rfl ⟨rfl, rfl⟩
  · rw [if_pos e1]
    have e1' : ¬ nI x.1 = nI y.1 := fun z => e1 ((nI_eq (by omega) (by omega)).mp z)
    unfold c3
    rw [if_neg e1]
    by_cases l : x.1 < y.1
    · rw [if_pos l]
      refine Ex_mv rfl rfl ?_; refine Ex_getf rfl x1 rfl ?_; refine Ex_mv rfl rfl ?_; refine Ex_getf rfl y1 rfl ?_; refine Ex_mv rfl rfl ?_; refine Ex_iff e1' ?_; refine Ex_mv rfl rfl ?_; refine Ex_getf rfl x1 rfl ?_; refine Ex_mv rfl rfl ?_; refine Ex_getf rfl y1 rfl ?_; refine Ex_mv rfl rfl ?_; refine Ex_iff (nI_ge l (by omega)) ?_; refine Ex_mv rfl rfl ?_; refine Ex_mv rfl rfl ?_
      exact Ex_rt rfl rfl ⟨rfl, rfl⟩
    · rw [if_neg l]
      refine Ex_mv rfl rfl ?_; refine Ex_getf rfl x1 rfl ?_; refine Ex_mv rfl rfl ?_; refine Ex_getf rfl y1 rfl ?_; refine Ex_mv rfl rfl ?_; refine Ex_iff e1' ?_; refine Ex_mv rfl rfl ?_; refine Ex_getf rfl x1 rfl ?_; refine Ex_mv rfl rfl ?_; refine Ex_getf rfl y1 rfl ?_; refine Ex_mv rfl rfl ?_; refine Ex_ift (nI_le (by omega) (by omega)) ?_; refine Ex_mv rfl rfl ?_
      exact Ex_rt rfl rfl ⟨rfl, rfl⟩
/-- a row that holds meanings in its first places -/
def AR (mu : Nat → Prop) (h : Hp) (J JL : Nat) (M : List Mng) : Prop := ∃ gJ, h.2.2 J = some (true, .inl (10, JL, .inr (.inr (.inr (.inr gJ))))) ∧ ∀ j m, M[j]? = some m → ∃ u, gJ j = some u ∧ MGk mu h u m
noncomputable def fdI (M : List Mng) (m : Mng) : Int32 := if m ∈ M then nI (lowM M m) else -(nI (lowM M m)) - nI 1
theorem MO_find_loop {mu : Nat → Prop} {J JL u : Nat} {M : List Mng} {m : Mng} (hA : AR mu h J JL M) (hl : M.length ≤ JL) (hJL : JL ≤ 152) (hu : MGk mu h u m) (hs : SoM M) : ∀ (d k : Nat) (x4 : Option Value), k + d = lowM M m → Ex (prog nb sa) k_MO_find 2 [some (.ref J), some (.int (nI M.length)), some (.ref u), some (.int (nI k)), x4] [] h (fun v h' => v = some (.int (fdI M m)) ∧ h' = h) := by
  obtain ⟨gJ, j1, j2⟩ := hA
  have hlow := lowM_le M m
  intro d
  induction d with
  | zero =>
    intro k x4 hk
    have hk' : k = lowM M m := by omega
    subst hk'
    by_cases hlt : lowM M m < M.length
    · obtain ⟨v, v1, v2⟩ := j2 (lowM M m) M[lowM M m] (List.getElem?_eq_getElem hlt)
      have eg : gJ (nI (lowM M m)).toNatClampNeg = some v := by rw [nI_clamp (by omega)]; exact v1
      have cm := c_MO_compare_ (nb := nb) (sa := sa) v2 hu
      have hge := lowM_ge M (lowM M m) hlt hs (Nat.le_refl _)
      unfold fdI
      by_cases hm : m ∈ M
      · have heq := lowM_has M hs hm
        rw [List.getElem?_eq_getElem hlt] at heq
        have e0 : cmpM M[lowM M m] m = nI 0 := cmpM_eq.mpr (Option.some.inj heq)
        rw [e0] at cm
        rw [if_pos hm]
        refine Ex_mv rfl rfl ?_; refine Ex_mv rfl rfl ?_; refine Ex_mv rfl rfl ?_; refine Ex_iff (nI_ge (by omega) (by omega)) ?_; refine Ex_mv rfl rfl ?_; refine Ex_mv rfl rfl ?_; refine Ex_aald rfl j1 rfl (vp_in_nI (by omega) (by omega)) eg ?_; refine Ex_mv rfl rfl ?_; refine Ex_inv rfl (by rfl) (by rfl) (by rfl) (cm) ?_; refine Ex_mv rfl rfl ?_; refine Ex_mv rfl rfl ?_; refine Ex_mv rfl rfl ?_; refine Ex_iff (by decide) ?_; refine Ex_mv rfl rfl ?_; refine Ex_mv rfl rfl ?_; refine Ex_iff (by decide) ?_; refine Ex_mv rfl rfl ?_; refine Ex_mv rfl rfl ?_
        exact Ex_rt rfl rfl ⟨rfl, rfl⟩
      · have e1 : cmpM M[lowM M m] m = nI 1 := by
          rcases cmpM_good.1 M[lowM M m] m with q | q | q
          · exact absurd q hge
          · exact absurd (by rw [← cmpM_eq.mp q]; exact List.getElem_mem hlt) hm
          · exact q
        rw [e1] at cm
        rw [if_neg hm]
        refine Ex_mv rfl rfl ?_; refine Ex_mv rfl rfl ?_; refine Ex_mv rfl rfl ?_; refine Ex_iff (nI_ge (by omega) (by omega)) ?_; refine Ex_mv rfl rfl ?_; refine Ex_mv rfl rfl ?_; refine Ex_aald rfl j1 rfl (vp_in_nI (by omega) (by omega)) eg ?_; refine Ex_mv rfl rfl ?_; refine Ex_inv rfl (by rfl) (by rfl) (by rfl) (cm) ?_; refine Ex_mv rfl rfl ?_; refine Ex_mv rfl rfl ?_; refine Ex_mv rfl rfl ?_; refine Ex_iff (by decide) ?_; refine Ex_mv rfl rfl ?_; refine Ex_mv rfl rfl ?_; refine Ex_ift (by decide) ?_; refine Ex_mv rfl rfl ?_; refine Ex_mv rfl rfl ?_; refine Ex_mv rfl rfl ?_
        refine Ex_mv rfl rfl ?_; exact Ex_rt rfl rfl ⟨rfl, rfl⟩
    · have hm : ¬ m ∈ M := fun hm => by
        have := lowM_has M hs hm
        exact hlt (List.getElem?_eq_some_iff.mp this).1
      unfold fdI
      rw [if_neg hm, show lowM M m = M.length by omega]
      refine Ex_mv rfl rfl ?_; refine Ex_mv rfl rfl ?_; refine Ex_mv rfl rfl ?_; refine Ex_ift (nI_le (by omega) (by omega)) ?_; refine Ex_mv rfl rfl ?_; refine Ex_mv rfl rfl ?_; refine Ex_mv rfl rfl ?_
      refine Ex_mv rfl rfl ?_; exact Ex_rt rfl rfl ⟨rfl, rfl⟩
  | succ d ih =>
    intro k x4 hk
    have hlt : k < M.length := by omega
    obtain ⟨v, v1, v2⟩ := j2 k M[k] (List.getElem?_eq_getElem hlt)
    have eg : gJ (nI k).toNatClampNeg = some v := by rw [nI_clamp (by omega)]; exact v1
    have cm := c_MO_compare_ (nb := nb) (sa := sa) v2 hu
    rw [lowM_lt M k hlt (by omega)] at cm
    have ih' := fun x4 => ih (k + 1) x4 (by omega)
    refine Ex_mv rfl rfl ?_; refine Ex_mv rfl rfl ?_; refine Ex_mv rfl rfl ?_; refine Ex_iff (nI_ge (by omega) (by omega)) ?_; refine Ex_mv rfl rfl ?_; refine Ex_mv rfl rfl ?_; refine Ex_aald rfl j1 rfl (vp_in_nI (by omega) (by omega)) eg ?_; refine Ex_mv rfl rfl ?_; refine Ex_inv rfl (by rfl) (by rfl) (by rfl) (cm) ?_; refine Ex_mv rfl rfl ?_; refine Ex_mv rfl rfl ?_; refine Ex_mv rfl rfl ?_; refine Ex_ift (by decide) ?_; (first | refine Ex_incN rfl rfl ?_ | refine Ex_mv rfl rfl ?_); refine Ex_mv rfl rfl ?_
    exact ih' _
theorem c_MO_find {mu : Nat → Prop} {J JL u : Nat} {M : List Mng} {m : Mng} (hA : AR mu h J JL M) (hl : M.length ≤ JL) (hJL : JL ≤ 152) (hu : MGk mu h u m) (hs : SoM M) : Ev (prog nb sa) m_MO_find [.ref J, .int (nI M.length), .ref u] h (some (.int (fdI M m))) h := by
  have lp := MO_find_loop (nb := nb) (sa := sa) hA hl hJL hu hs (lowM M m) 0 none (Nat.zero_add _)
  refine Ev_ofL k_MO_find 5 [some (.ref J), some (.int (nI M.length)), some (.ref u), none, none] rfl (Nat.le_of_ble_eq_true rfl) rfl ?_
  refine Ex_mv rfl rfl ?_; refine Ex_mv rfl rfl ?_
  exact lp
end REFR
