/-! Writer -/
/-- the place that the meaning of a rank gets -/
def hpM : List Mng → Nat → Nat
  | _, 0 => 1
  | [], _ + 1 => 1
  | m :: M, r + 1 => hpM M r + wst m.1
theorem hpM_pos : ∀ (M : List Mng) (r : Nat), 1 ≤ hpM M r
  | M, 0 => by cases M <;> exact Nat.le_refl _
  | [], _ + 1 => Nat.le_refl _
  | m :: M, r + 1 => by have := hpM_pos M r; unfold hpM; omega
theorem hpM_le : ∀ (M : List Mng) (r : Nat), hpM M r ≤ 1 + 2 * r
  | M, 0 => by cases M <;> exact Nat.le_refl _
  | [], r + 1 => by unfold hpM; omega
  | m :: M, r + 1 => by have := hpM_le M r; have := wst_b m.1; unfold hpM; omega
theorem hpM_succ : ∀ (M : List Mng) (r : Nat) (hr : r < M.length), hpM M (r + 1) = hpM M r + wst (M[r]).1
  | [], r, hr => by simp at hr
  | m :: M, 0, hr => by cases M <;> rfl
  | m :: M, r + 1, hr => by
    have hr2 : r < M.length := by simpa using hr
    have := hpM_succ M r hr2
    show hpM M (r + 1) + wst m.1 = hpM M r + wst m.1 + wst (M[r]'hr2).1
    rw [this]; omega
/-- the place that a place gets -/
noncomputable def mvP (M : List Mng) (B : List Nat) (S : Nat → Nat) (n i : Nat) : Nat := if tg B S n i = 0 then 0 else hpM M (lowM M (mng B S n i))
def WR (h : Hp) (w : Nat) (f g : Nat → Int32) : Prop := h.2.2 w = some (true, .inr (5, [.ref (w + 1), .ref (w + 2)])) ∧ h.2.2 (w + 1) = some (true, .inl (1, 61, .inl f)) ∧ h.2.2 (w + 2) = some (true, .inl (1, 61, .inl g))
theorem WR.fr {h h' : Hp} {w lo hi : Nat} {f g : Nat → Int32} (h1 : WR h w f g) (F : FrI lo hi h h') (hq : w + 3 ≤ lo ∨ hi ≤ w) : WR h' w f g := ⟨F.at h1.1 (by omega), F.at h1.2.1 (by omega), F.at h1.2.2 (by omega)⟩
section WRITER
variable {nb sa : Nat} {k pc w : Nat} {Q : Nat → Fp} {L : List (Nat × Nat)} {c n bh aa : Nat} {B M0 M1 : List Nat} {S : Nat → Nat} {TL : List (Nat × Nat)}
theorem mgs_wst {rk : Nat} (hr : rk < L.length) : wst (mg Q (L.getD rk (0, 0))).1 = wst ((mgs Q L)[rk]'(by rw [mgs_len]; exact hr)).1 := by rw [mgs_at hr]
theorem WR_move_loop1 {x5 : Option Value} : ∀ (d i : Nat) (h : Hp) (f g : Nat → Int32) (R : Option Value → Hp → Prop), i + d = L.length → L.length ≤ 61 → RK h k Q pc L → (w + 3 ≤ k ∨ k + 28 ≤ w) → WR h w f g → (∀ h' f', FrI (w + 1) (w + 2) h h' → WR h' w f' g → (∀ j, j < i → f' j = f j) → (∀ j, i ≤ j → j < L.length → f' j = nI (hpM (mgs Q L) j)) → Ex (prog nb sa) k_WR_movePlaces 58 [some (.ref w), some (.ref c), some (.ref k), some (.int (nI (hpM (mgs Q L) L.length))), some (.int (nI L.length)), x5] [] h' R) → Ex (prog nb sa) k_WR_movePlaces 5 [some (.ref w), some (.ref c), some (.ref k), some (.int (nI (hpM (mgs Q L) i))), some (.int (nI i)), x5] [] h R
  | 0, i, h, f, g, R, hd, hl, hK, hdd, hW, K => by
    have hc := hK.1
    have : i = L.length := by omega
    subst this
    refine Ex_mv rfl rfl ?_; refine Ex_mv rfl rfl ?_; refine Ex_invV rfl (by rfl) (by rfl) (by assumption) (by rfl) (c_RK_size hK) ?_; refine Ex_mv rfl rfl ?_; refine Ex_ift (nI_le (by omega) (by omega)) ?_
    exact K h f FrI.rf hW (fun _ _ => rfl) (fun j h1 h2 => by omega)
  | d + 1, i, h, f, g, R, hd, hl, hK, hdd, hW, K => by
    have hc := hK.1
    obtain ⟨w1, w2, w3⟩ := id hW
    have hir : i < L.length := by omega
    have hpl := hpM_le (mgs Q L) i
    have F1 : ∀ z, FrI (w + 1) (w + 2) h (hset h (w + 1) z) := fun z => FrI.rf.set (by omega) (by omega)
    have hK2 : ∀ z, RK (hset h (w + 1) z) k Q pc L := fun z => hK.fr (F1 z) (by omega)
    have hc2 : ∀ z, (hset h (w + 1) z).2.2 k = _ := fun z => (hK2 z).1
    have hs := hpM_succ (mgs Q L) i (by rw [mgs_len]; exact hir)
    rw [← mgs_wst hir] at hs
    have hW2 : WR (hset h (w + 1) (.inl (1, 61, .inl (upd f (nI i).toNatClampNeg (nI (hpM (mgs Q L) i)))))) w (upd f (nI i).toNatClampNeg (nI (hpM (mgs Q L) i))) g := ⟨hs_ne (by omega) w1, hs_at, hs_ne (by omega) w3⟩
    have ht : (mg Q (L.getD i (0, 0))).1 < 256 := by
      obtain ⟨p1, -⟩ := hK.pool hir
      exact tg_lt p1.row.lt _
    have ih := WR_move_loop1 (x5 := x5) d (i + 1) _ _ g R (by omega) hl (hK2 _) hdd hW2 (fun h' f' F' W' q1 q2 => K h' f' ((F1 _).tr F') W' (fun j hj => by rw [q1 j (by omega), nI_clamp (by omega), pk_un (by omega)]) (fun j hj1 hj2 => by
      by_cases e : j = i
      · rw [q1 j (by omega), e, nI_clamp (by omega), pk_us]
      · exact q2 j (by omega) hj2))
    by_cases hwd : (mg Q (L.getD i (0, 0))).1 = 5 ∨ (mg Q (L.getD i (0, 0))).1 = 6
    · have ew : wst (mg Q (L.getD i (0, 0))).1 = 2 := if_pos hwd
      rw [hs, ew] at ih
      refine Ex_mv rfl rfl ?_; refine Ex_mv rfl rfl ?_; refine Ex_invV rfl (by rfl) (by rfl) (by assumption) (by rfl) (c_RK_size hK) ?_; refine Ex_mv rfl rfl ?_; refine Ex_iff (nI_ge (by omega) (by omega)) ?_; refine Ex_mv rfl rfl ?_; refine Ex_mv rfl rfl ?_; refine Ex_getf rfl (by assumption) rfl ?_; refine Ex_alen rfl (by assumption) rfl ?_; refine Ex_mv rfl rfl ?_; refine Ex_iff (nI_ge (by omega) (by omega)) ?_; refine Ex_mv rfl rfl ?_; refine Ex_getf rfl (by assumption) rfl ?_; refine Ex_mv rfl rfl ?_; refine Ex_mv rfl rfl ?_; refine Ex_iast rfl w2 (vp_in_nI (by omega) (by decide)) ?_; refine Ex_mv rfl rfl ?_; refine Ex_mv rfl rfl ?_; refine Ex_mv rfl rfl ?_; refine Ex_invV rfl (by rfl) (by rfl) (hc2 _) (by rfl) (c_RK_tag (hK2 _) hir) ?_; refine Ex_inv rfl (by rfl) (by rfl) (by rfl) (c_CP_isWide (by omega)) ?_
      rw [if_pos hwd]
      refine Ex_mv rfl rfl ?_; refine Ex_iff (by decide) ?_; refine Ex_mv rfl rfl ?_; refine Ex_mv rfl rfl ?_; (first | refine Ex_addN rfl ?_ | refine Ex_mv rfl rfl ?_); refine Ex_mv rfl rfl ?_; (first | refine Ex_incN rfl rfl ?_ | refine Ex_mv rfl rfl ?_); refine Ex_mv rfl rfl ?_
      exact ih
    · have ew : wst (mg Q (L.getD i (0, 0))).1 = 1 := if_neg hwd
      rw [hs, ew] at ih
      refine Ex_mv rfl rfl ?_; refine Ex_mv rfl rfl ?_; refine Ex_invV rfl (by rfl) (by rfl) (by assumption) (by rfl) (c_RK_size hK) ?_; refine Ex_mv rfl rfl ?_; refine Ex_iff (nI_ge (by omega) (by omega)) ?_; refine Ex_mv rfl rfl ?_; refine Ex_mv rfl rfl ?_; refine Ex_getf rfl (by assumption) rfl ?_; refine Ex_alen rfl (by assumption) rfl ?_; refine Ex_mv rfl rfl ?_; refine Ex_iff (nI_ge (by omega) (by omega)) ?_; refine Ex_mv rfl rfl ?_; refine Ex_getf rfl (by assumption) rfl ?_; refine Ex_mv rfl rfl ?_; refine Ex_mv rfl rfl ?_; refine Ex_iast rfl w2 (vp_in_nI (by omega) (by decide)) ?_; refine Ex_mv rfl rfl ?_; refine Ex_mv rfl rfl ?_; refine Ex_mv rfl rfl ?_; refine Ex_invV rfl (by rfl) (by rfl) (hc2 _) (by rfl) (c_RK_tag (hK2 _) hir) ?_; refine Ex_inv rfl (by rfl) (by rfl) (by rfl) (c_CP_isWide (by omega)) ?_
      rw [if_neg hwd]
      refine Ex_mv rfl rfl ?_; refine Ex_ift (by decide) ?_; refine Ex_mv rfl rfl ?_; (first | refine Ex_addN rfl ?_ | refine Ex_mv rfl rfl ?_); refine Ex_mv rfl rfl ?_; (first | refine Ex_incN rfl rfl ?_ | refine Ex_mv rfl rfl ?_); refine Ex_mv rfl rfl ?_
      exact ih
theorem WR_move_loop2 {x3 : Nat} {f : Nat → Int32} : ∀ (d i : Nat) (x5 : Option Value) (h : Hp) (g : Nat → Int32), i + d = n ∨ d = 0 ∧ n ≤ i → i < 100 → L.length ≤ 61 → RK h k Q pc L → CF h c B S n bh aa M0 M1 TL → (w + 3 ≤ k ∨ k + 28 ≤ w) → (w + 3 ≤ c ∨ c + 11 ≤ w) → WR h w f g → TV B S n → SoM (mgs Q L) → (∀ j, j < L.length → f j = nI (hpM (mgs Q L) j)) → (∀ j, tg B S n j ≠ 0 → mng B S n j ∈ mgs Q L) → Ex (prog nb sa) k_WR_movePlaces 61 [some (.ref w), some (.ref c), some (.ref k), some (.int (nI x3)), some (.int (nI i)), x5] [] h (fun v h' => v = some (.int (nI x3)) ∧ FrI (w + 2) (w + 3) h h' ∧ ∃ g', WR h' w f g' ∧ (∀ j, j < i → g' j = g j) ∧ ∀ j, i ≤ j → j < n → g' j = nI (mvP (mgs Q L) B S n j))
  | 0, i, x5, h, g, hd, hi, hl, hK, hC, hd1, hd2, hW, hV, hso, hf, hall => by
    have hc := hC.1
    have hp := hC.po.1
    have hn : n ≤ 61 := hC.po.2.2.2.1
    refine Ex_mv rfl rfl ?_; refine Ex_mv rfl rfl ?_; refine Ex_getf rfl (by assumption) rfl ?_; refine Ex_invV rfl (by rfl) (by rfl) (by assumption) (by rfl) (c_PL_places hC.po) ?_; refine Ex_mv rfl rfl ?_; refine Ex_ift (nI_le (by omega) (by omega)) ?_; refine Ex_mv rfl rfl ?_
    refine Ex_rt rfl rfl ?_
    exact ⟨rfl, FrI.rf, g, hW, fun _ _ => rfl, fun j h1 h2 => by omega⟩
  | d + 1, i, x5, h, g, hd, hi, hl, hK, hC, hd1, hd2, hW, hV, hso, hf, hall => by
    have hc := hC.1
    have hk := hK.1
    have hp := hC.po.1
    have hn : n ≤ 61 := hC.po.2.2.2.1
    obtain ⟨w1, w2, w3⟩ := id hW
    have ht := tg_lt (S := S) (n := n) hC.row.lt i
    have F1 : ∀ z, FrI (w + 2) (w + 3) h (hset h (w + 2) z) := fun z => FrI.rf.set (by omega) (by omega)
    have fin : ∀ (x5 : Option Value) (y : Nat), y = mvP (mgs Q L) B S n i → Ex (prog nb sa) k_WR_movePlaces 144 [some (.ref w), some (.ref c), some (.ref k), some (.int (nI x3)), some (.int (nI i)), x5] [] (hset h (w + 2) (.inl (1, 61, .inl (upd g (nI i).toNatClampNeg (nI y))))) (fun v h' => v = some (.int (nI x3)) ∧ FrI (w + 2) (w + 3) h h' ∧ ∃ g', WR h' w f g' ∧ (∀ j, j < i → g' j = g j) ∧ ∀ j, i ≤ j → j < n → g' j = nI (mvP (mgs Q L) B S n j)) := by
      intro x5 y hy
      have hW2 : WR (hset h (w + 2) (.inl (1, 61, .inl (upd g (nI i).toNatClampNeg (nI y))))) w f (upd g (nI i).toNatClampNeg (nI y)) := ⟨hs_ne (by omega) w1, hs_ne (by omega) w2, hs_at⟩
      have ih := WR_move_loop2 (x3 := x3) d (i + 1) x5 _ _ (by omega) (by omega) hl (hK.fr (F1 _) (by omega)) (hC.fr (F1 _) (by omega)) hd1 hd2 hW2 hV hso hf hall
      (first | refine Ex_incN rfl rfl ?_ | refine Ex_mv rfl rfl ?_); refine Ex_mv rfl rfl ?_
      refine Ex_mono ih ?_
      rintro v h' ⟨rfl, q1, g', q2, q3, q4⟩
      refine ⟨rfl, (F1 _).tr q1, g', q2, fun j hj => ?_, fun j h1 h2 => ?_⟩
      · rw [q3 j (by omega), nI_clamp (by omega), pk_un (by omega)]
      · by_cases e : j = i
        · rw [q3 j (by omega), e, nI_clamp (by omega), pk_us, hy]
        · exact q4 j (by omega) h2
    by_cases e0 : tg B S n i = 0
    · refine Ex_mv rfl rfl ?_; refine Ex_mv rfl rfl ?_; refine Ex_getf rfl (by assumption) rfl ?_; refine Ex_invV rfl (by rfl) (by rfl) (by assumption) (by rfl) (c_PL_places hC.po) ?_; refine Ex_mv rfl rfl ?_; refine Ex_iff (nI_ge (by omega) (by omega)) ?_; refine Ex_mv rfl rfl ?_; refine Ex_mv rfl rfl ?_; refine Ex_getf rfl (by assumption) rfl ?_; refine Ex_alen rfl (by assumption) rfl ?_; refine Ex_mv rfl rfl ?_; refine Ex_iff (nI_ge (by omega) (by omega)) ?_; refine Ex_mv rfl rfl ?_; refine Ex_getf rfl (by assumption) rfl ?_; refine Ex_mv rfl rfl ?_; refine Ex_invV rfl (by rfl) (by rfl) (by assumption) (by rfl) (c_PL_tag hC.po (by omega)) ?_; refine Ex_mv rfl rfl ?_; refine Ex_iff (by rw [e0]; decide) ?_; refine Ex_mv rfl rfl ?_; refine Ex_mv rfl rfl ?_; refine Ex_mv rfl rfl ?_; refine Ex_mv rfl rfl ?_; refine Ex_getf rfl (by assumption) rfl ?_; refine Ex_mv rfl rfl ?_; refine Ex_mv rfl rfl ?_; refine Ex_mv rfl rfl ?_; refine Ex_ift (by decide) ?_; refine Ex_mv rfl rfl ?_; refine Ex_iast rfl w3 (vp_in_nI (by omega) (by decide)) ?_
      exact fin _ 0 (by unfold mvP; rw [if_pos e0])
    · have hm := hall i e0
      have hfd : fndM (mgs Q L) (mng B S n i) = some (lowM (mgs Q L) (mng B S n i)) := if_pos hm
      have g1 := lowM_has (mgs Q L) hso hm
      have hlt : lowM (mgs Q L) (mng B S n i) < L.length := by
        rcases Nat.lt_or_ge (lowM (mgs Q L) (mng B S n i)) L.length with z | z
        · exact z
        · rw [List.getElem?_eq_none (by rw [mgs_len]; exact z)] at g1; cases g1
      have hfe : f (nI (lowM (mgs Q L) (mng B S n i))).toNatClampNeg = nI (hpM (mgs Q L) (lowM (mgs Q L) (mng B S n i))) := by rw [nI_clamp (by omega)]; exact hf _ hlt
      refine Ex_mv rfl rfl ?_; refine Ex_mv rfl rfl ?_; refine Ex_getf rfl (by assumption) rfl ?_; refine Ex_invV rfl (by rfl) (by rfl) (by assumption) (by rfl) (c_PL_places hC.po) ?_; refine Ex_mv rfl rfl ?_; refine Ex_iff (nI_ge (by omega) (by omega)) ?_; refine Ex_mv rfl rfl ?_; refine Ex_mv rfl rfl ?_; refine Ex_getf rfl (by assumption) rfl ?_; refine Ex_alen rfl (by assumption) rfl ?_; refine Ex_mv rfl rfl ?_; refine Ex_iff (nI_ge (by omega) (by omega)) ?_; refine Ex_mv rfl rfl ?_; refine Ex_getf rfl (by assumption) rfl ?_; refine Ex_mv rfl rfl ?_; refine Ex_invV rfl (by rfl) (by rfl) (by assumption) (by rfl) (c_PL_tag hC.po (by omega)) ?_; refine Ex_mv rfl rfl ?_; refine Ex_ift (nI_nz e0 (by omega)) ?_; refine Ex_mv rfl rfl ?_; refine Ex_mv rfl rfl ?_; refine Ex_getf rfl (by assumption) rfl ?_; refine Ex_mv rfl rfl ?_; refine Ex_invV rfl (by rfl) (by rfl) (by assumption) (by rfl) (c_RK_find hK hC.po hV (by omega) hso) ?_
      rw [hfd, oI, Nat.zero_add]
      refine Ex_mv rfl rfl ?_; refine Ex_mv rfl rfl ?_; refine Ex_getf rfl (by assumption) rfl ?_; refine Ex_mv rfl rfl ?_; refine Ex_mv rfl rfl ?_; refine Ex_mv rfl rfl ?_; refine Ex_lt0 (by omega) ?_; refine Ex_mv rfl rfl ?_; refine Ex_mv rfl rfl ?_; refine Ex_getf rfl (by assumption) rfl ?_; refine Ex_alen rfl (by assumption) rfl ?_; refine Ex_mv rfl rfl ?_; refine Ex_iff (nI_ge (by omega) (by omega)) ?_; refine Ex_mv rfl rfl ?_; refine Ex_getf rfl (by assumption) rfl ?_; refine Ex_mv rfl rfl ?_; refine Ex_iald rfl w2 (vp_in_nI (by omega) (by decide)) ?_
      rw [hfe]
      refine Ex_mv rfl rfl ?_; refine Ex_iast rfl w3 (vp_in_nI (by omega) (by decide)) ?_
      exact fin _ _ (by unfold mvP; rw [if_neg e0])
theorem c_WR_movePlaces {h : Hp} {f g : Nat → Int32} (hl : L.length ≤ 61) (hK : RK h k Q pc L) (hC : CF h c B S n bh aa M0 M1 TL) (hd1 : w + 3 ≤ k ∨ k + 28 ≤ w) (hd2 : w + 3 ≤ c ∨ c + 11 ≤ w) (hW : WR h w f g) (hV : TV B S n) (hso : SoM (mgs Q L)) (hall : ∀ j, tg B S n j ≠ 0 → mng B S n j ∈ mgs Q L) : EvQ (prog nb sa) m_WR_movePlaces [.ref w, .ref c, .ref k] h (fun v h' => v = some (.int (nI (hpM (mgs Q L) L.length))) ∧ FrI w (w + 3) h h' ∧ ∃ f' g', WR h' w f' g' ∧ ∀ j, 1 ≤ j → j < n → g' j = nI (mvP (mgs Q L) B S n j)) := by
  refine EvQ_of k_WR_movePlaces 6 [some (.ref w), some (.ref c), some (.ref k), none, none, none] rfl (Nat.le_of_ble_eq_true rfl) rfl ?_
  refine Ex_mv rfl rfl ?_; refine Ex_mv rfl rfl ?_; refine Ex_mv rfl rfl ?_; refine Ex_mv rfl rfl ?_
  have e0 : hpM (mgs Q L) 0 = 1 := by cases mgs Q L <;> rfl
  have := WR_move_loop1 (nb := nb) (sa := sa) (c := c) (w := w) (x5 := none) L.length 0 h f g (fun v h' => v = some (.int (nI (hpM (mgs Q L) L.length))) ∧ FrI w (w + 3) h h' ∧ ∃ f' g', WR h' w f' g' ∧ ∀ j, 1 ≤ j → j < n → g' j = nI (mvP (mgs Q L) B S n j)) (by omega) hl hK hd1 hW (fun h' f' F' W' q1 q2 => ?_)
  · rw [e0] at this
    exact this
  · refine Ex_mv rfl rfl ?_; refine Ex_mv rfl rfl ?_
    refine Ex_mono (WR_move_loop2 (n - 1) 1 _ h' g (by omega) (by omega) hl (hK.fr F' (by omega)) (hC.fr F' (by omega)) hd1 hd2 W' hV hso (fun j hj => q2 j (by omega) hj) hall) ?_
    rintro v h2 ⟨rfl, z1, g2, z2, z3, z4⟩
    exact ⟨rfl, (F'.wd (by omega) (by omega)).tr (z1.wd (by omega) (by omega)), f', g2, z2, z4⟩
theorem c_WR_movedTo {h : Hp} {f g : Nat → Int32} (hW : WR h w f g) {i : Nat} (hi : i < 61) {y : Nat} (hy : g i = nI y) : Ev (prog nb sa) m_WR_movedTo [.ref w, .int (nI i)] h (some (.int (nI y))) h := by
  obtain ⟨w1, w2, w3⟩ := id hW
  have e : g (nI i).toNatClampNeg = nI y := by rw [nI_clamp (by omega), hy]
  refine Ev_ofL k_WR_movedTo 2 [some (.ref w), some (.int (nI i))] rfl (Nat.le_of_ble_eq_true rfl) rfl ?_
  refine Ex_mv rfl rfl ?_; refine Ex_mv rfl rfl ?_; refine Ex_lt0 (by omega) ?_; refine Ex_mv rfl rfl ?_; refine Ex_mv rfl rfl ?_; refine Ex_getf rfl (by assumption) rfl ?_; refine Ex_alen rfl (by assumption) rfl ?_; refine Ex_mv rfl rfl ?_; refine Ex_iff (nI_ge (by omega) (by omega)) ?_; refine Ex_mv rfl rfl ?_; refine Ex_getf rfl (by assumption) rfl ?_; refine Ex_mv rfl rfl ?_; refine Ex_iald rfl w3 (vp_in_nI (by omega) (by decide)) ?_
  rw [e]
  refine Ex_mv rfl rfl ?_
  exact Ex_rt rfl rfl ⟨rfl, rfl⟩
end WRITER
