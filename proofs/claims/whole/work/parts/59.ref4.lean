/-! the other side: an entry -/
def HC (h : Hp) (f b : Nat) (pl be fa : Int32) (ow : Value) (gt ga : Nat → Int32) (gx g5 g6 : Nat → Option Nat) (gc : Nat → Int32) : Prop :=
  h.2.2 f = some (true, .inr (8, [.ref b, .int pl, .ref (f + 1), .ref (f + 2), .ref (f + 3), .int be, .int fa, .ref (f + 4), .ref (f + 7), ow])) ∧ h.2.2 (f + 1) = some (true, .inl (1, 61, .inl gt)) ∧ h.2.2 (f + 2) = some (true, .inl (1, 61, .inl ga)) ∧ h.2.2 (f + 3) = some (true, .inl (4, 61, .inr (.inr (.inr (.inr gx))))) ∧ (∃ gm, h.2.2 (f + 4) = some (true, .inl (9, 2, .inr (.inr (.inr (.inr gm))))) ∧ gm 0 = some (f + 5) ∧ gm 1 = some (f + 6)) ∧ h.2.2 (f + 5) = some (true, .inl (8, 12, .inr (.inr (.inr (.inr g5))))) ∧ h.2.2 (f + 6) = some (true, .inl (8, 12, .inr (.inr (.inr (.inr g6))))) ∧ h.2.2 (f + 7) = some (true, .inl (1, 2, .inl gc))
theorem HC.eq {h h' : Hp} {f b : Nat} {pl be fa : Int32} {ow : Value} {gt ga gc : Nat → Int32} {gx g5 g6 : Nat → Option Nat} (hC : HC h f b pl be fa ow gt ga gx g5 g6 gc) (F : ∀ q, f ≤ q → q < f + 8 → h'.2.2 q = h.2.2 q) : HC h' f b pl be fa ow gt ga gx g5 g6 gc := by
  obtain ⟨a1, a2, a3, a4, ⟨gm, a5, a6⟩, a7, a8, a9⟩ := hC
  exact ⟨(F _ (by omega) (by omega)).trans a1, (F _ (by omega) (by omega)).trans a2, (F _ (by omega) (by omega)).trans a3, (F _ (by omega) (by omega)).trans a4, ⟨gm, (F _ (by omega) (by omega)).trans a5, a6⟩, (F _ (by omega) (by omega)).trans a7, (F _ (by omega) (by omega)).trans a8, (F _ (by omega) (by omega)).trans a9⟩
/-- below: what changes while a file is parsed -/
abbrev muP (f : Nat) : Nat → Prop := fun q => q < f + 8
def EnR (h : Hp) (f : Nat) (B : List Nat) (S : Nat → Nat) (gt ga : Nat → Int32) (gx : Nat → Option Nat) : Prop := ∀ j, j < 61 → ga j = nI (S j) ∧ gt j = nI (if S j = 0 then 0 else b1 B (S j)) ∧ (S j ≠ 0 → b1 B (S j) = 1 → ∃ t, gx j = some t ∧ BAk (muP f) h t (sl B (S j + 3) (b2 B (S j + 1))))
theorem EnR.pf {h h' : Hp} {f : Nat} {B : List Nat} {S : Nat → Nat} {gt ga : Nat → Int32} {gx : Nat → Option Nat} (hE : EnR h f B S gt ga gx) (F : PF (muP f) h h') : EnR h' f B S gt ga gx := by
  intro j hj
  obtain ⟨h1, h2, h3⟩ := hE j hj
  refine ⟨h1, h2, fun q1 q2 => ?_⟩
  obtain ⟨t, t1, t2⟩ := h3 q1 q2
  exact ⟨t, t1, t2.pf F⟩
section REF4
variable {nb sa : Nat} {h : Hp} {m0 f b : Nat} {a : Nat → Value} {B : List Nat}
/-- while an entry is parsed these cells stay -/
def Fe (m0 f : Nat) (h h' : Hp) : Prop := h.1 ≤ h'.1 ∧ h'.1 ≤ h.1 + 1 ∧ h.2.1 ≤ h'.2.1 ∧ ∀ q, q < h.1 → q ≠ m0 → (q < f + 1 ∨ f + 4 ≤ q) → h'.2.2 q = h.2.2 q
def EnP (h h' : Hp) (f i p n : Nat) (B : List Nat) (x : Fs) (w : Nat) (r : Rt) (gt ga : Nat → Int32) (gx : Nat → Option Nat) : Prop := match r with
  | .inl _ => h'.2.1 = h.2.1 ∧ 1 ≤ w ∧ w ≤ 2
  | .inr (p', x') => EnR h' f B x'.1 gt ga gx ∧ w = wst (b1 B p) ∧ h'.2.1 + p ≤ h.2.1 + p' ∧ p ≤ p'
theorem b1_sb {c : Nat} (hc : c < 256) : sb_b c &&& nI 255 = nI c := sb_and hc
theorem c_MO_entry {i p n : Nat} {x : Fs} {be fa : Int32} {ow : Value} {gt ga gc : Nat → Int32} {gx g5 g6 : Nat → Option Nat} (hs : RQ h m0 f a B (.inr (p, x))) (hC : HC h f b (nI n) be fa ow gt ga gx g5 g6 gc) (hA : BA h b B) (hE : EnR h f B x.1 gt ga gx) (hd : m0 < f) (hb : b = f + 8) (hsz : f + 9 ≤ h.1) (hi : i < n) (hn : n ≤ 61) (hp10 : 10 ≤ p) : EvQ (prog nb sa) m_MO_entry [.ref m0, .int (nI i)] h (fun v h' => ∃ w gt' ga' gx', v = some (.int (nI w)) ∧ RQ h' m0 f a B (p_entry B (decide (i + 1 = n)) p (setS x i p)) ∧ Fe m0 f h h' ∧ HC h' f b (nI n) be fa ow gt' ga' gx' g5 g6 gc ∧ EnP h h' f i p n B x w (p_entry B (decide (i + 1 = n)) p (setS x i p)) gt' ga' gx') := by
  have hB : HB h f b B := ⟨⟨_, hC.1⟩, hA⟩
  obtain ⟨w0, gb, b1', b2', b3', b4'⟩ := id hA
  have R0 : RQ h m0 f a B (.inr (p, setS x i p)) := hs.sm rfl
  obtain ⟨_, h1, e1, rfl, R1, F1⟩ := c_MO_goes (nb := nb) (sa := sa) R0 hB hd (by omega) (k := 1) (by decide)
  obtain ⟨p0, j0, fp0, hc0, hp0, hj0, hm0⟩ := id hs
  obtain ⟨-, -, q0⟩ := hm0
  subst q0
  have hC1 : HC h1 f b (nI n) be fa ow gt ga gx g5 g6 gc := hC.eq (fun q q1 q2 => F1.2.2 q (by omega))
  have hA1 : BA h1 b B := ⟨w0, gb, F1.at b1' (by omega), b2', b3', b4'⟩
  have hB1 : HB h1 f b B := ⟨⟨_, hC1.1⟩, hA1⟩
  have hfc1 := hC1.1
  have hba1 : h1.2.2 b = _ := F1.at b1' (by omega)
  have fe1 : ∀ {h2 : Hp}, FrI m0 (m0 + 1) h1 h2 → Fe m0 f h h2 := fun F => ⟨by rw [F.1, F1.1]; exact Nat.le_refl _, by rw [F.1, F1.1]; omega, by rw [F.2.1, F1.2.1]; exact Nat.le_refl _, fun q g1 g2 g3 => by rw [F.2.2 q (by omega), F1.2.2 q (by omega)]⟩
  by_cases h1l : p0 + 1 ≤ B.length
  · have es : p_skip B 1 (.inr (p0, setS x i p0)) = .inr (p0 + 1, setS x i p0) := if_pos h1l
    rw [es] at e1 R1
    obtain ⟨p1, j1, fp1, hc1, hp1, hj1, hm1⟩ := id R1
    obtain ⟨z1, z2, z3⟩ := hm1
    subst z1
    subst z3
    have htag : gb (nI p0).toNatClampNeg &&& nI 255 = nI (b1 B p0) := BA.at (h := h) (t := b) b2' b3' b4' (by omega)
    have ht := b1_lt b3' p0
    have hin := c_MO_isIn (nb := nb) (sa := sa) (h := h1) (v := b1 B p0) (lo := 3) (hi := 12) (by omega) (by decide) (by decide)
    have seg : ∀ R : Option Value → Hp → Prop, (∀ w4 w5 : Nat, w4 = (if b1 B p0 = 5 ∨ b1 B p0 = 6 then 1 else 0) → w5 = (if b1 B p0 = 1 ∨ 3 ≤ b1 B p0 ∧ b1 B p0 ≤ 12 then 1 else 0) → Ex (prog nb sa) k_MO_entry 69 [some (.ref m0), some (.int (nI i)), some (.int (nI p0)), some (.int (nI (b1 B p0))), some (.int (nI w4)), some (.int (nI w5)), none] [] h1 R) → Ex (prog nb sa) k_MO_entry 0 [some (.ref m0), some (.int (nI i)), none, none, none, none, none] [] h R := by
      intro R K
      by_cases t1 : b1 B p0 = 1
      · refine Ex_mv rfl rfl ?_; refine Ex_getf rfl (by assumption) rfl ?_; refine Ex_mv rfl rfl ?_; refine Ex_mv rfl rfl ?_; refine Ex_mv rfl rfl ?_; refine Ex_invV rfl (by rfl) (by rfl) (by assumption) (by rfl) (e1) ?_; refine Ex_mv rfl rfl ?_; refine Ex_ift (show ¬ nI 1 = 0 by decide) ?_; refine Ex_mv rfl rfl ?_; refine Ex_getf rfl (by assumption) rfl ?_; refine Ex_getf rfl (by assumption) rfl ?_; refine Ex_mv rfl rfl ?_; refine Ex_iald rfl (by assumption) (vp_in_nI (by omega) (by omega)) ?_; refine Ex_mv rfl rfl ?_; refine Ex_iand rfl ?_
        rw [htag]
        refine Ex_mv rfl rfl ?_; refine Ex_mv rfl rfl ?_; refine Ex_mv rfl rfl ?_; refine Ex_mv rfl rfl ?_; (first | refine Ex_eqN (by omega) (by omega) (fun b31 => ?_) (fun b31 => ?_) | refine Ex_if (fun b31 => ?_) (fun b31 => ?_))
        · refine Ex_mv rfl rfl ?_; refine Ex_mv rfl rfl ?_; refine Ex_mv rfl rfl ?_; refine Ex_mv rfl rfl ?_; refine Ex_mv rfl rfl ?_; refine Ex_mv rfl rfl ?_; refine Ex_ift (by rw [t1]) ?_; refine Ex_mv rfl rfl ?_; refine Ex_mv rfl rfl ?_; refine Ex_mv rfl rfl ?_
          exact K _ _ (by first | (rw [if_pos (by omega)]; done) | (rw [if_neg (by omega)]; done)) (by first | (rw [if_pos (by omega)]; done) | (rw [if_neg (by omega)]; done))
        · refine Ex_mv rfl rfl ?_; refine Ex_mv rfl rfl ?_; refine Ex_mv rfl rfl ?_; (first | refine Ex_neN (by omega) (by omega) (fun b37 => ?_) (fun b37 => ?_) | refine Ex_if (fun b37 => ?_) (fun b37 => ?_))
          · refine Ex_mv rfl rfl ?_; refine Ex_mv rfl rfl ?_; refine Ex_mv rfl rfl ?_; refine Ex_mv rfl rfl ?_; refine Ex_mv rfl rfl ?_; refine Ex_ift (by rw [t1]) ?_; refine Ex_mv rfl rfl ?_; refine Ex_mv rfl rfl ?_; refine Ex_mv rfl rfl ?_
            exact K _ _ (by first | (rw [if_pos (by omega)]; done) | (rw [if_neg (by omega)]; done)) (by first | (rw [if_pos (by omega)]; done) | (rw [if_neg (by omega)]; done))
          · refine Ex_mv rfl rfl ?_; refine Ex_mv rfl rfl ?_; refine Ex_mv rfl rfl ?_; refine Ex_mv rfl rfl ?_; refine Ex_mv rfl rfl ?_; refine Ex_mv rfl rfl ?_; refine Ex_ift (by rw [t1]) ?_; refine Ex_mv rfl rfl ?_; refine Ex_mv rfl rfl ?_; refine Ex_mv rfl rfl ?_
            exact K _ _ (by first | (rw [if_pos (by omega)]; done) | (rw [if_neg (by omega)]; done)) (by first | (rw [if_pos (by omega)]; done) | (rw [if_neg (by omega)]; done))
      · by_cases t3 : 3 ≤ b1 B p0 ∧ b1 B p0 ≤ 12
        · rw [if_pos t3] at hin
          refine Ex_mv rfl rfl ?_; refine Ex_getf rfl (by assumption) rfl ?_; refine Ex_mv rfl rfl ?_; refine Ex_mv rfl rfl ?_; refine Ex_mv rfl rfl ?_; refine Ex_invV rfl (by rfl) (by rfl) (by assumption) (by rfl) (e1) ?_; refine Ex_mv rfl rfl ?_; refine Ex_ift (show ¬ nI 1 = 0 by decide) ?_; refine Ex_mv rfl rfl ?_; refine Ex_getf rfl (by assumption) rfl ?_; refine Ex_getf rfl (by assumption) rfl ?_; refine Ex_mv rfl rfl ?_; refine Ex_iald rfl (by assumption) (vp_in_nI (by omega) (by omega)) ?_; refine Ex_mv rfl rfl ?_; refine Ex_iand rfl ?_
          rw [htag]
          refine Ex_mv rfl rfl ?_; refine Ex_mv rfl rfl ?_; refine Ex_mv rfl rfl ?_; refine Ex_mv rfl rfl ?_; (first | refine Ex_eqN (by omega) (by omega) (fun b31 => ?_) (fun b31 => ?_) | refine Ex_if (fun b31 => ?_) (fun b31 => ?_))
          · refine Ex_mv rfl rfl ?_; refine Ex_mv rfl rfl ?_; refine Ex_mv rfl rfl ?_; refine Ex_mv rfl rfl ?_; refine Ex_mv rfl rfl ?_; refine Ex_mv rfl rfl ?_; refine Ex_iff (fun z => t1 ((nI_eq (by omega) (by decide)).mp z)) ?_; refine Ex_mv rfl rfl ?_; refine Ex_mv rfl rfl ?_; refine Ex_mv rfl rfl ?_; refine Ex_inv rfl (by rfl) (by rfl) (by rfl) (hin) ?_; refine Ex_mv rfl rfl ?_; refine Ex_iff (by decide) ?_; refine Ex_mv rfl rfl ?_; refine Ex_mv rfl rfl ?_; refine Ex_mv rfl rfl ?_
            exact K _ _ (by first | (rw [if_pos (by omega)]; done) | (rw [if_neg (by omega)]; done)) (by first | (rw [if_pos (by omega)]; done) | (rw [if_neg (by omega)]; done))
          · refine Ex_mv rfl rfl ?_; refine Ex_mv rfl rfl ?_; refine Ex_mv rfl rfl ?_; (first | refine Ex_neN (by omega) (by omega) (fun b37 => ?_) (fun b37 => ?_) | refine Ex_if (fun b37 => ?_) (fun b37 => ?_))
            · refine Ex_mv rfl rfl ?_; refine Ex_mv rfl rfl ?_; refine Ex_mv rfl rfl ?_; refine Ex_mv rfl rfl ?_; refine Ex_mv rfl rfl ?_; refine Ex_iff (fun z => t1 ((nI_eq (by omega) (by decide)).mp z)) ?_; refine Ex_mv rfl rfl ?_; refine Ex_mv rfl rfl ?_; refine Ex_mv rfl rfl ?_; refine Ex_inv rfl (by rfl) (by rfl) (by rfl) (hin) ?_; refine Ex_mv rfl rfl ?_; refine Ex_iff (by decide) ?_; refine Ex_mv rfl rfl ?_; refine Ex_mv rfl rfl ?_; refine Ex_mv rfl rfl ?_
              exact K _ _ (by first | (rw [if_pos (by omega)]; done) | (rw [if_neg (by omega)]; done)) (by first | (rw [if_pos (by omega)]; done) | (rw [if_neg (by omega)]; done))
            · refine Ex_mv rfl rfl ?_; refine Ex_mv rfl rfl ?_; refine Ex_mv rfl rfl ?_; refine Ex_mv rfl rfl ?_; refine Ex_mv rfl rfl ?_; refine Ex_mv rfl rfl ?_; refine Ex_iff (fun z => t1 ((nI_eq (by omega) (by decide)).mp z)) ?_; refine Ex_mv rfl rfl ?_; refine Ex_mv rfl rfl ?_; refine Ex_mv rfl rfl ?_; refine Ex_inv rfl (by rfl) (by rfl) (by rfl) (hin) ?_; refine Ex_mv rfl rfl ?_; refine Ex_iff (by decide) ?_; refine Ex_mv rfl rfl ?_; refine Ex_mv rfl rfl ?_; refine Ex_mv rfl rfl ?_
              exact K _ _ (by first | (rw [if_pos (by omega)]; done) | (rw [if_neg (by omega)]; done)) (by first | (rw [if_pos (by omega)]; done) | (rw [if_neg (by omega)]; done))
        · rw [if_neg t3] at hin
          refine Ex_mv rfl rfl ?_; refine Ex_getf rfl (by assumption) rfl ?_; refine Ex_mv rfl rfl ?_; refine Ex_mv rfl rfl ?_; refine Ex_mv rfl rfl ?_; refine Ex_invV rfl (by rfl) (by rfl) (by assumption) (by rfl) (e1) ?_; refine Ex_mv rfl rfl ?_; refine Ex_ift (show ¬ nI 1 = 0 by decide) ?_; refine Ex_mv rfl rfl ?_; refine Ex_getf rfl (by assumption) rfl ?_; refine Ex_getf rfl (by assumption) rfl ?_; refine Ex_mv rfl rfl ?_; refine Ex_iald rfl (by assumption) (vp_in_nI (by omega) (by omega)) ?_; refine Ex_mv rfl rfl ?_; refine Ex_iand rfl ?_
          rw [htag]
          refine Ex_mv rfl rfl ?_; refine Ex_mv rfl rfl ?_; refine Ex_mv rfl rfl ?_; refine Ex_mv rfl rfl ?_; (first | refine Ex_eqN (by omega) (by omega) (fun b31 => ?_) (fun b31 => ?_) | refine Ex_if (fun b31 => ?_) (fun b31 => ?_))
          · refine Ex_mv rfl rfl ?_; refine Ex_mv rfl rfl ?_; refine Ex_mv rfl rfl ?_; refine Ex_mv rfl rfl ?_; refine Ex_mv rfl rfl ?_; refine Ex_mv rfl rfl ?_; refine Ex_iff (fun z => t1 ((nI_eq (by omega) (by decide)).mp z)) ?_; refine Ex_mv rfl rfl ?_; refine Ex_mv rfl rfl ?_; refine Ex_mv rfl rfl ?_; refine Ex_inv rfl (by rfl) (by rfl) (by rfl) (hin) ?_; refine Ex_mv rfl rfl ?_; refine Ex_ift (by decide) ?_; refine Ex_mv rfl rfl ?_; refine Ex_mv rfl rfl ?_
            exact K _ _ (by first | (rw [if_pos (by omega)]; done) | (rw [if_neg (by omega)]; done)) (by first | (rw [if_pos (by omega)]; done) | (rw [if_neg (by omega)]; done))
          · refine Ex_mv rfl rfl ?_; refine Ex_mv rfl rfl ?_; refine Ex_mv rfl rfl ?_; (first | refine Ex_neN (by omega) (by omega) (fun b37 => ?_) (fun b37 => ?_) | refine Ex_if (fun b37 => ?_) (fun b37 => ?_))
            · refine Ex_mv rfl rfl ?_; refine Ex_mv rfl rfl ?_; refine Ex_mv rfl rfl ?_; refine Ex_mv rfl rfl ?_; refine Ex_mv rfl rfl ?_; refine Ex_iff (fun z => t1 ((nI_eq (by omega) (by decide)).mp z)) ?_; refine Ex_mv rfl rfl ?_; refine Ex_mv rfl rfl ?_; refine Ex_mv rfl rfl ?_; refine Ex_inv rfl (by rfl) (by rfl) (by rfl) (hin) ?_; refine Ex_mv rfl rfl ?_; refine Ex_ift (by decide) ?_; refine Ex_mv rfl rfl ?_; refine Ex_mv rfl rfl ?_
              exact K _ _ (by first | (rw [if_pos (by omega)]; done) | (rw [if_neg (by omega)]; done)) (by first | (rw [if_pos (by omega)]; done) | (rw [if_neg (by omega)]; done))
            · refine Ex_mv rfl rfl ?_; refine Ex_mv rfl rfl ?_; refine Ex_mv rfl rfl ?_; refine Ex_mv rfl rfl ?_; refine Ex_mv rfl rfl ?_; refine Ex_mv rfl rfl ?_; refine Ex_iff (fun z => t1 ((nI_eq (by omega) (by decide)).mp z)) ?_; refine Ex_mv rfl rfl ?_; refine Ex_mv rfl rfl ?_; refine Ex_mv rfl rfl ?_; refine Ex_inv rfl (by rfl) (by rfl) (by rfl) (hin) ?_; refine Ex_mv rfl rfl ?_; refine Ex_ift (by decide) ?_; refine Ex_mv rfl rfl ?_; refine Ex_mv rfl rfl ?_
              exact K _ _ (by first | (rw [if_pos (by omega)]; done) | (rw [if_neg (by omega)]; done)) (by first | (rw [if_pos (by omega)]; done) | (rw [if_neg (by omega)]; done))
    obtain ⟨c1, c2, c3, c4, c5, c6, c7, c8⟩ := id hC1
    refine EvQ_of k_MO_entry 7 [some (.ref m0), some (.int (nI i)), none, none, none, none, none] rfl (Nat.le_of_ble_eq_true rfl) rfl ?_
    refine seg _ (fun w4 w5 hw4 hw5 => ?_)
    unfold p_entry
    by_cases g1 : b1 B p0 = 1 ∨ 3 ≤ b1 B p0 ∧ b1 B p0 ≤ 12
    · rw [if_pos g1] at hw5
      subst hw5
      by_cases g2 : decide (i + 1 = n) = true ∧ (b1 B p0 = 5 ∨ b1 B p0 = 6)
      · rw [if_pos (Or.inr g2), es]
        have hlast : i + 1 = n := of_decide_eq_true g2.1
        rw [if_pos g2.2] at hw4
        subst hw4
        obtain ⟨_, h2, e2, rfl, R2, F2⟩ := c_MO_fails (nb := nb) (sa := sa) R1 (k := 4) (w := p0) (by decide) (by decide)
        refine Ex_mv rfl rfl ?_; refine Ex_mv rfl rfl ?_; refine Ex_iff (by decide) ?_; refine Ex_mv rfl rfl ?_; refine Ex_mv rfl rfl ?_; refine Ex_iff (by decide) ?_; refine Ex_mv rfl rfl ?_; refine Ex_mv rfl rfl ?_; refine Ex_getf rfl (by assumption) rfl ?_; refine Ex_getf rfl (by assumption) rfl ?_; refine Ex_mv rfl rfl ?_; (first | refine Ex_subN rfl (by omega) ?_ | refine Ex_mv rfl rfl ?_); refine Ex_mv rfl rfl ?_; refine Ex_iff (by rw [show n - 1 = i by omega]; exact not_not_intro rfl) ?_; refine Ex_mv rfl rfl ?_; refine Ex_mv rfl rfl ?_; refine Ex_mv rfl rfl ?_; refine Ex_invV rfl (by rfl) (by rfl) (by assumption) (by rfl) (e2) ?_; refine Ex_mv rfl rfl ?_
        refine Ex_rt rfl rfl ?_
        exact ⟨1, gt, ga, gx, rfl, R2, fe1 F2, hC1.eq (fun q q1 q2 => F2.2.2 q (by omega)), by rw [F2.2.1, F1.2.1], by decide, by decide⟩
      · have g3 : ¬ (¬ (b1 B p0 = 1 ∨ 3 ≤ b1 B p0 ∧ b1 B p0 ≤ 12) ∨ decide (i + 1 = n) = true ∧ (b1 B p0 = 5 ∨ b1 B p0 = 6)) := fun z => z.elim (fun q => q g1) g2
        rw [if_neg g3, es]
        have ei : (nI i).toNatClampNeg = i := nI_clamp (by omega)
        -- the two rows
        have k1 : ∀ z, (hset h1 (f + 1) z).2.2 m0 = _ := fun z => hs_ne (by omega) hc1
        have k2 : ∀ z, (hset h1 (f + 1) z).2.2 f = _ := fun z => hs_ne (by omega) c1
        have k3 : ∀ z, (hset h1 (f + 1) z).2.2 (f + 2) = _ := fun z => hs_ne (by omega) c3
        have seg2 : ∀ R : Option Value → Hp → Prop, (∀ h2 : Hp, h2 = hset (hset h1 (f + 1) (.inl (1, 61, .inl (upd gt i (nI (b1 B p0)))))) (f + 2) (.inl (1, 61, .inl (upd ga i (nI p0)))) → Ex (prog nb sa) k_MO_entry 120 [some (.ref m0), some (.int (nI i)), some (.int (nI p0)), some (.int (nI (b1 B p0))), some (.int (nI w4)), some (.int (nI 1)), none] [] h2 R) → Ex (prog nb sa) k_MO_entry 69 [some (.ref m0), some (.int (nI i)), some (.int (nI p0)), some (.int (nI (b1 B p0))), some (.int (nI w4)), some (.int (nI 1)), none] [] h1 R := by
          intro R K
          have K' := K _ rfl
          rw [← ei] at K'
          by_cases gw : b1 B p0 = 5 ∨ b1 B p0 = 6
          · have hl : ¬ i + 1 = n := fun z => g2 ⟨decide_eq_true z, gw⟩
            rw [if_pos gw] at hw4
            subst hw4
            refine Ex_mv rfl rfl ?_; refine Ex_mv rfl rfl ?_; refine Ex_iff (by decide) ?_; refine Ex_mv rfl rfl ?_; refine Ex_mv rfl rfl ?_; refine Ex_iff (by decide) ?_; refine Ex_mv rfl rfl ?_; refine Ex_mv rfl rfl ?_; refine Ex_getf rfl (by assumption) rfl ?_; refine Ex_getf rfl (by assumption) rfl ?_; refine Ex_mv rfl rfl ?_; (first | refine Ex_subN rfl (by omega) ?_ | refine Ex_mv rfl rfl ?_); refine Ex_mv rfl rfl ?_; refine Ex_ift (fun z => absurd ((nI_eq (by omega) (by omega)).mp z) (by omega)) ?_; refine Ex_mv rfl rfl ?_; refine Ex_getf rfl (by assumption) rfl ?_; refine Ex_getf rfl (by assumption) rfl ?_; refine Ex_mv rfl rfl ?_; refine Ex_mv rfl rfl ?_; refine Ex_iast rfl c2 (vp_in_nI (by omega) (by decide)) ?_; refine Ex_mv rfl rfl ?_; refine Ex_getf rfl (k1 _) rfl ?_; refine Ex_getf rfl (k2 _) rfl ?_; refine Ex_mv rfl rfl ?_; refine Ex_mv rfl rfl ?_; refine Ex_iast rfl (k3 _) (vp_in_nI (by omega) (by decide)) ?_
            simpa only [ei] using K'
          · rw [if_neg gw] at hw4
            subst hw4
            refine Ex_mv rfl rfl ?_; refine Ex_mv rfl rfl ?_; refine Ex_iff (by decide) ?_; refine Ex_mv rfl rfl ?_; refine Ex_mv rfl rfl ?_; refine Ex_ift (by decide) ?_; refine Ex_mv rfl rfl ?_; refine Ex_getf rfl (by assumption) rfl ?_; refine Ex_getf rfl (by assumption) rfl ?_; refine Ex_mv rfl rfl ?_; refine Ex_mv rfl rfl ?_; refine Ex_iast rfl c2 (vp_in_nI (by omega) (by decide)) ?_; refine Ex_mv rfl rfl ?_; refine Ex_getf rfl (k1 _) rfl ?_; refine Ex_getf rfl (k2 _) rfl ?_; refine Ex_mv rfl rfl ?_; refine Ex_mv rfl rfl ?_; refine Ex_iast rfl (k3 _) (vp_in_nI (by omega) (by decide)) ?_
            simpa only [ei] using K'
        refine seg2 _ (fun h2 hh2 => ?_)
        have d0 : ∀ q, q ≠ f + 1 → q ≠ f + 2 → h2.2.2 q = h1.2.2 q := fun q q1 q2 => by rw [hh2]; exact (if_neg q2).trans (if_neg q1)
        have ds : h2.1 = h.1 ∧ h2.2.1 = h.2.1 := by rw [hh2]; exact ⟨F1.1, F1.2.1⟩
        have hC2 : HC h2 f b (nI n) be fa ow (upd gt i (nI (b1 B p0))) (upd ga i (nI p0)) gx g5 g6 gc := by
          obtain ⟨gm, m1, m2⟩ := c5
          exact ⟨(d0 _ (by omega) (by omega)).trans c1, by rw [hh2]; exact hs_ne (by omega) hs_at, by rw [hh2]; exact hs_at, (d0 _ (by omega) (by omega)).trans c4, ⟨gm, (d0 _ (by omega) (by omega)).trans m1, m2⟩, (d0 _ (by omega) (by omega)).trans c6, (d0 _ (by omega) (by omega)).trans c7, (d0 _ (by omega) (by omega)).trans c8⟩
        have hc2 : h2.2.2 m0 = _ := (d0 m0 (by omega) (by omega)).trans hc1
        have R2 : RQ h2 m0 f a B (.inr (p0 + 1, setS x i p0)) := ⟨p0 + 1, 0, fp1, hc2, hp1, by decide, rfl, z2, rfl⟩
        have hA2 : BA h2 b B := ⟨w0, gb, (d0 b (by omega) (by omega)).trans hba1, b2', b3', b4'⟩
        have hB2 : HB h2 f b B := ⟨⟨_, hC2.1⟩, hA2⟩
        have e0' := hC2.1
        have fe2 : ∀ {h3 : Hp}, h2.1 ≤ h3.1 → h3.1 ≤ h2.1 + 1 → h2.2.1 ≤ h3.2.1 → (∀ q, q < h2.1 → q ≠ m0 → q ≠ f + 3 → h3.2.2 q = h2.2.2 q) → Fe m0 f h h3 := fun y1 y2 y3 y4 => ⟨by omega, by omega, by omega, fun q g1 g2 g3 => by rw [y4 q (by omega) g2 (by omega), d0 q (by omega) (by omega), F1.2.2 q (by omega)]⟩
        have hww : ∀ (x5 : Option Value) (h3 : Hp) (R : Option Value → Hp → Prop), R (some (.int (nI (wst (b1 B p0))))) h3 → Ex (prog nb sa) k_MO_entry 204 [some (.ref m0), some (.int (nI i)), some (.int (nI p0)), some (.int (nI (b1 B p0))), some (.int (nI w4)), some (.int (nI 1)), x5] [] h3 R := by
          intro x5 h3 R hR
          unfold wst at hR
          by_cases gw : b1 B p0 = 5 ∨ b1 B p0 = 6
          · rw [if_pos gw] at hw4 hR
            subst hw4
            refine Ex_mv rfl rfl ?_; refine Ex_mv rfl rfl ?_; refine Ex_iff (by decide) ?_; refine Ex_mv rfl rfl ?_; refine Ex_mv rfl rfl ?_
            refine Ex_rt rfl rfl ?_
            exact hR
          · rw [if_neg gw] at hw4 hR
            subst hw4
            refine Ex_mv rfl rfl ?_; refine Ex_mv rfl rfl ?_; refine Ex_ift (by decide) ?_; refine Ex_mv rfl rfl ?_
            refine Ex_rt rfl rfl ?_
            exact hR
        have hwb := wst_b (b1 B p0)
        -- rows after a good entry that is no TEXT, or whose text was laid
        have enr : ∀ (h3 : Hp) (gx' : Nat → Option Nat), PF (muP f) h h3 → (∀ j, j ≠ i → gx' j = gx j) → (b1 B p0 = 1 → ∃ t, gx' i = some t ∧ BAk (muP f) h3 t (sl B (p0 + 3) (b2 B (p0 + 1)))) → EnR h3 f B (upS x.1 i p0) (upd gt i (nI (b1 B p0))) (upd ga i (nI p0)) gx' := by
          intro h3 gx' F3 q1 q2 j hj
          by_cases e : j = i
          · subst e
            have eu : upS x.1 j p0 j = p0 := if_pos rfl
            rw [eu, pk_us, pk_us, if_neg (by omega)]
            exact ⟨rfl, rfl, fun _ t => q2 t⟩
          · have eu : upS x.1 i p0 j = x.1 j := if_neg e
            rw [eu, pk_un e, pk_un e, q1 j e]
            obtain ⟨r1, r2, r3⟩ := hE j hj
            refine ⟨r1, r2, fun s1 s2 => ?_⟩
            obtain ⟨t, t1, t2⟩ := r3 s1 s2
            exact ⟨t, t1, t2.pf F3⟩
        have hPE : p_entry B (decide (i + 1 = n)) p0 (setS x i p0) = (if b1 B p0 = 1 then p_skip B (p_two B (p_skip B 1 (.inr (p0, setS x i p0)))) (p_skip B 2 (p_skip B 1 (.inr (p0, setS x i p0))))
  else if 3 ≤ b1 B p0 ∧ b1 B p0 ≤ 6 then p_skip B (if b1 B p0 = 5 ∨ b1 B p0 = 6 then 8 else 4) (p_skip B 1 (.inr (p0, setS x i p0)))
  else if b1 B p0 = 7 ∨ b1 B p0 = 8 then p_tell B 1 (p_skip B 1 (.inr (p0, setS x i p0)))
  else p_tell B (if b1 B p0 = 12 then 1 else 12) (p_tell B (if b1 B p0 = 12 then 1 else 7) (p_skip B 1 (.inr (p0, setS x i p0))))) := if_neg g3
        rw [es] at hPE
        have pfh : ∀ {h3 : Hp}, h2.1 ≤ h3.1 → h2.2.1 ≤ h3.2.1 → (∀ q, q < h2.1 → q ≠ m0 → q ≠ f + 3 → h3.2.2 q = h2.2.2 q) → PF (muP f) h h3 := fun y1 y2 y4 => ⟨by omega, by omega, fun q hq => by
          have q1 := hq.1
          have q2 : ¬ q < f + 8 := hq.2
          rw [y4 q (by omega) (by omega) (by omega), d0 q (by omega) (by omega), F1.2.2 q (by omega)]⟩
        by_cases t1 : b1 B p0 = 1
        · rw [if_pos t1] at hPE ⊢
          obtain ⟨_, h3, e3, rfl, R3, F3⟩ := c_MO_nextTwo (nb := nb) (sa := sa) R2 hB2 hd (by omega)
          have hB3 := hB2.fr F3 (by omega) (by omega)
          have hv := p_two_lt b3' (.inr (p0 + 1, setS x i p0))
          obtain ⟨_, h4, e4, rfl, R4, F4⟩ := c_MO_goes (nb := nb) (sa := sa) R3 hB3 hd (by omega) (k := p_two B (.inr (p0 + 1, setS x i p0))) (by omega)
          have F34 := F3.tr F4
          obtain ⟨p3, j3, fp3, hc3, -⟩ := id R3
          obtain ⟨p4, j4, fp4, hc4, hp4, hj4, hm4⟩ := id R4
          have hC4 : HC h4 f b (nI n) be fa ow (upd gt i (nI (b1 B p0))) (upd ga i (nI p0)) gx g5 g6 gc := hC2.eq (fun q q1 q2 => F34.2.2 q (by omega))
          cases hr : p_skip B (p_two B (.inr (p0 + 1, setS x i p0))) (p_skip B 2 (.inr (p0 + 1, setS x i p0))) with
          | inl e =>
            rw [hr] at e4 R4 hPE
            refine Ex_mv rfl rfl ?_; refine Ex_mv rfl rfl ?_; refine Ex_mv rfl rfl ?_; refine Ex_iff (by rw [t1]; exact not_not_intro rfl) ?_; refine Ex_mv rfl rfl ?_; refine Ex_invV rfl (by rfl) (by rfl) (by assumption) (by rfl) (e3) ?_; refine Ex_mv rfl rfl ?_; refine Ex_mv rfl rfl ?_; refine Ex_mv rfl rfl ?_; refine Ex_invV rfl (by rfl) (by rfl) (by assumption) (by rfl) (e4) ?_; refine Ex_mv rfl rfl ?_; refine Ex_ift (show nI 0 = 0 from rfl) ?_; refine Ex_mv rfl rfl ?_
            refine hww _ _ _ ⟨wst (b1 B p0), _, _, _, rfl, R4, fe2 (by rw [F34.1]; exact Nat.le_refl _) (by rw [F34.1]; omega) (by rw [F34.2.1]; exact Nat.le_refl _) (fun q q1 q2 q3 => F34.2.2 q (by omega)), hC4, by rw [F34.2.1]; exact ds.2, hwb.1, hwb.2⟩
          | inr e =>
            obtain ⟨p', x'⟩ := e
            rw [hr] at e4 R4 hPE hm4
            obtain ⟨y1, y2, y3⟩ := hm4
            subst y1
            subst y3
            obtain ⟨k1', k2', k3', k4', k5'⟩ := k_entry hPE
            have esz : eSz B p0 = 3 + b2 B (p0 + 1) := if_pos t1
            have hv2 : p_two B (.inr (p0 + 1, setS x i p0)) = b2 B (p0 + 1) := if_pos (by omega)
            have hA4 : BA h4 b B := (hB3.fr F4 (by omega) (by omega)).2
            obtain ⟨w6, g6', a61, a62, a63, a64⟩ := hA4
            have hh4 : h4.1 = h.1 := by rw [F34.1]; exact ds.1
            have hh4s : h4.2.1 = h.2.1 := by rw [F34.2.1]; exact ds.2
            obtain ⟨_, h5, e5, rfl, ⟨g7, A7, A8⟩, s51, s52, s53⟩ := c_MO_partT (nb := nb) (sa := sa) (h := h4) (t := b) (k := p4 - p_two B (.inr (p0 + 1, setS x i p0))) (n := p_two B (.inr (p0 + 1, setS x i p0))) (X := sl B (p0 + 3) (b2 B (p0 + 1))) a61 (by omega) (by rw [hv2]; exact sl_len (by omega)) (fun j hj => by rw [a62 _ (by omega), sl_get (by omega), show p4 - p_two B (.inr (p0 + 1, setS x i p0)) + j = p0 + 3 + j by omega]) (by omega) (by omega) (fun y hy => b3' y (List.mem_of_mem_drop (List.mem_of_mem_take hy))) (by omega)
            have A5 : BA h5 h4.1 (sl B (p0 + 3) (b2 B (p0 + 1))) := ⟨true, g7, A7, A8⟩
            obtain ⟨f1', f2', f3', f4', f5', f6', f7', f8'⟩ := id hC4
            have x4 : h5.2.2 (f + 3) = _ := (s53 (f + 3) (by omega)).trans f4'
            have d6 : ∀ z q, q ≠ f + 3 → (hset h5 (f + 3) z).2.2 q = h5.2.2 q := fun z q hq => if_neg hq
            have F6 : ∀ z, (∀ q, q < h2.1 → q ≠ m0 → q ≠ f + 3 → (hset h5 (f + 3) z).2.2 q = h2.2.2 q) := fun z q q1 q2 q3 => by rw [d6 z q q3, s53 q (by omega), F34.2.2 q (by omega)]
            have hC6 : HC (hset h5 (f + 3) (.inl (4, 61, .inr (.inr (.inr (.inr (va_up gx i (some h4.1)))))))) f b (nI n) be fa ow (upd gt i (nI (b1 B p0))) (upd ga i (nI p0)) (va_up gx i (some h4.1)) g5 g6 gc := by
              obtain ⟨gm, m1, m2⟩ := f5'
              have o5 : ∀ z q, q < h.1 → q ≠ f + 3 → (hset h5 (f + 3) z).2.2 q = h4.2.2 q := fun z q g1 g2 => (d6 z q g2).trans (s53 q (by omega))
              exact ⟨(o5 _ _ (by omega) (by omega)).trans f1', (o5 _ _ (by omega) (by omega)).trans f2', (o5 _ _ (by omega) (by omega)).trans f3', hs_at, ⟨gm, (o5 _ _ (by omega) (by omega)).trans m1, m2⟩, (o5 _ _ (by omega) (by omega)).trans f6', (o5 _ _ (by omega) (by omega)).trans f7', (o5 _ _ (by omega) (by omega)).trans f8'⟩
            have R6 : ∀ z, RQ (hset h5 (f + 3) z) m0 f a B (.inr (p4, x')) := fun z => ⟨p4, 0, fp4, (d6 z m0 (by omega)).trans ((s53 m0 (by omega)).trans hc4), hp4, by decide, rfl, y2, rfl⟩
            have hx1 : x'.1 = upS x.1 i p0 := by rw [k5']; rfl
            have E6 : EnR (hset h5 (f + 3) (.inl (4, 61, .inr (.inr (.inr (.inr (va_up gx i (some h4.1)))))))) f B x'.1 (upd gt i (nI (b1 B p0))) (upd ga i (nI p0)) (va_up gx i (some h4.1)) := by
              rw [hx1]
              refine enr _ _ (pfh (by show h2.1 ≤ h5.1; omega) (by show h2.2.1 ≤ h5.2.1; omega) (F6 _)) (fun j hj => by simp [va_up, hj]) (fun _ => ⟨h4.1, by simp [va_up], ?_, ?_, ?_⟩)
              · obtain ⟨wa, gga, ha1, ha2⟩ := A5
                exact ⟨wa, gga, (d6 _ _ (by omega)).trans ha1, ha2⟩
              · show h4.1 < h5.1; omega
              · show ¬ h4.1 < f + 8; omega
            refine Ex_mv rfl rfl ?_; refine Ex_mv rfl rfl ?_; refine Ex_mv rfl rfl ?_; refine Ex_iff (by rw [t1]; exact not_not_intro rfl) ?_; refine Ex_mv rfl rfl ?_; refine Ex_invV rfl (by rfl) (by rfl) (by assumption) (by rfl) (e3) ?_; refine Ex_mv rfl rfl ?_; refine Ex_mv rfl rfl ?_; refine Ex_mv rfl rfl ?_; refine Ex_invV rfl (by rfl) (by rfl) (by assumption) (by rfl) (e4) ?_; refine Ex_mv rfl rfl ?_; refine Ex_iff (show ¬ nI 1 = 0 by decide) ?_; refine Ex_mv rfl rfl ?_; refine Ex_getf rfl hc4 rfl ?_; refine Ex_getf rfl f1' rfl ?_; refine Ex_mv rfl rfl ?_; refine Ex_mv rfl rfl ?_; refine Ex_getf rfl hc4 rfl ?_; refine Ex_getf rfl f1' rfl ?_; refine Ex_mv rfl rfl ?_; refine Ex_getf rfl hc4 rfl ?_; refine Ex_mv rfl rfl ?_; (first | refine Ex_subN rfl (by omega) ?_ | refine Ex_mv rfl rfl ?_); refine Ex_mv rfl rfl ?_; refine Ex_inv rfl (by rfl) (by rfl) (by rfl) (e5) ?_; refine Ex_aast rfl x4 A7 rfl (vp_in_nI (by omega) (by decide)) ?_
            refine Ex_mv rfl rfl ?_
            rw [ei]
            exact hww _ _ _ ⟨wst (b1 B p0), _, _, _, rfl, R6 _, fe2 (by show h2.1 ≤ h5.1; omega) (by show h5.1 ≤ _; omega) (by show h2.2.1 ≤ h5.2.1; omega) (F6 _), hC6, E6, rfl, by show h5.2.1 + p0 ≤ _; omega, by omega⟩
        · rw [if_neg t1] at hPE ⊢
          have t1n : ¬ nI (b1 B p0) = nI 1 := fun z => t1 ((nI_eq (by omega) (by decide)).mp z)
          have main : ∀ (k : Nat) (E : Rt), k < 100 → p_entry B (decide (i + 1 = n)) p0 (setS x i p0) = E → smP (p_skip B k (.inr (p0 + 1, setS x i p0))) E → (∀ R, (∀ h3 v, Ev (prog nb sa) m_MO_goes [.ref m0, .int (nI k)] h2 (some (.int v)) h3 → Ex (prog nb sa) k_MO_entry 204 [some (.ref m0), some (.int (nI i)), some (.int (nI p0)), some (.int (nI (b1 B p0))), some (.int (nI w4)), some (.int (nI 1)), some (.int v)] [] h3 R) → Ex (prog nb sa) k_MO_entry 120 [some (.ref m0), some (.int (nI i)), some (.int (nI p0)), some (.int (nI (b1 B p0))), some (.int (nI w4)), some (.int (nI 1)), none] [] h2 R) → Ex (prog nb sa) k_MO_entry 120 [some (.ref m0), some (.int (nI i)), some (.int (nI p0)), some (.int (nI (b1 B p0))), some (.int (nI w4)), some (.int (nI 1)), none] [] h2 (fun v h' => ∃ w gt' ga' gx', v = some (.int (nI w)) ∧ RQ h' m0 f a B E ∧ Fe m0 f h h' ∧ HC h' f b (nI n) be fa ow gt' ga' gx' g5 g6 gc ∧ EnP h h' f i p0 n B x w E gt' ga' gx') := by
            intro k E hk hpe hsm walk
            obtain ⟨_, h3, e3, rfl, R3, F3⟩ := c_MO_goes (nb := nb) (sa := sa) R2 hB2 hd (by omega) (k := k) (by omega)
            have R3' := R3.sm hsm
            have hC3 : HC h3 f b (nI n) be fa ow (upd gt i (nI (b1 B p0))) (upd ga i (nI p0)) gx g5 g6 gc := hC2.eq (fun q q1 q2 => F3.2.2 q (by omega))
            have hfe : Fe m0 f h h3 := fe2 (by rw [F3.1]; exact Nat.le_refl _) (by rw [F3.1]; omega) (by rw [F3.2.1]; exact Nat.le_refl _) (fun q q1 q2 q3 => F3.2.2 q (by omega))
            refine walk _ (fun h4 v e4 => ?_)
            have : h4 = h3 ∧ v = nI (ok1 (p_skip B k (.inr (p0 + 1, setS x i p0)))) := by
              obtain ⟨-, f4, hf4⟩ := e4
              obtain ⟨-, f3, hf3⟩ := e3
              have h5 := xexec_ge (prog nb sa) (Nat.le_max_left f3 f4) hf3
              have h6 := xexec_ge (prog nb sa) (Nat.le_max_right f3 f4) hf4
              rw [h5] at h6
              simp only [Option.some.injEq, Prod.mk.injEq, Value.int.injEq] at h6
              exact ⟨h6.2.symm, h6.1.symm⟩
            rw [this.1]
            cases E with
            | inl e => exact hww _ _ _ ⟨wst (b1 B p0), _, _, _, rfl, R3', hfe, hC3, by rw [F3.2.1]; exact ds.2, hwb.1, hwb.2⟩
            | inr e =>
              obtain ⟨p', x'⟩ := e
              obtain ⟨k1', k2', k3', k4', k5'⟩ := k_entry hpe
              have hx1 : x'.1 = upS x.1 i p0 := by rw [k5']; rfl
              refine hww _ _ _ ⟨wst (b1 B p0), _, _, _, rfl, R3', hfe, hC3, ?_, rfl, by rw [F3.2.1, ds.2]; omega, by omega⟩
              rw [hx1]
              exact enr _ _ (pfh (by rw [F3.1]; exact Nat.le_refl _) (by rw [F3.2.1]; exact Nat.le_refl _) (fun q q1 q2 q3 => F3.2.2 q (by omega))) (fun _ _ => rfl) (fun z => absurd z t1)
          by_cases t2 : 3 ≤ b1 B p0 ∧ b1 B p0 ≤ 6
          · rw [if_pos t2] at hPE ⊢
            by_cases t3 : b1 B p0 = 5 ∨ b1 B p0 = 6
            · rw [if_pos t3] at hPE ⊢
              rw [if_pos t3] at hw4
              subst hw4
              refine main 8 _ (by decide) hPE (smP_rf _) (fun R K => ?_)
              obtain ⟨_, h3, e3, rfl, -⟩ := c_MO_goes (nb := nb) (sa := sa) R2 hB2 hd (by omega) (k := 8) (by omega)
              refine Ex_mv rfl rfl ?_; refine Ex_mv rfl rfl ?_; refine Ex_mv rfl rfl ?_; refine Ex_ift t1n ?_; refine Ex_mv rfl rfl ?_; refine Ex_mv rfl rfl ?_; refine Ex_mv rfl rfl ?_; refine Ex_iff (by decide) ?_; refine Ex_mv rfl rfl ?_; refine Ex_mv rfl rfl ?_; refine Ex_invV rfl (by rfl) (by rfl) (by assumption) (by rfl) (e3) ?_; refine Ex_mv rfl rfl ?_
              exact K _ _ e3
            · rw [if_neg t3] at hPE ⊢
              rw [if_neg t3] at hw4
              subst hw4
              refine main 4 _ (by decide) hPE (smP_rf _) (fun R K => ?_)
              obtain ⟨_, h3, e3, rfl, -⟩ := c_MO_goes (nb := nb) (sa := sa) R2 hB2 hd (by omega) (k := 4) (by omega)
              refine Ex_mv rfl rfl ?_; refine Ex_mv rfl rfl ?_; refine Ex_mv rfl rfl ?_; refine Ex_ift t1n ?_; refine Ex_mv rfl rfl ?_; refine Ex_mv rfl rfl ?_; refine Ex_mv rfl rfl ?_; refine Ex_ift (by decide) ?_; refine Ex_mv rfl rfl ?_; refine Ex_mv rfl rfl ?_; refine Ex_mv rfl rfl ?_; refine Ex_iff (fun z => absurd ((nI_eq (by omega) (by decide)).mp z) (by omega)) ?_; refine Ex_mv rfl rfl ?_; refine Ex_mv rfl rfl ?_; refine Ex_mv rfl rfl ?_; refine Ex_ift (fun z => absurd ((nI_eq (by omega) (by decide)).mp z) (by omega)) ?_; refine Ex_mv rfl rfl ?_; refine Ex_invV rfl (by rfl) (by rfl) (by assumption) (by rfl) (e3) ?_; refine Ex_mv rfl rfl ?_
              exact K _ _ e3
          · rw [if_neg t2] at hPE ⊢
            have t3 : ¬ (b1 B p0 = 5 ∨ b1 B p0 = 6) := by omega
            rw [if_neg t3] at hw4
            subst hw4
            by_cases t4 : b1 B p0 = 7 ∨ b1 B p0 = 8
            · rw [if_pos t4] at hPE ⊢
              refine main 2 _ (by decide) hPE (smP_tell _) (fun R K => ?_)
              obtain ⟨_, h3, e3, rfl, -⟩ := c_MO_goes (nb := nb) (sa := sa) R2 hB2 hd (by omega) (k := 2) (by omega)
              refine Ex_mv rfl rfl ?_; refine Ex_mv rfl rfl ?_; refine Ex_mv rfl rfl ?_; refine Ex_ift t1n ?_; refine Ex_mv rfl rfl ?_; refine Ex_mv rfl rfl ?_; refine Ex_mv rfl rfl ?_; refine Ex_ift (by decide) ?_; refine Ex_mv rfl rfl ?_; refine Ex_mv rfl rfl ?_; refine Ex_mv rfl rfl ?_; (first | refine Ex_eqN (by omega) (by omega) (fun b185 => ?_) (fun b185 => ?_) | refine Ex_if (fun b185 => ?_) (fun b185 => ?_))
              · refine Ex_mv rfl rfl ?_; refine Ex_mv rfl rfl ?_; refine Ex_invV rfl (by rfl) (by rfl) (by assumption) (by rfl) (e3) ?_; refine Ex_mv rfl rfl ?_
                exact K _ _ e3
              · refine Ex_mv rfl rfl ?_; refine Ex_mv rfl rfl ?_; refine Ex_mv rfl rfl ?_; (first | refine Ex_neN (by omega) (by omega) (fun b191 => ?_) (fun b191 => ?_) | refine Ex_if (fun b191 => ?_) (fun b191 => ?_))
                · exfalso; omega
                · refine Ex_mv rfl rfl ?_; refine Ex_mv rfl rfl ?_; refine Ex_invV rfl (by rfl) (by rfl) (by assumption) (by rfl) (e3) ?_; refine Ex_mv rfl rfl ?_
                  exact K _ _ e3
            · rw [if_neg t4] at hPE ⊢
              refine main 4 _ (by decide) hPE (smP_tr (by rw [← skip_skip (j := 2) (k := 2)]; exact smP_skip (smP_tell _)) (smP_tell _)) (fun R K => ?_)
              obtain ⟨_, h3, e3, rfl, -⟩ := c_MO_goes (nb := nb) (sa := sa) R2 hB2 hd (by omega) (k := 4) (by omega)
              refine Ex_mv rfl rfl ?_; refine Ex_mv rfl rfl ?_; refine Ex_mv rfl rfl ?_; refine Ex_ift t1n ?_; refine Ex_mv rfl rfl ?_; refine Ex_mv rfl rfl ?_; refine Ex_mv rfl rfl ?_; refine Ex_ift (by decide) ?_; refine Ex_mv rfl rfl ?_; refine Ex_mv rfl rfl ?_; refine Ex_mv rfl rfl ?_; refine Ex_iff (fun z => absurd ((nI_eq (by omega) (by decide)).mp z) (by omega)) ?_; refine Ex_mv rfl rfl ?_; refine Ex_mv rfl rfl ?_; refine Ex_mv rfl rfl ?_; refine Ex_ift (fun z => absurd ((nI_eq (by omega) (by decide)).mp z) (by omega)) ?_; refine Ex_mv rfl rfl ?_; refine Ex_invV rfl (by rfl) (by rfl) (by assumption) (by rfl) (e3) ?_; refine Ex_mv rfl rfl ?_
              exact K _ _ e3
    · rw [if_neg g1] at hw5
      subst hw5
      rw [if_pos (Or.inl g1), es]
      obtain ⟨_, h2, e2, rfl, R2, F2⟩ := c_MO_fails (nb := nb) (sa := sa) R1 (k := 4) (w := p0) (by decide) (by decide)
      refine Ex_mv rfl rfl ?_; refine Ex_mv rfl rfl ?_; refine Ex_ift (by decide) ?_; refine Ex_mv rfl rfl ?_; refine Ex_mv rfl rfl ?_; refine Ex_mv rfl rfl ?_; refine Ex_invV rfl (by rfl) (by rfl) (by assumption) (by rfl) (e2) ?_; refine Ex_mv rfl rfl ?_
      refine Ex_rt rfl rfl ?_
      exact ⟨1, gt, ga, gx, rfl, R2, fe1 F2, hC1.eq (fun q q1 q2 => F2.2.2 q (by omega)), by rw [F2.2.1, F1.2.1], by decide, by decide⟩
  · have es : p_skip B 1 (.inr (p0, setS x i p0)) = .inl (1, B.length) := if_neg h1l
    rw [es] at e1 R1
    have hz : b1 B p0 = 0 := b1_out (by omega)
    have hpe : p_entry B (decide (i + 1 = n)) p0 (setS x i p0) = .inl (1, B.length) := by
      unfold p_entry
      rw [if_pos (Or.inl (by omega)), es]; rfl
    rw [hpe]
    refine EvQ_of k_MO_entry 7 [some (.ref m0), some (.int (nI i)), none, none, none, none, none] rfl (Nat.le_of_ble_eq_true rfl) rfl ?_
    refine Ex_mv rfl rfl ?_; refine Ex_getf rfl (by assumption) rfl ?_; refine Ex_mv rfl rfl ?_; refine Ex_mv rfl rfl ?_; refine Ex_mv rfl rfl ?_; refine Ex_invV rfl (by rfl) (by rfl) (by assumption) (by rfl) (e1) ?_; refine Ex_mv rfl rfl ?_; refine Ex_iff (not_not_intro (show nI 0 = 0 from rfl)) ?_; refine Ex_mv rfl rfl ?_
    refine Ex_rt rfl rfl ?_
    exact ⟨1, gt, ga, gx, rfl, R1, fe1 FrI.rf, hC1, F1.2.1, by decide, by decide⟩
end REF4
