/-! the bytes behind the pool as tokens -/
def tokP (B : List Nat) : Nat → List Nat → Nat → List (Nat ⊕ Nat)
  | a, [], e => (sl B a (e - a)).map .inl
  | a, t :: T, e => (sl B a (t - a)).map .inl ++ .inr (b2 B t) :: tokP B (t + 2) T e
def outT (mv : Nat → Nat) : List (Nat ⊕ Nat) → List Nat
  | [] => []
  | .inl b :: r => b :: outT mv r
  | .inr p :: r => tw2 (mv p) ++ outT mv r
theorem outT_app (mv : Nat → Nat) : ∀ (A R : List (Nat ⊕ Nat)), outT mv (A ++ R) = outT mv A ++ outT mv R
  | [], R => rfl
  | .inl b :: A, R => by rw [List.cons_append, outT, outT, outT_app mv A R]; rfl
  | .inr p :: A, R => by rw [List.cons_append, outT, outT, outT_app mv A R, List.append_assoc]
theorem outT_inl (mv : Nat → Nat) : ∀ A : List Nat, outT mv (A.map .inl) = A
  | [] => rfl
  | b :: A => by rw [List.map_cons, outT, outT_inl mv A]
theorem sl_split {B : List Nat} {a m e : Nat} (h1 : a ≤ m) (h2 : m ≤ e) : sl B a (e - a) = sl B a (m - a) ++ sl B m (e - m) := by
  rw [show e - a = (m - a) + (e - m) by omega, sl_add, show a + (m - a) = m by omega]
theorem put2_mid {X Y : List Nat} {y z v : Nat} : put2 (X ++ y :: z :: Y) X.length v = X ++ (tw2 v ++ Y) := by
  unfold put2 tw2
  rw [List.set_append_right _ _ (Nat.le_refl _), Nat.sub_self, List.set_append_right _ _ (by omega), show X.length + 1 - X.length = 1 by omega]
  rfl
theorem pR_out {B : List Nat} {mv : Nat → Nat} {bh : Nat} : ∀ (T : List Nat) (a : Nat) (X : List Nat), IncE a T B.length → bh ≤ a → X.length = a - bh → pR B mv bh T (X ++ sl B a (B.length - a)) = X ++ outT mv (tokP B a T B.length)
  | [], a, X, hI, hb, hX => by rw [pR, tokP, outT_inl]
  | t :: T, a, X, hI, hb, hX => by
    obtain ⟨h1, h2⟩ := hI
    have hle := h2.le
    rw [pR, tokP, outT_app, outT_inl, outT]
    have e1 : sl B a (B.length - a) = sl B a (t - a) ++ (b1 B t :: b1 B (t + 1) :: sl B (t + 2) (B.length - (t + 2))) := by
      rw [sl_split h1 (show t ≤ B.length by omega), show B.length - t = (B.length - (t + 2)) + 1 + 1 by omega, sl_cons (by omega), sl_cons (by omega)]
    have hl2 : (X ++ sl B a (t - a)).length = t - bh := by rw [List.length_append, sl_len (by omega)]; omega
    rw [e1, ← List.append_assoc, ← hl2, put2_mid, ← List.append_assoc, ← List.append_assoc]
    have ih := pR_out (mv := mv) (bh := bh) T (t + 2) (X ++ sl B a (t - a) ++ tw2 (mv (b2 B t))) h2 (by omega) (by rw [List.length_append, hl2]; simp [tw2]; omega)
    rw [ih]
    simp only [List.append_assoc]
/-- places as meanings -/
def tokM (F : Nat → Mng) : List (Nat ⊕ Nat) → List (Nat ⊕ Mng)
  | [] => []
  | .inl b :: r => .inl b :: tokM F r
  | .inr p :: r => .inr (F p) :: tokM F r
theorem tokM_app (F : Nat → Mng) : ∀ (A R : List (Nat ⊕ Nat)), tokM F (A ++ R) = tokM F A ++ tokM F R
  | [], R => rfl
  | .inl b :: A, R => by rw [List.cons_append, tokM, tokM, tokM_app F A R]; rfl
  | .inr p :: A, R => by rw [List.cons_append, tokM, tokM, tokM_app F A R]; rfl
theorem tokM_inl (F : Nat → Mng) : ∀ A : List Nat, tokM F (A.map .inl) = A.map .inl
  | [] => rfl
  | b :: A => by rw [List.map_cons, tokM, tokM_inl F A, List.map_cons]
theorem inl_inj : ∀ (A C : List Nat), (A.map .inl : List (Nat ⊕ Mng)) = C.map .inl ↔ A = C
  | [], [] => by simp
  | [], c :: C => by simp
  | a :: A, [] => by simp
  | a :: A, c :: C => by simp [inl_inj A C]
theorem tok_cut {x y : Mng} {R R' : List (Nat ⊕ Mng)} : ∀ (A C : List Nat), A.map .inl ++ .inr x :: R = C.map .inl ++ .inr y :: R' ↔ A = C ∧ x = y ∧ R = R'
  | [], [] => by simp
  | [], c :: C => by simp
  | a :: A, [] => by simp
  | a :: A, c :: C => by simp [tok_cut A C, and_assoc]
theorem tok_no {y : Mng} {R' : List (Nat ⊕ Mng)} : ∀ (A C : List Nat), (A.map .inl : List (Nat ⊕ Mng)) ≠ C.map .inl ++ .inr y :: R'
  | [], [] => by simp
  | [], c :: C => by simp
  | a :: A, [] => by simp
  | a :: A, c :: C => by
    intro h
    simp only [List.map_cons, List.cons_append, List.cons.injEq] at h
    exact tok_no A C h.2
theorem mea_tok {B B' : List Nat} {F G : Nat → Mng} : ∀ (T U : List Nat) (a b : Nat), mea B B' F G T U a b = true ↔ tokM F (tokP B a T B.length) = tokM G (tokP B' b U B'.length)
  | [], [], a, b => by
    rw [mea, tokP, tokP, tokM_inl, tokM_inl, inl_inj, decide_eq_true_eq]
    exact cmpL_good.2.1 _ _
  | [], u :: U, a, b => by
    rw [mea, tokP, tokP, tokM_app, tokM_inl, tokM_inl, tokM]
    exact ⟨fun h => absurd h (by decide), fun h => absurd h (tok_no _ _)⟩
  | t :: T, [], a, b => by
    rw [mea, tokP, tokP, tokM_app, tokM_inl, tokM_inl, tokM]
    exact ⟨fun h => absurd h (by decide), fun h => absurd h.symm (tok_no _ _)⟩
  | t :: T, u :: U, a, b => by
    rw [mea, tokP, tokP, tokM_app, tokM_app, tokM_inl, tokM_inl, tokM, tokM, tok_cut, Bool.and_eq_true, Bool.and_eq_true, decide_eq_true_eq, decide_eq_true_eq, mea_tok T U, cmpM_eq]
    rw [cmpL_good.2.1]
/-- the tokens by the parts of a file -/
def tB2 (B : List Nat) (p : Nat) : List (Nat ⊕ Nat) := (sl B p 2).map .inl
def sAtt (B : List Nat) : Nat → Nat → List (Nat ⊕ Nat)
  | 0, _ => []
  | d + 1, p => .inr (b2 B p) :: ((sl B (p + 2) (4 + b4 B (p + 2))).map .inl ++ sAtt B d (p + 6 + b4 B (p + 2)))
def sMem (B : List Nat) : Nat → Nat → List (Nat ⊕ Nat)
  | 0, _ => []
  | d + 1, p => tB2 B p ++ (.inr (b2 B (p + 2)) :: .inr (b2 B (p + 4)) :: (tB2 B (p + 6) ++ (sAtt B (b2 B (p + 6)) (p + 8) ++ sMem B d (attE B (p + 6)))))
def sFac (B : List Nat) : Nat → Nat → List (Nat ⊕ Nat)
  | 0, _ => []
  | d + 1, p => .inr (b2 B p) :: sFac B d (p + 2)
def sTok (B : List Nat) (bh : Nat) : List (Nat ⊕ Nat) := tB2 B bh ++ (.inr (b2 B (bh + 2)) :: ((if b2 B (bh + 4) = 0 then tB2 B (bh + 4) else [.inr (b2 B (bh + 4))]) ++ (tB2 B (bh + 6) ++ (sFac B (b2 B (bh + 6)) (bh + 8) ++ (tB2 B (fP B bh) ++ (sMem B (b2 B (fP B bh)) (fP B bh + 2) ++ (tB2 B (mP B bh) ++ (sMem B (b2 B (mP B bh)) (mP B bh + 2) ++ (tB2 B (aP B bh) ++ sAtt B (b2 B (aP B bh)) (aP B bh + 2))))))))))
theorem tokP_pre {B : List Nat} : ∀ (T : List Nat) (a m e : Nat), a ≤ m → IncE m T e → tokP B a T e = (sl B a (m - a)).map .inl ++ tokP B m T e
  | [], a, m, e, h1, h2 => by rw [tokP, tokP, ← List.map_append, sl_split h1 h2]
  | t :: T, a, m, e, h1, h2 => by
    rw [tokP, tokP, ← List.append_assoc, ← List.map_append, sl_split h1 h2.1]
theorem tokP_app {B : List Nat} : ∀ (T U : List Nat) (a m e : Nat), IncE a T m → IncE m U e → tokP B a (T ++ U) e = tokP B a T m ++ tokP B m U e
  | [], U, a, m, e, h1, h2 => tokP_pre U a m e h1 h2
  | t :: T, U, a, m, e, h1, h2 => by
    rw [List.cons_append, tokP, tokP, tokP_app T U (t + 2) m e h1.2 h2]
    simp only [List.append_assoc, List.cons_append]
theorem tok_att {B : List Nat} : ∀ d p, AttG B d p → tokP B p ((attT B d p).map (·.1)) (atP B d p) = sAtt B d p
  | 0, p, _ => by
    show (sl B p (p - p)).map _ = []
    rw [Nat.sub_self, sl_nil]; rfl
  | d + 1, p, h => by
    have ih := tok_att d _ h.2.2
    show tokP B p (p :: (attT B d (p + 6 + b4 B (p + 2))).map (·.1)) (atP B d (p + 6 + b4 B (p + 2))) = _
    rw [tokP, Nat.sub_self, sl_nil, tokP_pre _ _ _ _ (show p + 2 ≤ p + 6 + b4 B (p + 2) by omega) (incE_att _ _ h.2.2), ih, sAtt, show p + 6 + b4 B (p + 2) - (p + 2) = 4 + b4 B (p + 2) by omega]
    rfl
theorem tok_fac {B : List Nat} : ∀ d p, tokP B p ((facT d p).map (·.1)) (p + 2 * d) = sFac B d p
  | 0, p => by
    show (sl B p (p + 2 * 0 - p)).map _ = []
    rw [show p + 2 * 0 - p = 0 by omega, sl_nil]; rfl
  | d + 1, p => by
    have ih := tok_fac (B := B) d (p + 2)
    rw [show p + 2 * (d + 1) = p + 2 + 2 * d by omega]
    show tokP B p (p :: (facT d (p + 2)).map (·.1)) (p + 2 + 2 * d) = _
    rw [tokP, Nat.sub_self, sl_nil, ih, sFac]; rfl
theorem tok_mem {B : List Nat} : ∀ d p, MemG B d p → tokP B p ((memT B d p).map (·.1)) (memE B d p) = sMem B d p
  | 0, p, _ => by
    show (sl B p (p - p)).map _ = []
    rw [Nat.sub_self, sl_nil]; rfl
  | d + 1, p, h => by
    obtain ⟨h1, h2, h3, h4⟩ := h
    have ih := tok_mem d _ h4
    have ia := tok_att _ _ h3
    have i1 : IncE (p + 8) ((attT B (b2 B (p + 6)) (p + 8)).map (·.1)) (attE B (p + 6)) := incE_att _ _ h3
    have i2 := incE_mem d _ h4
    show tokP B p ((p + 2) :: (p + 4) :: ((attT B (b2 B (p + 6)) (p + 8) ++ memT B d (attE B (p + 6))).map (·.1))) (memE B d (attE B (p + 6))) = _
    rw [List.map_append, tokP, tokP, tokP_app _ _ _ (attE B (p + 6)) _ (i1.mono (by omega)) i2, tokP_pre _ (p + 4 + 2) (p + 8) _ (by omega) i1, ih]
    rw [show tokP B (p + 8) ((attT B (b2 B (p + 6)) (p + 8)).map (·.1)) (attE B (p + 6)) = sAtt B (b2 B (p + 6)) (p + 8) from ia]
    rw [sMem, show p + 2 - p = 2 by omega, show p + 4 - (p + 2 + 2) = 0 by omega, show p + 8 - (p + 4 + 2) = 2 by omega, sl_nil]
    unfold tB2
    simp only [List.map_nil, List.nil_append, List.append_assoc, show p + 4 + 2 = p + 6 by omega]
theorem tok_all {B : List Nat} {x : Fs} (h : GF B x) : tokP B x.2.2.1 ((bT B x.2.2.1).map (·.1)) B.length = sTok B x.2.2.1 := by
  obtain ⟨h1, h2, h3, h4, h5, h6, h7, h8, h9, h10, h11, h12, h13, h14, h15, -⟩ := h
  have i4 : IncE (aP B x.2.2.1 + 2) ((attT B (b2 B (aP B x.2.2.1)) (aP B x.2.2.1 + 2)).map (·.1)) B.length := by
    have := incE_att _ _ h14
    rw [show atP B (b2 B (aP B x.2.2.1)) (aP B x.2.2.1 + 2) = B.length from h15] at this
    exact this
  have i3 : IncE (mP B x.2.2.1 + 2) ((memT B (b2 B (mP B x.2.2.1)) (mP B x.2.2.1 + 2)).map (·.1)) (aP B x.2.2.1) := incE_mem _ _ h11
  have i2 : IncE (fP B x.2.2.1 + 2) ((memT B (b2 B (fP B x.2.2.1)) (fP B x.2.2.1 + 2)).map (·.1)) (mP B x.2.2.1) := incE_mem _ _ h8
  have i1 : IncE (x.2.2.1 + 8) ((facT (b2 B (x.2.2.1 + 6)) (x.2.2.1 + 8)).map (·.1)) (fP B x.2.2.1) := incE_fac _ _
  have j4 := i4.mono (show aP B x.2.2.1 ≤ _ by omega)
  have j3 := IncE.app (i3.mono (show mP B x.2.2.1 ≤ _ by omega)) j4
  have j2 := IncE.app (i2.mono (show fP B x.2.2.1 ≤ _ by omega)) j3
  have j1 := IncE.app i1 j2
  have k4 : tokP B (aP B x.2.2.1) ((attT B (b2 B (aP B x.2.2.1)) (aP B x.2.2.1 + 2)).map (·.1)) B.length = tB2 B (aP B x.2.2.1) ++ sAtt B (b2 B (aP B x.2.2.1)) (aP B x.2.2.1 + 2) := by
    rw [tokP_pre _ _ (aP B x.2.2.1 + 2) _ (by omega) i4, show aP B x.2.2.1 + 2 - aP B x.2.2.1 = 2 by omega]
    have := tok_att _ _ h14
    rw [show atP B (b2 B (aP B x.2.2.1)) (aP B x.2.2.1 + 2) = B.length from h15] at this
    rw [this]; rfl
  have k3 : tokP B (mP B x.2.2.1) ((memT B (b2 B (mP B x.2.2.1)) (mP B x.2.2.1 + 2)).map (·.1)) (aP B x.2.2.1) = tB2 B (mP B x.2.2.1) ++ sMem B (b2 B (mP B x.2.2.1)) (mP B x.2.2.1 + 2) := by
    rw [tokP_pre _ _ (mP B x.2.2.1 + 2) _ (by omega) i3, show mP B x.2.2.1 + 2 - mP B x.2.2.1 = 2 by omega]
    have := tok_mem _ _ h11
    rw [show tokP B (mP B x.2.2.1 + 2) ((memT B (b2 B (mP B x.2.2.1)) (mP B x.2.2.1 + 2)).map (·.1)) (aP B x.2.2.1) = _ from this]; rfl
  have k2 : tokP B (fP B x.2.2.1) ((memT B (b2 B (fP B x.2.2.1)) (fP B x.2.2.1 + 2)).map (·.1)) (mP B x.2.2.1) = tB2 B (fP B x.2.2.1) ++ sMem B (b2 B (fP B x.2.2.1)) (fP B x.2.2.1 + 2) := by
    rw [tokP_pre _ _ (fP B x.2.2.1 + 2) _ (by omega) i2, show fP B x.2.2.1 + 2 - fP B x.2.2.1 = 2 by omega]
    have := tok_mem _ _ h8
    rw [show tokP B (fP B x.2.2.1 + 2) ((memT B (b2 B (fP B x.2.2.1)) (fP B x.2.2.1 + 2)).map (·.1)) (mP B x.2.2.1) = _ from this]; rfl
  have k1 : tokP B (x.2.2.1 + 6) ((facT (b2 B (x.2.2.1 + 6)) (x.2.2.1 + 8)).map (·.1)) (fP B x.2.2.1) = tB2 B (x.2.2.1 + 6) ++ sFac B (b2 B (x.2.2.1 + 6)) (x.2.2.1 + 8) := by
    rw [tokP_pre _ _ (x.2.2.1 + 8) _ (by omega) i1, show x.2.2.1 + 8 - (x.2.2.1 + 6) = 2 by omega]
    have := tok_fac (B := B) (b2 B (x.2.2.1 + 6)) (x.2.2.1 + 8)
    rw [show tokP B (x.2.2.1 + 8) ((facT (b2 B (x.2.2.1 + 6)) (x.2.2.1 + 8)).map (·.1)) (fP B x.2.2.1) = _ from this]; rfl
  have kall : tokP B (x.2.2.1 + 6) ((facT (b2 B (x.2.2.1 + 6)) (x.2.2.1 + 8)).map (·.1) ++ ((memT B (b2 B (fP B x.2.2.1)) (fP B x.2.2.1 + 2)).map (·.1) ++ ((memT B (b2 B (mP B x.2.2.1)) (mP B x.2.2.1 + 2)).map (·.1) ++ (attT B (b2 B (aP B x.2.2.1)) (aP B x.2.2.1 + 2)).map (·.1)))) B.length = tB2 B (x.2.2.1 + 6) ++ (sFac B (b2 B (x.2.2.1 + 6)) (x.2.2.1 + 8) ++ (tB2 B (fP B x.2.2.1) ++ (sMem B (b2 B (fP B x.2.2.1)) (fP B x.2.2.1 + 2) ++ (tB2 B (mP B x.2.2.1) ++ (sMem B (b2 B (mP B x.2.2.1)) (mP B x.2.2.1 + 2) ++ (tB2 B (aP B x.2.2.1) ++ sAtt B (b2 B (aP B x.2.2.1)) (aP B x.2.2.1 + 2))))))) := by
    rw [tokP_app _ _ _ (fP B x.2.2.1) _ (i1.mono (by omega)) j2, k1, tokP_app _ _ _ (mP B x.2.2.1) _ (i2.mono (by omega)) j3, k2, tokP_app _ _ _ (aP B x.2.2.1) _ (i3.mono (by omega)) j4, k3, k4]
    simp only [List.append_assoc]
  unfold bT sTok
  rw [List.map_cons, List.map_append, List.map_append, List.map_append, List.map_append, tokP]
  simp only
  rw [show x.2.2.1 + 2 - x.2.2.1 = 2 by omega]
  by_cases hz : b2 B (x.2.2.1 + 4) = 0
  · rw [if_pos hz, if_pos hz, List.map_nil, List.nil_append, show x.2.2.1 + 2 + 2 = x.2.2.1 + 4 by omega, tokP_pre _ (x.2.2.1 + 4) (x.2.2.1 + 6) _ (by omega) (j1.mono (by omega)), kall, show x.2.2.1 + 6 - (x.2.2.1 + 4) = 2 by omega]
    rfl
  · rw [if_neg hz, if_neg hz, List.map_cons, List.map_nil, List.cons_append, List.nil_append, tokP]
    simp only
    rw [show x.2.2.1 + 2 + 2 = x.2.2.1 + 4 by omega, Nat.sub_self, sl_nil, show x.2.2.1 + 4 + 2 = x.2.2.1 + 6 by omega, kall]
    rfl
