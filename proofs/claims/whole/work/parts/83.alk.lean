/-! files alike: the tokens taken apart -/
noncomputable def bI (p : Prop) : Nat := @ite Nat p (Classical.propDecidable p) 1 0
theorem bI_t {p : Prop} (h : p) : bI p = 1 := by unfold bI; exact if_pos h
theorem bI_f {p : Prop} (h : ¬ p) : bI p = 0 := by unfold bI; exact if_neg h
theorem bI_eq {p q : Prop} (h : p ↔ q) : bI p = bI q := by rw [propext h]
theorem tw2_inj {a b : Nat} (h : tw2 a = tw2 b) : a = b := by
  simp only [tw2, List.cons.injEq, and_true] at h
  omega
theorem sl2_tw {B : List Nat} (hB : ∀ x ∈ B, x < 256) {p : Nat} (hp : p + 2 ≤ B.length) : sl B p 2 = tw2 (b2 B p) := by
  rw [tw2_b2 hB (by omega), sl_cons (by omega), sl_cons (by omega), sl_nil]
theorem app_iff {α : Type} {A A' R R' : List α} (h : A.length = A'.length) : A ++ R = A' ++ R' ↔ A = A' ∧ R = R' := ⟨fun e => List.append_inj e h, fun e => by rw [e.1, e.2]⟩
section ALK
variable {B B' : List Nat} {F G : Nat → Mng}
theorem tB2_iff (hB : ∀ x ∈ B, x < 256) (hB' : ∀ x ∈ B', x < 256) {p q : Nat} (hp : p + 2 ≤ B.length) (hq : q + 2 ≤ B'.length) {R R' : List (Nat ⊕ Nat)} : tokM F (tB2 B p ++ R) = tokM G (tB2 B' q ++ R') ↔ b2 B p = b2 B' q ∧ tokM F R = tokM G R' := by
  unfold tB2
  rw [tokM_app, tokM_app, tokM_inl, tokM_inl, app_iff (by simp [sl_len hp, sl_len hq]), inl_inj, sl2_tw hB hp, sl2_tw hB' hq]
  exact ⟨fun h => ⟨tw2_inj h.1, h.2⟩, fun h => ⟨by rw [h.1], h.2⟩⟩
theorem tokr_iff {i j : Nat} {R R' : List (Nat ⊕ Nat)} : tokM F (.inr i :: R) = tokM G (.inr j :: R') ↔ F i = G j ∧ tokM F R = tokM G R' := by
  rw [tokM, tokM, List.cons.injEq, Sum.inr.injEq]
theorem inl_iff {A A' : List Nat} (h : A.length = A'.length) {R R' : List (Nat ⊕ Nat)} : tokM F (A.map .inl ++ R) = tokM G (A'.map .inl ++ R') ↔ A = A' ∧ tokM F R = tokM G R' := by
  rw [tokM_app, tokM_app, tokM_inl, tokM_inl, app_iff (by simp [h]), inl_inj]
/-- attributes alike -/
def eqA (B B' : List Nat) (F G : Nat → Mng) : Nat → Nat → Nat → Prop
  | 0, _, _ => True
  | d + 1, p, q => (F (b2 B p) = G (b2 B' q) ∧ b4 B (p + 2) = b4 B' (q + 2) ∧ sl B (p + 6) (b4 B (p + 2)) = sl B' (q + 6) (b4 B (p + 2))) ∧ eqA B B' F G d (p + 6 + b4 B (p + 2)) (q + 6 + b4 B' (q + 2))
def eqF (B B' : List Nat) (F G : Nat → Mng) : Nat → Nat → Nat → Prop
  | 0, _, _ => True
  | d + 1, p, q => F (b2 B p) = G (b2 B' q) ∧ eqF B B' F G d (p + 2) (q + 2)
def eqQ (B B' : List Nat) (F G : Nat → Mng) (p q : Nat) : Prop := b2 B p = b2 B' q ∧ eqA B B' F G (b2 B p) (p + 2) (q + 2)
def eqM (B B' : List Nat) (F G : Nat → Mng) : Nat → Nat → Nat → Prop
  | 0, _, _ => True
  | d + 1, p, q => (b2 B p = b2 B' q ∧ F (b2 B (p + 2)) = G (b2 B' (q + 2)) ∧ F (b2 B (p + 4)) = G (b2 B' (q + 4)) ∧ eqQ B B' F G (p + 6) (q + 6)) ∧ eqM B B' F G d (attE B (p + 6)) (attE B' (q + 6))
theorem sl4_iff (hB : ∀ x ∈ B, x < 256) (hB' : ∀ x ∈ B', x < 256) {p q : Nat} (hp : p + 4 ≤ B.length) (hq : q + 4 ≤ B'.length) : sl B p 4 = sl B' q 4 ↔ b4 B p = b4 B' q := by
  have l1 := b2_lt hB p
  have l2 := b2_lt hB (p + 2)
  have l3 := b2_lt hB' q
  have l4 := b2_lt hB' (q + 2)
  rw [show (4 : Nat) = 2 + 2 from rfl, sl_add, sl_add, app_iff (by rw [sl_len (by omega), sl_len (by omega)]), sl2_tw hB (by omega), sl2_tw hB' (by omega), sl2_tw hB (by omega), sl2_tw hB' (by omega)]
  unfold b4
  constructor
  · intro h
    rw [tw2_inj h.1, tw2_inj h.2]
  · intro h
    rw [show b2 B p = b2 B' q by omega, show b2 B (p + 2) = b2 B' (q + 2) by omega]
    exact ⟨rfl, rfl⟩
theorem att_iff (hB : ∀ x ∈ B, x < 256) (hB' : ∀ x ∈ B', x < 256) : ∀ (d p q : Nat) (R R' : List (Nat ⊕ Nat)), AttG B d p → AttG B' d q → (tokM F (sAtt B d p ++ R) = tokM G (sAtt B' d q ++ R') ↔ eqA B B' F G d p q ∧ tokM F R = tokM G R')
  | 0, p, q, R, R', _, _ => by simp [sAtt, eqA]
  | d + 1, p, q, R, R', ⟨h1, h2, h3⟩, ⟨k1, k2, k3⟩ => by
    have ih := att_iff hB hB' d _ _ R R' h3 k3
    have e0 : sAtt B (d + 1) p ++ R = .inr (b2 B p) :: ((sl B (p + 2) 4).map .inl ++ ((sl B (p + 6) (b4 B (p + 2))).map .inl ++ (sAtt B d (p + 6 + b4 B (p + 2)) ++ R))) := by
      rw [sAtt, sl_add, List.map_append]; simp only [List.cons_append, List.append_assoc]
    have e0' : sAtt B' (d + 1) q ++ R' = .inr (b2 B' q) :: ((sl B' (q + 2) 4).map .inl ++ ((sl B' (q + 6) (b4 B' (q + 2))).map .inl ++ (sAtt B' d (q + 6 + b4 B' (q + 2)) ++ R'))) := by
      rw [sAtt, sl_add, List.map_append]; simp only [List.cons_append, List.append_assoc]
    rw [e0, e0', tokr_iff, inl_iff (by rw [sl_len (show p + 2 + 4 ≤ B.length by omega), sl_len (show q + 2 + 4 ≤ B'.length by omega)]), sl4_iff hB hB' (by omega) (by omega)]
    unfold eqA
    constructor
    · rintro ⟨e1, e2, e3⟩
      rw [inl_iff (by rw [sl_len (show p + 6 + b4 B (p + 2) ≤ B.length by omega), sl_len (show q + 6 + b4 B' (q + 2) ≤ B'.length by omega), e2]), ih] at e3
      obtain ⟨e3, e4, e5⟩ := e3
      exact ⟨⟨⟨e1, e2, by rw [e3, e2]⟩, e4⟩, e5⟩
    · rintro ⟨⟨⟨e1, e2, e3⟩, e4⟩, e5⟩
      refine ⟨e1, e2, ?_⟩
      rw [inl_iff (by rw [sl_len (show p + 6 + b4 B (p + 2) ≤ B.length by omega), sl_len (show q + 6 + b4 B' (q + 2) ≤ B'.length by omega), e2]), ih]
      exact ⟨by rw [e3, e2], e4, e5⟩
theorem fac_iff : ∀ (d p q : Nat) (R R' : List (Nat ⊕ Nat)), (tokM F (sFac B d p ++ R) = tokM G (sFac B' d q ++ R') ↔ eqF B B' F G d p q ∧ tokM F R = tokM G R')
  | 0, p, q, R, R' => by simp [sFac, eqF]
  | d + 1, p, q, R, R' => by
    rw [sFac, sFac, List.cons_append, List.cons_append, tokr_iff, fac_iff d, eqF, and_assoc]
theorem q_iff (hB : ∀ x ∈ B, x < 256) (hB' : ∀ x ∈ B', x < 256) {p q : Nat} {R R' : List (Nat ⊕ Nat)} (hp : p + 2 ≤ B.length) (hq : q + 2 ≤ B'.length) (h1 : AttG B (b2 B p) (p + 2)) (h2 : AttG B' (b2 B' q) (q + 2)) : tokM F (tB2 B p ++ (sAtt B (b2 B p) (p + 2) ++ R)) = tokM G (tB2 B' q ++ (sAtt B' (b2 B' q) (q + 2) ++ R')) ↔ eqQ B B' F G p q ∧ tokM F R = tokM G R' := by
  rw [tB2_iff hB hB' hp hq]
  unfold eqQ
  constructor
  · rintro ⟨e1, e2⟩
    rw [← e1] at e2 h2
    rw [att_iff hB hB' _ _ _ _ _ h1 h2] at e2
    exact ⟨⟨e1, e2.1⟩, e2.2⟩
  · rintro ⟨⟨e1, e2⟩, e3⟩
    refine ⟨e1, ?_⟩
    rw [← e1] at h2 ⊢
    rw [att_iff hB hB' _ _ _ _ _ h1 h2]
    exact ⟨e2, e3⟩
theorem mem_iff (hB : ∀ x ∈ B, x < 256) (hB' : ∀ x ∈ B', x < 256) : ∀ (d p q : Nat) (R R' : List (Nat ⊕ Nat)), MemG B d p → MemG B' d q → (tokM F (sMem B d p ++ R) = tokM G (sMem B' d q ++ R') ↔ eqM B B' F G d p q ∧ tokM F R = tokM G R')
  | 0, p, q, R, R', _, _ => by simp [sMem, eqM]
  | d + 1, p, q, R, R', ⟨h1, h2, h3, h4⟩, ⟨k1, k2, k3, k4⟩ => by
    have ih := mem_iff hB hB' d _ _ R R' h4 k4
    have qi := q_iff (F := F) (G := G) hB hB' (p := p + 6) (q := q + 6) (R := sMem B d (attE B (p + 6)) ++ R) (R' := sMem B' d (attE B' (q + 6)) ++ R') (by omega) (by omega) h3 k3
    have e0 : sMem B (d + 1) p ++ R = tB2 B p ++ (.inr (b2 B (p + 2)) :: .inr (b2 B (p + 4)) :: (tB2 B (p + 6) ++ (sAtt B (b2 B (p + 6)) (p + 8) ++ (sMem B d (attE B (p + 6)) ++ R)))) := by
      rw [sMem]; simp only [List.cons_append, List.append_assoc]
    have e0' : sMem B' (d + 1) q ++ R' = tB2 B' q ++ (.inr (b2 B' (q + 2)) :: .inr (b2 B' (q + 4)) :: (tB2 B' (q + 6) ++ (sAtt B' (b2 B' (q + 6)) (q + 8) ++ (sMem B' d (attE B' (q + 6)) ++ R')))) := by
      rw [sMem]; simp only [List.cons_append, List.append_assoc]
    rw [e0, e0', tB2_iff hB hB' (by omega) (by omega), tokr_iff, tokr_iff]
    rw [show p + 6 + 2 = p + 8 from rfl, show q + 6 + 2 = q + 8 from rfl] at qi
    rw [qi, ih, eqM]
    simp only [and_assoc]
def SPq (F G : Nat → Mng) (i j : Nat) : Prop := if i = 0 ∨ j = 0 then i = j else F i = G j
theorem up_iff (hB : ∀ x ∈ B, x < 256) (hB' : ∀ x ∈ B', x < 256) {p q : Nat} {R R' : List (Nat ⊕ Nat)} (hp : p + 2 ≤ B.length) (hq : q + 2 ≤ B'.length) : tokM F ((if b2 B p = 0 then tB2 B p else [.inr (b2 B p)]) ++ R) = tokM G ((if b2 B' q = 0 then tB2 B' q else [.inr (b2 B' q)]) ++ R') ↔ SPq F G (b2 B p) (b2 B' q) ∧ tokM F R = tokM G R' := by
  unfold SPq
  by_cases h1 : b2 B p = 0
  · by_cases h2 : b2 B' q = 0
    · rw [if_pos h1, if_pos h2, tB2_iff hB hB' hp hq, if_pos (Or.inl h1)]
    · rw [if_pos h1, if_neg h2, if_pos (Or.inl h1)]
      constructor
      · intro e
        unfold tB2 at e
        rw [sl_cons (by omega), List.map_cons, List.cons_append, tokM, List.cons_append, tokM] at e
        cases e
      · rintro ⟨e, -⟩; omega
  · by_cases h2 : b2 B' q = 0
    · rw [if_neg h1, if_pos h2, if_pos (Or.inr h2)]
      constructor
      · intro e
        unfold tB2 at e
        rw [sl_cons (by omega), List.map_cons, List.cons_append, tokM, List.cons_append, tokM] at e
        cases e
      · rintro ⟨e, -⟩; omega
    · rw [if_neg h1, if_neg h2, if_neg (fun z => z.elim h1 h2), List.cons_append, List.cons_append, tokr_iff]
      rfl
def eqK (B B' : List Nat) (F G : Nat → Mng) (p q : Nat) : Prop := b2 B p = b2 B' q ∧ eqM B B' F G (b2 B p) (p + 2) (q + 2)
theorem k_iff (hB : ∀ x ∈ B, x < 256) (hB' : ∀ x ∈ B', x < 256) {p q : Nat} {R R' : List (Nat ⊕ Nat)} (hp : p + 2 ≤ B.length) (hq : q + 2 ≤ B'.length) (h1 : MemG B (b2 B p) (p + 2)) (h2 : MemG B' (b2 B' q) (q + 2)) : tokM F (tB2 B p ++ (sMem B (b2 B p) (p + 2) ++ R)) = tokM G (tB2 B' q ++ (sMem B' (b2 B' q) (q + 2) ++ R')) ↔ eqK B B' F G p q ∧ tokM F R = tokM G R' := by
  rw [tB2_iff hB hB' hp hq]
  unfold eqK
  constructor
  · rintro ⟨e1, e2⟩
    rw [← e1] at e2 h2
    rw [mem_iff hB hB' _ _ _ _ _ h1 h2] at e2
    exact ⟨⟨e1, e2.1⟩, e2.2⟩
  · rintro ⟨⟨e1, e2⟩, e3⟩
    refine ⟨e1, ?_⟩
    rw [← e1] at h2 ⊢
    rw [mem_iff hB hB' _ _ _ _ _ h1 h2]
    exact ⟨e2, e3⟩
/-- two files alike, by their parts -/
theorem alk_iff {x y : Fs} (hB : ∀ x ∈ B, x < 256) (hB' : ∀ x ∈ B', x < 256) (hx : GF B x) (hy : GF B' y) : tokM F (sTok B x.2.2.1) = tokM G (sTok B' y.2.2.1) ↔ b2 B x.2.2.1 = b2 B' y.2.2.1 ∧ F (b2 B (x.2.2.1 + 2)) = G (b2 B' (y.2.2.1 + 2)) ∧ SPq F G (b2 B (x.2.2.1 + 4)) (b2 B' (y.2.2.1 + 4)) ∧ b2 B (x.2.2.1 + 6) = b2 B' (y.2.2.1 + 6) ∧ eqF B B' F G (b2 B (x.2.2.1 + 6)) (x.2.2.1 + 8) (y.2.2.1 + 8) ∧ eqK B B' F G (fP B x.2.2.1) (fP B' y.2.2.1) ∧ eqK B B' F G (mP B x.2.2.1) (mP B' y.2.2.1) ∧ eqQ B B' F G (aP B x.2.2.1) (aP B' y.2.2.1) := by
  obtain ⟨h1, h2, h3, h4, h5, h6, h7, h8, h9, h10, h11, h12, h13, h14, h15, -⟩ := hx
  obtain ⟨k1, k2, k3, k4, k5, k6, k7, k8, k9, k10, k11, k12, k13, k14, k15, -⟩ := hy
  unfold sTok
  rw [tB2_iff hB hB' (by omega) (by omega), tokr_iff, up_iff hB hB' (by omega) (by omega), tB2_iff hB hB' (by omega) (by omega)]
  have tail : tokM F (tB2 B (fP B x.2.2.1) ++ (sMem B (b2 B (fP B x.2.2.1)) (fP B x.2.2.1 + 2) ++ (tB2 B (mP B x.2.2.1) ++ (sMem B (b2 B (mP B x.2.2.1)) (mP B x.2.2.1 + 2) ++ (tB2 B (aP B x.2.2.1) ++ sAtt B (b2 B (aP B x.2.2.1)) (aP B x.2.2.1 + 2)))))) = tokM G (tB2 B' (fP B' y.2.2.1) ++ (sMem B' (b2 B' (fP B' y.2.2.1)) (fP B' y.2.2.1 + 2) ++ (tB2 B' (mP B' y.2.2.1) ++ (sMem B' (b2 B' (mP B' y.2.2.1)) (mP B' y.2.2.1 + 2) ++ (tB2 B' (aP B' y.2.2.1) ++ sAtt B' (b2 B' (aP B' y.2.2.1)) (aP B' y.2.2.1 + 2)))))) ↔ eqK B B' F G (fP B x.2.2.1) (fP B' y.2.2.1) ∧ eqK B B' F G (mP B x.2.2.1) (mP B' y.2.2.1) ∧ eqQ B B' F G (aP B x.2.2.1) (aP B' y.2.2.1) := by
    have qi := q_iff (F := F) (G := G) hB hB' (R := []) (R' := []) h12 k12 h14 k14
    rw [List.append_nil, List.append_nil] at qi
    rw [k_iff hB hB' h6 k6 h8 k8, k_iff hB hB' h9 k9 h11 k11, qi]
    simp [tokM]
  constructor
  · rintro ⟨e1, e2, e3, e4, e5⟩
    rw [← e4, fac_iff, tail] at e5
    exact ⟨e1, e2, e3, e4, e5⟩
  · rintro ⟨e1, e2, e3, e4, e5⟩
    refine ⟨e1, e2, e3, e4, ?_⟩
    rw [← e4, fac_iff, tail]
    exact e5
end ALK
