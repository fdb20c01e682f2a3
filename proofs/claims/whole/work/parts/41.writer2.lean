/-! Writer: bytes -/
def put2 (E : List Nat) (k v : Nat) : List Nat := (E.set k (v / 256)).set (k + 1) (v % 256)
theorem put2_len (E : List Nat) (k v : Nat) : (put2 E k v).length = E.length := by simp [put2]
theorem put2_app (R E : List Nat) (k v : Nat) : ((R ++ E).set (R.length + k) (v / 256)).set (R.length + k + 1) (v % 256) = R ++ put2 E k v := by
  unfold put2
  rw [List.set_append_right _ _ (by omega), List.set_append_right _ _ (by omega), Nat.add_sub_cancel_left, Nat.add_assoc, Nat.add_sub_cancel_left]
/-- an entry's bytes, its places moved -/
def eO (B : List Nat) (S : Nat → Nat) (n : Nat) (mv : Nat → Nat) (i : Nat) : List Nat :=
  if 9 ≤ tg B S n i then put2 (put2 (sl B (st S n i) (bof B S n i)) 1 (mv (fst1 B S n i))) 3 (mv (snd1 B S n i))
  else if 7 ≤ tg B S n i then put2 (sl B (st S n i) (bof B S n i)) 1 (mv (fst1 B S n i)) else sl B (st S n i) (bof B S n i)
theorem eO_len {B : List Nat} {S : Nat → Nat} {n : Nat} {mv : Nat → Nat} {i : Nat} (h : st S n i + bof B S n i ≤ B.length) : (eO B S n mv i).length = bof B S n i := by
  unfold eO
  split
  · rw [put2_len, put2_len, sl_len h]
  · split
    · rw [put2_len, sl_len h]
    · exact sl_len h
/-- the bytes behind the pool, places moved one by one -/
def pR (B : List Nat) (mv : Nat → Nat) (bh : Nat) : List Nat → List Nat → List Nat
  | [], E => E
  | t :: T, E => pR B mv bh T (put2 E (t - bh) (mv (b2 B t)))
theorem pR_len {B : List Nat} {mv : Nat → Nat} {bh : Nat} : ∀ (T E : List Nat), (pR B mv bh T E).length = E.length
  | [], E => rfl
  | t :: T, E => by rw [pR, pR_len T, put2_len]
theorem sft {at' bh rs : Nat} (h : bh ≤ at') : nI at' + (nI rs - nI bh) = nI (rs + (at' - bh)) := by
  have e : nI at' = nI (at' - bh) + nI bh := by rw [nI_add, Nat.sub_add_cancel h]
  rw [e, nI_add]
  rw [← nI_add (a := rs), Int32.add_comm (nI rs)]
  rw [← nI_add (a := at' - bh) (b := bh), Int32.add_assoc, Int32.add_comm (nI bh), Int32.sub_add_cancel]
section WRITER2
variable {nb sa : Nat} {h : Hp} {w r p n : Nat} {B R : List Nat} {S : Nat → Nat} {f g : Nat → Int32} {mv : Nat → Nat}
theorem bof_b (B : List Nat) (S : Nat → Nat) (n i : Nat) : 3 ≤ bof B S n i ∧ (9 ≤ tg B S n i → tg B S n i ≤ 12 → bof B S n i = 5) := by
  unfold bof
  split
  · omega
  · split
    · omega
    · split
      · omega
      · omega
theorem c_WR_pushEntry (hW : WR h w f g) (hR : RW h r R) (hP : PO h p B S n) {i : Nat} (hi : i < n) (ht : tg B S n i ≤ 12) (hb : st S n i + bof B S n i ≤ B.length) (hfit : R.length + bof B S n i ≤ 400) (hd : p + 4 ≤ r ∨ r + 2 ≤ p) (hdw : w + 3 ≤ r ∨ r + 2 ≤ w) (hmv : ∀ j, mv j < 65536) (h1 : 7 ≤ tg B S n i → fst1 B S n i < 61 ∧ g (fst1 B S n i) = nI (mv (fst1 B S n i))) (h2 : 9 ≤ tg B S n i → snd1 B S n i < 61 ∧ g (snd1 B S n i) = nI (mv (snd1 B S n i))) : EvQ (prog nb sa) m_WR_pushEntry [.ref w, .ref p, .int (nI i), .ref r] h (fun v h' => v = none ∧ RW h' r (R ++ eO B S n mv i) ∧ FrI r (r + 2) h h') := by
  obtain ⟨w1, w2, w3⟩ := id hW
  have hp := hP.1
  have hn : n ≤ 61 := hP.2.2.2.1
  have hbb := bof_b B S n i
  obtain ⟨fr, hr, hra, hB⟩ := id hR
  obtain ⟨fr', hr', hra', hB'⟩ := id hP.row
  have hs := st_le (n := n) hP.2.2.2.2 i
  obtain ⟨_, ha, e1, rfl, Ra, Fa⟩ := c_RW_append (nb := nb) (sa := sa) hR hP.row (by omega) hb hfit
  have hla : (R ++ sl B (st S n i) (bof B S n i)).length = R.length + bof B S n i := by rw [List.length_append, sl_len hb]
  have wa : ∀ {h' : Hp}, FrI r (r + 2) ha h' → WR h' w f g := fun F => (hW.fr Fa (by omega)).fr F (by omega)
  have pa : ∀ {h' : Hp}, FrI r (r + 2) ha h' → PO h' p B S n := fun F => (hP.fr Fa (by omega)).fr F (by omega)
  have W1 := wa FrI.rf
  have P1 := pa FrI.rf
  have w1' := W1.1
  have p1' := P1.1
  have hrA : ha.2.2 r = _ := Ra.choose_spec.1
  refine EvQ_of k_WR_pushEntry 6 [some (.ref w), some (.ref p), some (.int (nI i)), some (.ref r), none, none] rfl (Nat.le_of_ble_eq_true rfl) rfl ?_
  by_cases t7 : 7 ≤ tg B S n i
  · obtain ⟨a1, a2⟩ := h1 t7
    obtain ⟨_, hb', e2, rfl, Rb, Fb⟩ := c_RW_putTwo (nb := nb) (sa := sa) Ra (k := R.length + 1) (v := mv (fst1 B S n i)) (hmv _) (by omega)
    rw [put2_app] at Rb
    have W2 := wa Fb
    have P2 := pa Fb
    have w2' := W2.1
    have p2' := P2.1
    have hrB : hb'.2.2 r = _ := Rb.choose_spec.1
    by_cases t9 : 9 ≤ tg B S n i
    · obtain ⟨b1, b2⟩ := h2 t9
      have h5 := hbb.2 t9 ht
      have hlb : (R ++ put2 (sl B (st S n i) (bof B S n i)) 1 (mv (fst1 B S n i))).length = R.length + bof B S n i := by rw [List.length_append, put2_len, sl_len hb]
      obtain ⟨_, hc, e3, rfl, Rc, Fc⟩ := c_RW_putTwo (nb := nb) (sa := sa) Rb (k := R.length + 3) (v := mv (snd1 B S n i)) (hmv _) (by omega)
      rw [put2_app] at Rc
      have eo : eO B S n mv i = put2 (put2 (sl B (st S n i) (bof B S n i)) 1 (mv (fst1 B S n i))) 3 (mv (snd1 B S n i)) := if_pos t9
      rw [eo]
      refine Ex_mv rfl rfl ?_; refine Ex_invV rfl (by rfl) (by rfl) (by assumption) (by rfl) (c_RW_size hR) ?_; refine Ex_mv rfl rfl ?_; refine Ex_mv rfl rfl ?_; refine Ex_mv rfl rfl ?_; refine Ex_getf rfl (by assumption) rfl ?_; refine Ex_mv rfl rfl ?_; refine Ex_mv rfl rfl ?_; refine Ex_invV rfl (by rfl) (by rfl) (by assumption) (by rfl) (c_PL_start hP (by omega)) ?_; refine Ex_mv rfl rfl ?_; refine Ex_mv rfl rfl ?_; refine Ex_invV rfl (by rfl) (by rfl) (by assumption) (by rfl) (c_PL_bytesOf hP (by omega)) ?_; refine Ex_invV rfl (by rfl) (by rfl) (by assumption) (by rfl) (e1) ?_; refine Ex_mv rfl rfl ?_; refine Ex_mv rfl rfl ?_; refine Ex_invV rfl (by rfl) (by rfl) (by assumption) (by rfl) (c_PL_tag P1 (by omega)) ?_; refine Ex_mv rfl rfl ?_; refine Ex_mv rfl rfl ?_; refine Ex_mv rfl rfl ?_; refine Ex_mv rfl rfl ?_; refine Ex_iff (nI_nlt (by omega) (by omega)) ?_; refine Ex_mv rfl rfl ?_; refine Ex_mv rfl rfl ?_; refine Ex_mv rfl rfl ?_; (first | refine Ex_addN rfl ?_ | refine Ex_mv rfl rfl ?_); refine Ex_mv rfl rfl ?_; refine Ex_mv rfl rfl ?_; refine Ex_mv rfl rfl ?_; refine Ex_invV rfl (by rfl) (by rfl) (by assumption) (by rfl) (c_PL_first P1 (by omega)) ?_; refine Ex_invV rfl (by rfl) (by rfl) (by assumption) (by rfl) (c_WR_movedTo W1 a1 a2) ?_; refine Ex_invV rfl (by rfl) (by rfl) (by assumption) (by rfl) (e2) ?_; refine Ex_mv rfl rfl ?_; refine Ex_mv rfl rfl ?_; refine Ex_mv rfl rfl ?_; refine Ex_iff (nI_nlt (by omega) (by omega)) ?_; refine Ex_mv rfl rfl ?_; refine Ex_mv rfl rfl ?_; refine Ex_mv rfl rfl ?_; (first | refine Ex_addN rfl ?_ | refine Ex_mv rfl rfl ?_); refine Ex_mv rfl rfl ?_; refine Ex_mv rfl rfl ?_; refine Ex_mv rfl rfl ?_; refine Ex_invV rfl (by rfl) (by rfl) (by assumption) (by rfl) (c_PL_second P2 (by omega)) ?_; refine Ex_invV rfl (by rfl) (by rfl) (by assumption) (by rfl) (c_WR_movedTo W2 b1 b2) ?_; refine Ex_invV rfl (by rfl) (by rfl) (by assumption) (by rfl) (e3) ?_
      refine Ex_rt rfl rfl ?_
      exact ⟨rfl, Rc, (Fa.tr Fb).tr Fc⟩
    · have eo : eO B S n mv i = put2 (sl B (st S n i) (bof B S n i)) 1 (mv (fst1 B S n i)) := (if_neg t9).trans (if_pos t7)
      rw [eo]
      refine Ex_mv rfl rfl ?_; refine Ex_invV rfl (by rfl) (by rfl) (by assumption) (by rfl) (c_RW_size hR) ?_; refine Ex_mv rfl rfl ?_; refine Ex_mv rfl rfl ?_; refine Ex_mv rfl rfl ?_; refine Ex_getf rfl (by assumption) rfl ?_; refine Ex_mv rfl rfl ?_; refine Ex_mv rfl rfl ?_; refine Ex_invV rfl (by rfl) (by rfl) (by assumption) (by rfl) (c_PL_start hP (by omega)) ?_; refine Ex_mv rfl rfl ?_; refine Ex_mv rfl rfl ?_; refine Ex_invV rfl (by rfl) (by rfl) (by assumption) (by rfl) (c_PL_bytesOf hP (by omega)) ?_; refine Ex_invV rfl (by rfl) (by rfl) (by assumption) (by rfl) (e1) ?_; refine Ex_mv rfl rfl ?_; refine Ex_mv rfl rfl ?_; refine Ex_invV rfl (by rfl) (by rfl) (by assumption) (by rfl) (c_PL_tag P1 (by omega)) ?_; refine Ex_mv rfl rfl ?_; refine Ex_mv rfl rfl ?_; refine Ex_mv rfl rfl ?_; refine Ex_mv rfl rfl ?_; refine Ex_iff (nI_nlt (by omega) (by omega)) ?_; refine Ex_mv rfl rfl ?_; refine Ex_mv rfl rfl ?_; refine Ex_mv rfl rfl ?_; (first | refine Ex_addN rfl ?_ | refine Ex_mv rfl rfl ?_); refine Ex_mv rfl rfl ?_; refine Ex_mv rfl rfl ?_; refine Ex_mv rfl rfl ?_; refine Ex_invV rfl (by rfl) (by rfl) (by assumption) (by rfl) (c_PL_first P1 (by omega)) ?_; refine Ex_invV rfl (by rfl) (by rfl) (by assumption) (by rfl) (c_WR_movedTo W1 a1 a2) ?_; refine Ex_invV rfl (by rfl) (by rfl) (by assumption) (by rfl) (e2) ?_; refine Ex_mv rfl rfl ?_; refine Ex_mv rfl rfl ?_; refine Ex_mv rfl rfl ?_; refine Ex_ift (nI_lt (by omega) (by omega)) ?_
      refine Ex_rt rfl rfl ?_
      exact ⟨rfl, Rb, Fa.tr Fb⟩
  · have eo : eO B S n mv i = sl B (st S n i) (bof B S n i) := (if_neg (by omega)).trans (if_neg t7)
    rw [eo]
    refine Ex_mv rfl rfl ?_; refine Ex_invV rfl (by rfl) (by rfl) (by assumption) (by rfl) (c_RW_size hR) ?_; refine Ex_mv rfl rfl ?_; refine Ex_mv rfl rfl ?_; refine Ex_mv rfl rfl ?_; refine Ex_getf rfl (by assumption) rfl ?_; refine Ex_mv rfl rfl ?_; refine Ex_mv rfl rfl ?_; refine Ex_invV rfl (by rfl) (by rfl) (by assumption) (by rfl) (c_PL_start hP (by omega)) ?_; refine Ex_mv rfl rfl ?_; refine Ex_mv rfl rfl ?_; refine Ex_invV rfl (by rfl) (by rfl) (by assumption) (by rfl) (c_PL_bytesOf hP (by omega)) ?_; refine Ex_invV rfl (by rfl) (by rfl) (by assumption) (by rfl) (e1) ?_; refine Ex_mv rfl rfl ?_; refine Ex_mv rfl rfl ?_; refine Ex_invV rfl (by rfl) (by rfl) (by assumption) (by rfl) (c_PL_tag P1 (by omega)) ?_; refine Ex_mv rfl rfl ?_; refine Ex_mv rfl rfl ?_; refine Ex_mv rfl rfl ?_; refine Ex_mv rfl rfl ?_; refine Ex_ift (nI_lt (by omega) (by omega)) ?_; refine Ex_mv rfl rfl ?_; refine Ex_mv rfl rfl ?_; refine Ex_mv rfl rfl ?_; refine Ex_ift (nI_lt (by omega) (by omega)) ?_
    refine Ex_rt rfl rfl ?_
    exact ⟨rfl, Ra, Fa⟩
end WRITER2
section WRITER3
variable {nb sa : Nat} {w r : Nat} {c n bh aa : Nat} {B M0 M1 : List Nat} {S : Nat → Nat} {TL : List (Nat × Nat)} {f g : Nat → Int32} {mv : Nat → Nat}
theorem WR_pushRest_loop {R0 : List Nat} {x2 : Int32} (hx2 : x2 = nI R0.length - nI bh) (hmv : ∀ j, mv j < 65536) (hd : c + 11 ≤ r ∨ r + 2 ≤ c) (hdw : w + 3 ≤ r ∨ r + 2 ≤ w) : ∀ (d t a : Nat) (x4 : Option Value) (h : Hp) (E : List Nat), t + d = TL.length → WR h w f g → CF h c B S n bh aa M0 M1 TL → RW h r (R0 ++ E) → E.length = B.length - bh → bh ≤ a → Inc B a ((TL.map (·.1)).drop t) → (∀ q ∈ (TL.map (·.1)).drop t, b2 B q < 61 ∧ g (b2 B q) = nI (mv (b2 B q))) → Ex (prog nb sa) k_WR_pushRest 40 [some (.ref w), some (.ref c), some (.ref r), some (.int x2), some (.int (nI t)), x4] [] h (fun v h' => v = none ∧ RW h' r (R0 ++ pR B mv bh ((TL.map (·.1)).drop t) E) ∧ FrI r (r + 2) h h')
  | 0, t, a, x4, h, E, hd', hW, hC, hR, hE, hba, hI, hg => by
    have hc := hC.1
    have hTl : TL.length ≤ 200 := hC.2.2.2.2.2.2.2.2.2.2.1
    rw [List.drop_eq_nil_of_le (by simp; omega)]
    refine Ex_mv rfl rfl ?_; refine Ex_mv rfl rfl ?_; refine Ex_invV rfl (by rfl) (by rfl) (by assumption) (by rfl) (c_CF_tellCount hC) ?_; refine Ex_mv rfl rfl ?_; refine Ex_ift (nI_le (by omega) (by omega)) ?_
    refine Ex_rt rfl rfl ?_
    exact ⟨rfl, hR, FrI.rf⟩
  | d + 1, t, a, x4, h, E, hd', hW, hC, hR, hE, hba, hI, hg => by
    have hc := hC.1
    obtain ⟨w1, w2, w3⟩ := id hW
    have hTl : TL.length ≤ 200 := hC.2.2.2.2.2.2.2.2.2.2.1
    obtain ⟨fr, hr, hra, hB⟩ := id hR
    obtain ⟨fr', hr', hra', hB'⟩ := id hC.row
    have hl := hC.row.len
    rw [tA_cons (TL := TL) (k := t) (by omega)] at hI hg ⊢
    obtain ⟨i1, i2, i3⟩ := hI
    obtain ⟨g1, g2⟩ := hg _ List.mem_cons_self
    have hlen : (R0 ++ E).length = R0.length + (B.length - bh) := by rw [List.length_append, hE]
    obtain ⟨_, h1, e1, rfl, R1, F1⟩ := c_RW_putTwo (nb := nb) (sa := sa) hR (k := R0.length + (tA TL t - bh)) (v := mv (b2 B (tA TL t))) (hmv _) (by omega)
    rw [put2_app] at R1
    have ih := WR_pushRest_loop hx2 hmv hd hdw d (t + 1) (tA TL t + 2) (some (.int (nI (tA TL t)))) h1 _ (by omega) (hW.fr F1 (by omega)) (hC.fr F1 (by omega)) R1 (by rw [put2_len]; exact hE) (by omega) i3 (fun q hq => hg q (List.mem_cons_of_mem _ hq))
    have esf : nI (tA TL t) + x2 = nI (R0.length + (tA TL t - bh)) := by rw [hx2]; exact sft (by omega)
    rw [pR]
    refine Ex_mv rfl rfl ?_; refine Ex_mv rfl rfl ?_; refine Ex_invV rfl (by rfl) (by rfl) (by assumption) (by rfl) (c_CF_tellCount hC) ?_; refine Ex_mv rfl rfl ?_; refine Ex_iff (nI_ge (by omega) (by omega)) ?_; refine Ex_mv rfl rfl ?_; refine Ex_mv rfl rfl ?_; refine Ex_invV rfl (by rfl) (by rfl) (by assumption) (by rfl) (c_CF_tellAt hC (by omega)) ?_; refine Ex_mv rfl rfl ?_; refine Ex_mv rfl rfl ?_; refine Ex_mv rfl rfl ?_; refine Ex_mv rfl rfl ?_; (first | refine Ex_addN rfl ?_ | refine Ex_mv rfl rfl ?_)
    simp only [esf]
    refine Ex_mv rfl rfl ?_; refine Ex_mv rfl rfl ?_; refine Ex_getf rfl (by assumption) rfl ?_; refine Ex_mv rfl rfl ?_; refine Ex_invV rfl (by rfl) (by rfl) (by assumption) (by rfl) (c_RW_two hC.row (by omega)) ?_; refine Ex_invV rfl (by rfl) (by rfl) (by assumption) (by rfl) (c_WR_movedTo hW g1 g2) ?_; refine Ex_invV rfl (by rfl) (by rfl) (by assumption) (by rfl) (e1) ?_; (first | refine Ex_incN rfl rfl ?_ | refine Ex_mv rfl rfl ?_); refine Ex_mv rfl rfl ?_
    refine Ex_mono ih ?_
    rintro v h' ⟨rfl, q1, q2⟩
    exact ⟨rfl, q1, F1.tr q2⟩
theorem c_WR_pushRest {h : Hp} {R : List Nat} (hmv : ∀ j, mv j < 65536) (hd : c + 11 ≤ r ∨ r + 2 ≤ c) (hdw : w + 3 ≤ r ∨ r + 2 ≤ w) (hW : WR h w f g) (hC : CF h c B S n bh aa M0 M1 TL) (hR : RW h r R) (hbl : bh ≤ B.length) (hfit : R.length + (B.length - bh) ≤ 400) (hI : Inc B bh (tB TL bh)) (hg : ∀ q ∈ tB TL bh, b2 B q < 61 ∧ g (b2 B q) = nI (mv (b2 B q))) : EvQ (prog nb sa) m_WR_pushRest [.ref w, .ref c, .ref r] h (fun v h' => v = none ∧ RW h' r (R ++ pR B mv bh (tB TL bh) (sl B bh (B.length - bh))) ∧ FrI r (r + 2) h h') := by
  obtain ⟨w1, w2, w3⟩ := id hW
  have hc := hC.1
  have hl := hC.row.len
  obtain ⟨fr, hr, hra, hB⟩ := id hR
  obtain ⟨fr', hr', hra', hB'⟩ := id hC.row
  obtain ⟨_, h1, e1, rfl, R1, F1⟩ := c_RW_append (nb := nb) (sa := sa) hR hC.row (by omega) (k := bh) (n := B.length - bh) (by omega) hfit
  have C1 := hC.fr F1 (by omega)
  have hc1 := C1.1
  have f1 := (fbh_le TL bh TL.length 0).2
  have key : Ex (prog nb sa) k_WR_pushRest 10 [some (.ref w), some (.ref c), some (.ref r), some (.int (nI R.length - nI bh)), none, none] [] h (fun v h' => v = none ∧ RW h' r (R ++ pR B mv bh (tB TL bh) (sl B bh (B.length - bh))) ∧ FrI r (r + 2) h h') := by
    refine Ex_mv rfl rfl ?_; refine Ex_mv rfl rfl ?_; refine Ex_getf rfl (by assumption) rfl ?_; refine Ex_mv rfl rfl ?_; refine Ex_getf rfl (by assumption) rfl ?_; refine Ex_mv rfl rfl ?_; refine Ex_getf rfl (by assumption) rfl ?_; refine Ex_invV rfl (by rfl) (by rfl) (by assumption) (by rfl) (c_RW_size hC.row) ?_; refine Ex_mv rfl rfl ?_; refine Ex_getf rfl (by assumption) rfl ?_; (first | refine Ex_subN rfl (by omega) ?_ | refine Ex_mv rfl rfl ?_); refine Ex_invV rfl (by rfl) (by rfl) (by assumption) (by rfl) (e1) ?_; refine Ex_mv rfl rfl ?_; refine Ex_invV rfl (by rfl) (by rfl) (by assumption) (by rfl) (c_CF_firstBehind C1) ?_; refine Ex_mv rfl rfl ?_
    refine Ex_mono (WR_pushRest_loop (TL := TL) (R0 := R) rfl hmv hd hdw (TL.length - fbh TL bh TL.length 0) _ bh _ h1 (sl B bh (B.length - bh)) (by omega) (hW.fr F1 (by omega)) C1 R1 (sl_len (by omega)) (Nat.le_refl _) hI hg) ?_
    rintro v h' ⟨rfl, q1, q2⟩
    exact ⟨rfl, q1, F1.tr q2⟩
  refine EvQ_of k_WR_pushRest 6 [some (.ref w), some (.ref c), some (.ref r), none, none, none] rfl (Nat.le_of_ble_eq_true rfl) rfl ?_
  refine Ex_mv rfl rfl ?_; refine Ex_invV rfl (by rfl) (by rfl) (by assumption) (by rfl) (c_RW_size hR) ?_; refine Ex_mv rfl rfl ?_; refine Ex_getf rfl (by assumption) rfl ?_; refine Ex_mv rfl rfl ?_; refine Ex_mv rfl rfl ?_
  exact key
end WRITER3
