/-! Writer: a file in order -/
def eOs (B : List Nat) (S : Nat → Nat) (n : Nat) (mv : Nat → Nat) : List Nat → List Nat
  | [] => []
  | i :: I => eO B S n mv i ++ eOs B S n mv I
def sBof (B : List Nat) (S : Nat → Nat) (n : Nat) : List Nat → Nat
  | [] => 0
  | i :: I => bof B S n i + sBof B S n I
/-- an entry that can be written -/
def wOk (B : List Nat) (S : Nat → Nat) (n : Nat) (mv : Nat → Nat) (g : Nat → Int32) (i : Nat) : Prop := i < n ∧ tg B S n i ≤ 12 ∧ st S n i + bof B S n i ≤ B.length ∧ (7 ≤ tg B S n i → fst1 B S n i < 61 ∧ g (fst1 B S n i) = nI (mv (fst1 B S n i))) ∧ (9 ≤ tg B S n i → snd1 B S n i < 61 ∧ g (snd1 B S n i) = nI (mv (snd1 B S n i)))
theorem eOs_len {B : List Nat} {S : Nat → Nat} {n : Nat} {mv : Nat → Nat} {g : Nat → Int32} : ∀ I : List Nat, (∀ i ∈ I, wOk B S n mv g i) → (eOs B S n mv I).length = sBof B S n I
  | [], _ => rfl
  | i :: I, h => by
    rw [eOs, sBof, List.length_append, eOs_len I (fun j hj => h j (List.mem_cons_of_mem _ hj)), eO_len (h i List.mem_cons_self).2.2.1]
section WRITER4
variable {nb sa : Nat} {w r k pc : Nat} {Q : Nat → Fp} {L : List (Nat × Nat)} {c n bh aa : Nat} {B M0 M1 : List Nat} {S : Nat → Nat} {TL : List (Nat × Nat)} {f g : Nat → Int32} {mv : Nat → Nat}
theorem drop_snd {t : Nat} (ht : t < L.length) : (L.map (·.2)).drop t = (L.getD t (0, 0)).2 :: (L.map (·.2)).drop (t + 1) := by
  rw [List.drop_eq_getElem_cons (by simpa using ht)]
  congr 1
  simp [List.getD_eq_getElem?_getD, ht]
theorem WR_push_loop {x3 : Nat} (hmv : ∀ j, mv j < 65536) (hd : c + 11 ≤ r ∨ r + 2 ≤ c) (hdw : w + 3 ≤ r ∨ r + 2 ≤ w) (hdk : k + 28 ≤ r ∨ r + 2 ≤ k) (hbl : bh ≤ B.length) (hI : Inc B bh (tB TL bh)) (hg : ∀ q ∈ tB TL bh, b2 B q < 61 ∧ g (b2 B q) = nI (mv (b2 B q))) : ∀ (d t : Nat) (h : Hp) (R : List Nat), t + d = L.length → RK h k Q pc L → WR h w f g → CF h c B S n bh aa M0 M1 TL → RW h r R → (∀ i ∈ (L.map (·.2)).drop t, wOk B S n mv g i) → R.length + sBof B S n ((L.map (·.2)).drop t) + (B.length - bh) ≤ 400 → Ex (prog nb sa) k_WR_push 22 [some (.ref w), some (.ref c), some (.ref k), some (.int (nI x3)), some (.ref r), some (.int (nI t))] [] h (fun v h' => v = some (.int (nI (R.length + sBof B S n ((L.map (·.2)).drop t) + (B.length - bh)))) ∧ RW h' r (R ++ (eOs B S n mv ((L.map (·.2)).drop t) ++ pR B mv bh (tB TL bh) (sl B bh (B.length - bh)))) ∧ FrI r (r + 2) h h')
  | 0, t, h, R, hd', hK, hW, hC, hR, hok, hfit => by
    have hk := hK.1
    obtain ⟨w1, w2, w3⟩ := id hW
    have hl : L.length ≤ 150 := hK.2.2.2.2.2.2.1
    rw [List.drop_eq_nil_of_le (by simp; omega)] at hfit ⊢
    rw [sBof, Nat.add_zero] at hfit ⊢
    obtain ⟨_, h1, e1, rfl, R1, F1⟩ := c_WR_pushRest (nb := nb) (sa := sa) hmv hd hdw hW hC hR hbl hfit hI hg
    have w1' := (hW.fr F1 (by omega)).1
    have hr1 : h1.2.2 r = _ := R1.choose_spec.1
    have hlen : (R ++ pR B mv bh (tB TL bh) (sl B bh (B.length - bh))).length = R.length + (B.length - bh) := by rw [List.length_append, pR_len, sl_len (by omega)]
    refine Ex_mv rfl rfl ?_; refine Ex_mv rfl rfl ?_; refine Ex_invV rfl (by rfl) (by rfl) (by assumption) (by rfl) (c_RK_size hK) ?_; refine Ex_mv rfl rfl ?_; refine Ex_ift (nI_le (by omega) (by omega)) ?_; refine Ex_mv rfl rfl ?_; refine Ex_mv rfl rfl ?_; refine Ex_mv rfl rfl ?_; refine Ex_invV rfl (by rfl) (by rfl) (by assumption) (by rfl) (e1) ?_; refine Ex_mv rfl rfl ?_; refine Ex_invV rfl (by rfl) (by rfl) (by assumption) (by rfl) (c_RW_size R1) ?_
    refine Ex_rt rfl rfl ?_
    exact ⟨by rw [hlen], R1, F1⟩
  | d + 1, t, h, R, hd', hK, hW, hC, hR, hok, hfit => by
    have hk := hK.1
    have hc := hC.1
    obtain ⟨w1, w2, w3⟩ := id hW
    have hl : L.length ≤ 150 := hK.2.2.2.2.2.2.1
    have ht : t < L.length := by omega
    rw [drop_snd ht] at hok hfit ⊢
    rw [sBof] at hfit ⊢
    obtain ⟨o1, o2, o3, o4, o5⟩ := hok _ List.mem_cons_self
    obtain ⟨_, h1, e1, rfl, R1, F1⟩ := c_WR_pushEntry (nb := nb) (sa := sa) (mv := mv) hW hR hC.po (i := (L.getD t (0, 0)).2) o1 o2 o3 (by omega) (by omega) (by omega) hmv o4 o5
    have hlen : (R ++ eO B S n mv (L.getD t (0, 0)).2).length = R.length + bof B S n (L.getD t (0, 0)).2 := by rw [List.length_append, eO_len o3]
    have ih := WR_push_loop (x3 := x3) hmv hd hdw hdk hbl hI hg d (t + 1) h1 _ (by omega) (hK.fr F1 (by omega)) (hW.fr F1 (by omega)) (hC.fr F1 (by omega)) R1 (fun i hi => hok i (List.mem_cons_of_mem _ hi)) (by rw [hlen]; omega)
    rw [hlen] at ih
    refine Ex_mv rfl rfl ?_; refine Ex_mv rfl rfl ?_; refine Ex_invV rfl (by rfl) (by rfl) (by assumption) (by rfl) (c_RK_size hK) ?_; refine Ex_mv rfl rfl ?_; refine Ex_iff (nI_ge (by omega) (by omega)) ?_; refine Ex_mv rfl rfl ?_; refine Ex_mv rfl rfl ?_; refine Ex_getf rfl (by assumption) rfl ?_; refine Ex_mv rfl rfl ?_; refine Ex_mv rfl rfl ?_; refine Ex_invV rfl (by rfl) (by rfl) (by assumption) (by rfl) (c_RK_placeOf hK ht) ?_; refine Ex_mv rfl rfl ?_; refine Ex_invV rfl (by rfl) (by rfl) (by assumption) (by rfl) (e1) ?_; (first | refine Ex_incN rfl rfl ?_ | refine Ex_mv rfl rfl ?_); refine Ex_mv rfl rfl ?_
    refine Ex_mono ih ?_
    rintro v h' ⟨rfl, q1, q2⟩
    refine ⟨by rw [Nat.add_assoc R.length], ?_, F1.tr q2⟩
    rw [eOs]
    simpa only [List.append_assoc] using q1
theorem c_WR_push {h : Hp} {R : List Nat} {pl : Nat} (hpl : pl < 65536) (hmv : ∀ j, mv j < 65536) (hd : c + 11 ≤ r ∨ r + 2 ≤ c) (hdw : w + 3 ≤ r ∨ r + 2 ≤ w) (hdk : k + 28 ≤ r ∨ r + 2 ≤ k) (hbl : bh ≤ B.length) (h8 : 10 ≤ bh) (hI : Inc B bh (tB TL bh)) (hg : ∀ q ∈ tB TL bh, b2 B q < 61 ∧ g (b2 B q) = nI (mv (b2 B q))) (hK : RK h k Q pc L) (hW : WR h w f g) (hC : CF h c B S n bh aa M0 M1 TL) (hR : RW h r R) (hok : ∀ i ∈ L.map (·.2), wOk B S n mv g i) (hfit : 10 + sBof B S n (L.map (·.2)) ≤ bh) : EvQ (prog nb sa) m_WR_push [.ref w, .ref c, .ref k, .int (nI pl), .ref r] h (fun v h' => v = some (.int (nI (10 + sBof B S n (L.map (·.2)) + (B.length - bh)))) ∧ RW h' r (sl B 0 8 ++ ([pl / 256, pl % 256] ++ (eOs B S n mv (L.map (·.2)) ++ pR B mv bh (tB TL bh) (sl B bh (B.length - bh))))) ∧ FrI r (r + 2) h h') := by
  obtain ⟨w1, w2, w3⟩ := id hW
  have hk := hK.1
  have hc := hC.1
  have hl := hC.row.len
  obtain ⟨fr, hr, hra, hB⟩ := id hR
  obtain ⟨_, h1, e1, rfl, R1, F1⟩ := c_RW_take (nb := nb) (sa := sa) hR hC.row (by omega) (k := 0) (n := 8) (by omega)
  have hl8 : (sl B 0 8).length = 8 := sl_len (by omega)
  obtain ⟨_, h2, e2, rfl, R2, F2⟩ := c_RW_pushTwo (nb := nb) (sa := sa) R1 (v := pl) hpl (by omega)
  have F12 := F1.tr F2
  have w1' := (hW.fr F1 (by omega)).1
  have hr1 : h1.2.2 r = _ := R1.choose_spec.1
  have hl10 : (sl B 0 8 ++ [pl / 256, pl % 256]).length = 10 := by rw [List.length_append, hl8]; rfl
  have ih := WR_push_loop (nb := nb) (sa := sa) (x3 := pl) (L := L) hmv hd hdw hdk hbl hI hg L.length 0 h2 _ (by omega) (hK.fr F12 (by omega)) (hW.fr F12 (by omega)) (hC.fr F12 (by omega)) R2 (by rw [List.drop_zero]; exact hok) (by rw [List.drop_zero, hl10]; omega)
  rw [List.drop_zero, hl10] at ih
  refine EvQ_of k_WR_push 6 [some (.ref w), some (.ref c), some (.ref k), some (.int (nI pl)), some (.ref r), none] rfl (Nat.le_of_ble_eq_true rfl) rfl ?_
  refine Ex_mv rfl rfl ?_; refine Ex_mv rfl rfl ?_; refine Ex_getf rfl (by assumption) rfl ?_; refine Ex_mv rfl rfl ?_; refine Ex_mv rfl rfl ?_; refine Ex_invV rfl (by rfl) (by rfl) (by assumption) (by rfl) (e1) ?_; refine Ex_mv rfl rfl ?_; refine Ex_mv rfl rfl ?_; refine Ex_mv rfl rfl ?_; refine Ex_invV rfl (by rfl) (by rfl) (by assumption) (by rfl) (e2) ?_; refine Ex_mv rfl rfl ?_; refine Ex_mv rfl rfl ?_
  refine Ex_mono ih ?_
  rintro v h' ⟨rfl, q1, q2⟩
  refine ⟨rfl, ?_, F12.tr q2⟩
  simpa only [List.append_assoc] using q1
end WRITER4
