/-! ClassFile: alike in meaning -/
theorem nI_inj32 {a b : Nat} (ha : a < 2 ^ 32) (hb : b < 2 ^ 32) (e : nI a = nI b) : a = b := by
  have h1 := congrArg (fun x : Int32 => x.toBitVec.toNat) e
  have h2 : (nI a).toBitVec.toNat = a := by
    show (BitVec.ofNat 32 a).toNat = a
    rw [BitVec.toNat_ofNat]; omega
  have h3 : (nI b).toBitVec.toNat = b := by
    show (BitVec.ofNat 32 b).toNat = b
    rw [BitVec.toNat_ofNat]; omega
  have h4 : (nI a).toBitVec.toNat = (nI b).toBitVec.toNat := h1
  omega
/-- places that follow each other in the bytes, two bytes each -/
def Inc (B : List Nat) : Nat → List Nat → Prop
  | a, [] => a ≤ B.length
  | a, t :: T => a ≤ t ∧ t + 2 ≤ B.length ∧ Inc B (t + 2) T
def mea (B B' : List Nat) (F G : Nat → Mng) : List Nat → List Nat → Nat → Nat → Bool
  | [], [], a, b => decide (cmpL (sl B a (B.length - a)) (sl B' b (B'.length - b)) = nI 0)
  | t :: T, u :: U, a, b => decide (cmpL (sl B a (t - a)) (sl B' b (u - b)) = nI 0) && (decide (cmpM (F (b2 B t)) (G (b2 B' u)) = nI 0) && mea B B' F G T U (t + 2) (u + 2))
  | [], _ :: _, _, _ => false
  | _ :: _, [], _, _ => false
section MEANS
variable {nb sa : Nat} {h : Hp} {c n bh aa : Nat} {B M0 M1 : List Nat} {S : Nat → Nat} {TL : List (Nat × Nat)} {c' n' bh' aa' : Nat} {B' M0' M1' : List Nat} {S' : Nat → Nat} {TL' : List (Nat × Nat)}
theorem tA_cons {TL : List (Nat × Nat)} {k : Nat} (hk : k < TL.length) : (TL.map (·.1)).drop k = tA TL k :: (TL.map (·.1)).drop (k + 1) := by
  rw [List.drop_eq_getElem_cons (by simpa using hk)]
  unfold tA
  rw [List.getD_eq_getElem?_getD, List.getElem?_eq_getElem (by simpa using hk)]
  rfl
theorem CF_meansAs_loop (hC : CF h c B S n bh aa M0 M1 TL) (hD : CF h c' B' S' n' bh' aa' M0' M1' TL') (hV : TV B S n) (hV' : TV B' S' n') {t u m : Nat} (ht : t + m = TL.length) (hu : u + m = TL'.length) : ∀ (d i a b : Nat) (x8 x9 : Option Value), i + d = m → Inc B a ((TL.map (·.1)).drop (t + i)) → Inc B' b ((TL'.map (·.1)).drop (u + i)) → Ex (prog nb sa) k_CF_meansAs 65 [some (.ref c), some (.ref c'), some (.int (nI t)), some (.int (nI u)), some (.int (nI m)), some (.int (nI a)), some (.int (nI b)), some (.int (nI i)), x8, x9] [] h (fun v h' => v = some (.int (nI (if mea B B' (mng B S n) (mng B' S' n') ((TL.map (·.1)).drop (t + i)) ((TL'.map (·.1)).drop (u + i)) a b then 1 else 0))) ∧ h' = h)
  | 0, i, a, b, x8, x9, hd, hI, hJ => by
    have hc := hC.1
    have hc' := hD.1
    obtain ⟨f, hr, hra, hB⟩ := id hC.row
    obtain ⟨f', hr', hra', hB'⟩ := id hD.row
    have hl := hC.row.len
    have hl' := hD.row.len
    have hTl : TL.length ≤ 200 := hC.2.2.2.2.2.2.2.2.2.2.1
    rw [List.drop_eq_nil_of_le (by simp; omega)] at hI ⊢
    rw [List.drop_eq_nil_of_le (by simp; omega)] at hJ ⊢
    have hI' : a ≤ B.length := hI
    have hJ' : b ≤ B'.length := hJ
    by_cases e : cmpL (sl B a (B.length - a)) (sl B' b (B'.length - b)) = nI 0
    · refine Ex_mv rfl rfl ?_; refine Ex_mv rfl rfl ?_; refine Ex_mv rfl rfl ?_; refine Ex_ift (nI_le (by omega) (by omega)) ?_; refine Ex_mv rfl rfl ?_; refine Ex_getf rfl (by assumption) rfl ?_; refine Ex_mv rfl rfl ?_; refine Ex_mv rfl rfl ?_; refine Ex_getf rfl (by assumption) rfl ?_; refine Ex_invV rfl (by rfl) (by rfl) (by assumption) (by rfl) (c_RW_size hC.row) ?_; refine Ex_mv rfl rfl ?_; (first | refine Ex_subN rfl (by omega) ?_ | refine Ex_mv rfl rfl ?_); refine Ex_mv rfl rfl ?_; refine Ex_getf rfl (by assumption) rfl ?_; refine Ex_mv rfl rfl ?_; refine Ex_mv rfl rfl ?_; refine Ex_getf rfl (by assumption) rfl ?_; refine Ex_invV rfl (by rfl) (by rfl) (by assumption) (by rfl) (c_RW_size hD.row) ?_; refine Ex_mv rfl rfl ?_; (first | refine Ex_subN rfl (by omega) ?_ | refine Ex_mv rfl rfl ?_); refine Ex_invV rfl (by rfl) (by rfl) (by assumption) (by rfl) (c_RW_order hC.row hD.row (by omega) (by omega) (by omega) (by omega)) ?_; refine Ex_mv rfl rfl ?_; refine Ex_iff (not_not_intro e) ?_; refine Ex_mv rfl rfl ?_; refine Ex_mv rfl rfl ?_
      refine Ex_rt rfl rfl ⟨?_, rfl⟩
      simp [mea, e]
    · refine Ex_mv rfl rfl ?_; refine Ex_mv rfl rfl ?_; refine Ex_mv rfl rfl ?_; refine Ex_ift (nI_le (by omega) (by omega)) ?_; refine Ex_mv rfl rfl ?_; refine Ex_getf rfl (by assumption) rfl ?_; refine Ex_mv rfl rfl ?_; refine Ex_mv rfl rfl ?_; refine Ex_getf rfl (by assumption) rfl ?_; refine Ex_invV rfl (by rfl) (by rfl) (by assumption) (by rfl) (c_RW_size hC.row) ?_; refine Ex_mv rfl rfl ?_; (first | refine Ex_subN rfl (by omega) ?_ | refine Ex_mv rfl rfl ?_); refine Ex_mv rfl rfl ?_; refine Ex_getf rfl (by assumption) rfl ?_; refine Ex_mv rfl rfl ?_; refine Ex_mv rfl rfl ?_; refine Ex_getf rfl (by assumption) rfl ?_; refine Ex_invV rfl (by rfl) (by rfl) (by assumption) (by rfl) (c_RW_size hD.row) ?_; refine Ex_mv rfl rfl ?_; (first | refine Ex_subN rfl (by omega) ?_ | refine Ex_mv rfl rfl ?_); refine Ex_invV rfl (by rfl) (by rfl) (by assumption) (by rfl) (c_RW_order hC.row hD.row (by omega) (by omega) (by omega) (by omega)) ?_; refine Ex_mv rfl rfl ?_; refine Ex_ift (ne_nI0 e) ?_; refine Ex_mv rfl rfl ?_
      refine Ex_rt rfl rfl ⟨?_, rfl⟩
      simp [mea, e]
  | d + 1, i, a, b, x8, x9, hd, hI, hJ => by
    have hc := hC.1
    have hc' := hD.1
    obtain ⟨f, hr, hra, hB⟩ := id hC.row
    obtain ⟨f', hr', hra', hB'⟩ := id hD.row
    have hp := hC.po.1
    have hp' := hD.po.1
    have hl := hC.row.len
    have hl' := hD.row.len
    have hTl : TL.length ≤ 200 := hC.2.2.2.2.2.2.2.2.2.2.1
    have hTl' : TL'.length ≤ 200 := hD.2.2.2.2.2.2.2.2.2.2.1
    rw [tA_cons (TL := TL) (k := t + i) (by omega)] at hI ⊢
    rw [tA_cons (TL := TL') (k := u + i) (by omega)] at hJ ⊢
    obtain ⟨i1, i2, i3⟩ := hI
    obtain ⟨j1, j2, j3⟩ := hJ
    have k1 := b2_lt hC.row.lt (tA TL (t + i))
    have k2 := b2_lt hD.row.lt (tA TL' (u + i))
    by_cases e : cmpL (sl B a (tA TL (t + i) - a)) (sl B' b (tA TL' (u + i) - b)) = nI 0
    · by_cases e2 : cmpM (mng B S n (b2 B (tA TL (t + i)))) (mng B' S' n' (b2 B' (tA TL' (u + i)))) = nI 0
      · refine Ex_mv rfl rfl ?_; refine Ex_mv rfl rfl ?_; refine Ex_mv rfl rfl ?_; refine Ex_iff (nI_ge (by omega) (by omega)) ?_; refine Ex_mv rfl rfl ?_; refine Ex_mv rfl rfl ?_; refine Ex_mv rfl rfl ?_; (first | refine Ex_addN rfl ?_ | refine Ex_mv rfl rfl ?_); refine Ex_invV rfl (by rfl) (by rfl) (by assumption) (by rfl) (c_CF_tellAt hC (by omega)) ?_; refine Ex_mv rfl rfl ?_; refine Ex_mv rfl rfl ?_; refine Ex_mv rfl rfl ?_; refine Ex_mv rfl rfl ?_; (first | refine Ex_addN rfl ?_ | refine Ex_mv rfl rfl ?_); refine Ex_invV rfl (by rfl) (by rfl) (by assumption) (by rfl) (c_CF_tellAt hD (by omega)) ?_; refine Ex_mv rfl rfl ?_; refine Ex_mv rfl rfl ?_; refine Ex_getf rfl (by assumption) rfl ?_; refine Ex_mv rfl rfl ?_; refine Ex_mv rfl rfl ?_; refine Ex_mv rfl rfl ?_; (first | refine Ex_subN rfl (by omega) ?_ | refine Ex_mv rfl rfl ?_); refine Ex_mv rfl rfl ?_; refine Ex_getf rfl (by assumption) rfl ?_; refine Ex_mv rfl rfl ?_; refine Ex_mv rfl rfl ?_; refine Ex_mv rfl rfl ?_; (first | refine Ex_subN rfl (by omega) ?_ | refine Ex_mv rfl rfl ?_); refine Ex_invV rfl (by rfl) (by rfl) (by assumption) (by rfl) (c_RW_order hC.row hD.row (by omega) (by omega) (by omega) (by omega)) ?_; refine Ex_mv rfl rfl ?_; refine Ex_iff (not_not_intro e) ?_; refine Ex_mv rfl rfl ?_; refine Ex_getf rfl (by assumption) rfl ?_; refine Ex_mv rfl rfl ?_; refine Ex_getf rfl (by assumption) rfl ?_; refine Ex_mv rfl rfl ?_; refine Ex_invV rfl (by rfl) (by rfl) (by assumption) (by rfl) (c_RW_two hC.row (by omega)) ?_; refine Ex_mv rfl rfl ?_; refine Ex_getf rfl (by assumption) rfl ?_; refine Ex_mv rfl rfl ?_; refine Ex_getf rfl (by assumption) rfl ?_; refine Ex_mv rfl rfl ?_; refine Ex_invV rfl (by rfl) (by rfl) (by assumption) (by rfl) (c_RW_two hD.row (by omega)) ?_; refine Ex_invV rfl (by rfl) (by rfl) (by assumption) (by rfl) (c_PL_order hC.po hD.po hV hV' (by omega) (by omega)) ?_; refine Ex_mv rfl rfl ?_; refine Ex_ift e2 ?_; refine Ex_mv rfl rfl ?_; refine Ex_mv rfl rfl ?_; (first | refine Ex_addN rfl ?_ | refine Ex_mv rfl rfl ?_); refine Ex_mv rfl rfl ?_; refine Ex_mv rfl rfl ?_; refine Ex_mv rfl rfl ?_; (first | refine Ex_addN rfl ?_ | refine Ex_mv rfl rfl ?_); refine Ex_mv rfl rfl ?_; (first | refine Ex_incN rfl rfl ?_ | refine Ex_mv rfl rfl ?_); refine Ex_mv rfl rfl ?_
        refine Ex_mono (CF_meansAs_loop hC hD hV hV' ht hu d (i + 1) _ _ _ _ (by omega) i3 j3) ?_
        rintro v h' ⟨rfl, rfl⟩
        simp [mea, e, e2, Nat.add_assoc]
      · refine Ex_mv rfl rfl ?_; refine Ex_mv rfl rfl ?_; refine Ex_mv rfl rfl ?_; refine Ex_iff (nI_ge (by omega) (by omega)) ?_; refine Ex_mv rfl rfl ?_; refine Ex_mv rfl rfl ?_; refine Ex_mv rfl rfl ?_; (first | refine Ex_addN rfl ?_ | refine Ex_mv rfl rfl ?_); refine Ex_invV rfl (by rfl) (by rfl) (by assumption) (by rfl) (c_CF_tellAt hC (by omega)) ?_; refine Ex_mv rfl rfl ?_; refine Ex_mv rfl rfl ?_; refine Ex_mv rfl rfl ?_; refine Ex_mv rfl rfl ?_; (first | refine Ex_addN rfl ?_ | refine Ex_mv rfl rfl ?_); refine Ex_invV rfl (by rfl) (by rfl) (by assumption) (by rfl) (c_CF_tellAt hD (by omega)) ?_; refine Ex_mv rfl rfl ?_; refine Ex_mv rfl rfl ?_; refine Ex_getf rfl (by assumption) rfl ?_; refine Ex_mv rfl rfl ?_; refine Ex_mv rfl rfl ?_; refine Ex_mv rfl rfl ?_; (first | refine Ex_subN rfl (by omega) ?_ | refine Ex_mv rfl rfl ?_); refine Ex_mv rfl rfl ?_; refine Ex_getf rfl (by assumption) rfl ?_; refine Ex_mv rfl rfl ?_; refine Ex_mv rfl rfl ?_; refine Ex_mv rfl rfl ?_; (first | refine Ex_subN rfl (by omega) ?_ | refine Ex_mv rfl rfl ?_); refine Ex_invV rfl (by rfl) (by rfl) (by assumption) (by rfl) (c_RW_order hC.row hD.row (by omega) (by omega) (by omega) (by omega)) ?_; refine Ex_mv rfl rfl ?_; refine Ex_iff (not_not_intro e) ?_; refine Ex_mv rfl rfl ?_; refine Ex_getf rfl (by assumption) rfl ?_; refine Ex_mv rfl rfl ?_; refine Ex_getf rfl (by assumption) rfl ?_; refine Ex_mv rfl rfl ?_; refine Ex_invV rfl (by rfl) (by rfl) (by assumption) (by rfl) (c_RW_two hC.row (by omega)) ?_; refine Ex_mv rfl rfl ?_; refine Ex_getf rfl (by assumption) rfl ?_; refine Ex_mv rfl rfl ?_; refine Ex_getf rfl (by assumption) rfl ?_; refine Ex_mv rfl rfl ?_; refine Ex_invV rfl (by rfl) (by rfl) (by assumption) (by rfl) (c_RW_two hD.row (by omega)) ?_; refine Ex_invV rfl (by rfl) (by rfl) (by assumption) (by rfl) (c_PL_order hC.po hD.po hV hV' (by omega) (by omega)) ?_; refine Ex_mv rfl rfl ?_; refine Ex_iff (ne_nI0 e2) ?_; refine Ex_mv rfl rfl ?_
        refine Ex_rt rfl rfl ⟨?_, rfl⟩
        simp [mea, e2]
    · refine Ex_mv rfl rfl ?_; refine Ex_mv rfl rfl ?_; refine Ex_mv rfl rfl ?_; refine Ex_iff (nI_ge (by omega) (by omega)) ?_; refine Ex_mv rfl rfl ?_; refine Ex_mv rfl rfl ?_; refine Ex_mv rfl rfl ?_; (first | refine Ex_addN rfl ?_ | refine Ex_mv rfl rfl ?_); refine Ex_invV rfl (by rfl) (by rfl) (by assumption) (by rfl) (c_CF_tellAt hC (by omega)) ?_; refine Ex_mv rfl rfl ?_; refine Ex_mv rfl rfl ?_; refine Ex_mv rfl rfl ?_; refine Ex_mv rfl rfl ?_; (first | refine Ex_addN rfl ?_ | refine Ex_mv rfl rfl ?_); refine Ex_invV rfl (by rfl) (by rfl) (by assumption) (by rfl) (c_CF_tellAt hD (by omega)) ?_; refine Ex_mv rfl rfl ?_; refine Ex_mv rfl rfl ?_; refine Ex_getf rfl (by assumption) rfl ?_; refine Ex_mv rfl rfl ?_; refine Ex_mv rfl rfl ?_; refine Ex_mv rfl rfl ?_; (first | refine Ex_subN rfl (by omega) ?_ | refine Ex_mv rfl rfl ?_); refine Ex_mv rfl rfl ?_; refine Ex_getf rfl (by assumption) rfl ?_; refine Ex_mv rfl rfl ?_; refine Ex_mv rfl rfl ?_; refine Ex_mv rfl rfl ?_; (first | refine Ex_subN rfl (by omega) ?_ | refine Ex_mv rfl rfl ?_); refine Ex_invV rfl (by rfl) (by rfl) (by assumption) (by rfl) (c_RW_order hC.row hD.row (by omega) (by omega) (by omega) (by omega)) ?_; refine Ex_mv rfl rfl ?_; refine Ex_ift (ne_nI0 e) ?_; refine Ex_mv rfl rfl ?_
      refine Ex_rt rfl rfl ⟨?_, rfl⟩
      simp [mea, e]
theorem mea_len {F G : Nat → Mng} : ∀ (T U : List Nat) (a b : Nat), T.length ≠ U.length → mea B B' F G T U a b = false
  | [], [], a, b, hn => absurd rfl hn
  | [], _ :: _, a, b, hn => rfl
  | _ :: _, [], a, b, hn => rfl
  | t :: T, u :: U, a, b, hn => by
    rw [mea, mea_len T U _ _ (by simpa using hn)]
    simp
/-- the tells behind the pool -/
def tB (TL : List (Nat × Nat)) (bh : Nat) : List Nat := (TL.map (·.1)).drop (fbh TL bh TL.length 0)
theorem c_CF_meansAs (hC : CF h c B S n bh aa M0 M1 TL) (hD : CF h c' B' S' n' bh' aa' M0' M1' TL') (hV : TV B S n) (hV' : TV B' S' n') (hI : Inc B bh (tB TL bh)) (hJ : Inc B' bh' (tB TL' bh')) : Ev (prog nb sa) m_CF_meansAs [.ref c, .ref c'] h (some (.int (nI (if b4 B 4 = b4 B' 4 ∧ mea B B' (mng B S n) (mng B' S' n') (tB TL bh) (tB TL' bh') bh bh' = true then 1 else 0)))) h := by
  have hc := hC.1
  have hc' := hD.1
  obtain ⟨f, hr, hra, hB⟩ := id hC.row
  obtain ⟨f', hr', hra', hB'⟩ := id hD.row
  have k1 := b4_lt hC.row.lt 4
  have k2 := b4_lt hD.row.lt 4
  have hTl : TL.length ≤ 200 := hC.2.2.2.2.2.2.2.2.2.2.1
  have hTl' : TL'.length ≤ 200 := hD.2.2.2.2.2.2.2.2.2.2.1
  have f1 := (fbh_le TL bh TL.length 0).2
  have f2 := (fbh_le TL' bh' TL'.length 0).2
  refine Ev_ofL k_CF_meansAs 10 [some (.ref c), some (.ref c'), none, none, none, none, none, none, none, none] rfl (Nat.le_of_ble_eq_true rfl) rfl ?_
  by_cases hm : TL.length - fbh TL bh TL.length 0 = TL'.length - fbh TL' bh' TL'.length 0
  · by_cases hv : b4 B 4 = b4 B' 4
    · refine Ex_mv rfl rfl ?_; refine Ex_invV rfl (by rfl) (by rfl) (by assumption) (by rfl) (c_CF_firstBehind hC) ?_; refine Ex_mv rfl rfl ?_; refine Ex_mv rfl rfl ?_; refine Ex_invV rfl (by rfl) (by rfl) (by assumption) (by rfl) (c_CF_firstBehind hD) ?_; refine Ex_mv rfl rfl ?_; refine Ex_mv rfl rfl ?_; refine Ex_getf rfl (by assumption) rfl ?_; refine Ex_mv rfl rfl ?_; (first | refine Ex_subN rfl (by omega) ?_ | refine Ex_mv rfl rfl ?_); refine Ex_mv rfl rfl ?_; refine Ex_mv rfl rfl ?_; refine Ex_mv rfl rfl ?_; refine Ex_getf rfl (by assumption) rfl ?_; refine Ex_mv rfl rfl ?_; (first | refine Ex_subN rfl (by omega) ?_ | refine Ex_mv rfl rfl ?_); refine Ex_mv rfl rfl ?_; refine Ex_iff (not_not_intro (by rw [hm])) ?_; refine Ex_mv rfl rfl ?_; refine Ex_getf rfl (by assumption) rfl ?_; refine Ex_mv rfl rfl ?_; refine Ex_invV rfl (by rfl) (by rfl) (by assumption) (by rfl) (c_RW_four hC.row (by omega)) ?_; refine Ex_mv rfl rfl ?_; refine Ex_getf rfl (by assumption) rfl ?_; refine Ex_mv rfl rfl ?_; refine Ex_invV rfl (by rfl) (by rfl) (by assumption) (by rfl) (c_RW_four hD.row (by omega)) ?_; refine Ex_mv rfl rfl ?_; refine Ex_ift (by rw [hv]) ?_; refine Ex_mv rfl rfl ?_; refine Ex_getf rfl (by assumption) rfl ?_; refine Ex_mv rfl rfl ?_; refine Ex_mv rfl rfl ?_; refine Ex_getf rfl (by assumption) rfl ?_; refine Ex_mv rfl rfl ?_; refine Ex_mv rfl rfl ?_; refine Ex_mv rfl rfl ?_
      refine Ex_mono (CF_meansAs_loop hC hD hV hV' (t := fbh TL bh TL.length 0) (u := fbh TL' bh' TL'.length 0) (by omega) (by omega) (TL.length - fbh TL bh TL.length 0) 0 bh bh' _ _ (by omega) hI hJ) ?_
      rintro v h' ⟨rfl, rfl⟩
      refine ⟨?_, rfl⟩
      simp only [Nat.add_zero, hv, true_and]
      rfl
    · refine Ex_mv rfl rfl ?_; refine Ex_invV rfl (by rfl) (by rfl) (by assumption) (by rfl) (c_CF_firstBehind hC) ?_; refine Ex_mv rfl rfl ?_; refine Ex_mv rfl rfl ?_; refine Ex_invV rfl (by rfl) (by rfl) (by assumption) (by rfl) (c_CF_firstBehind hD) ?_; refine Ex_mv rfl rfl ?_; refine Ex_mv rfl rfl ?_; refine Ex_getf rfl (by assumption) rfl ?_; refine Ex_mv rfl rfl ?_; (first | refine Ex_subN rfl (by omega) ?_ | refine Ex_mv rfl rfl ?_); refine Ex_mv rfl rfl ?_; refine Ex_mv rfl rfl ?_; refine Ex_mv rfl rfl ?_; refine Ex_getf rfl (by assumption) rfl ?_; refine Ex_mv rfl rfl ?_; (first | refine Ex_subN rfl (by omega) ?_ | refine Ex_mv rfl rfl ?_); refine Ex_mv rfl rfl ?_; refine Ex_iff (not_not_intro (by rw [hm])) ?_; refine Ex_mv rfl rfl ?_; refine Ex_getf rfl (by assumption) rfl ?_; refine Ex_mv rfl rfl ?_; refine Ex_invV rfl (by rfl) (by rfl) (by assumption) (by rfl) (c_RW_four hC.row (by omega)) ?_; refine Ex_mv rfl rfl ?_; refine Ex_getf rfl (by assumption) rfl ?_; refine Ex_mv rfl rfl ?_; refine Ex_invV rfl (by rfl) (by rfl) (by assumption) (by rfl) (c_RW_four hD.row (by omega)) ?_; refine Ex_mv rfl rfl ?_; refine Ex_iff (fun z => hv (nI_inj32 k1 k2 z)) ?_; refine Ex_mv rfl rfl ?_
      refine Ex_rt rfl rfl ⟨?_, rfl⟩
      simp [hv]
  · have hq : mea B B' (mng B S n) (mng B' S' n') (tB TL bh) (tB TL' bh') bh bh' = false := mea_len _ _ _ _ (by simp [tB]; omega)
    refine Ex_mv rfl rfl ?_; refine Ex_invV rfl (by rfl) (by rfl) (by assumption) (by rfl) (c_CF_firstBehind hC) ?_; refine Ex_mv rfl rfl ?_; refine Ex_mv rfl rfl ?_; refine Ex_invV rfl (by rfl) (by rfl) (by assumption) (by rfl) (c_CF_firstBehind hD) ?_; refine Ex_mv rfl rfl ?_; refine Ex_mv rfl rfl ?_; refine Ex_getf rfl (by assumption) rfl ?_; refine Ex_mv rfl rfl ?_; (first | refine Ex_subN rfl (by omega) ?_ | refine Ex_mv rfl rfl ?_); refine Ex_mv rfl rfl ?_; refine Ex_mv rfl rfl ?_; refine Ex_mv rfl rfl ?_; refine Ex_getf rfl (by assumption) rfl ?_; refine Ex_mv rfl rfl ?_; (first | refine Ex_subN rfl (by omega) ?_ | refine Ex_mv rfl rfl ?_); refine Ex_mv rfl rfl ?_; refine Ex_ift (fun z => hm ((nI_eq (by omega) (by omega)).mp z)) ?_; refine Ex_mv rfl rfl ?_
    refine Ex_rt rfl rfl ⟨?_, rfl⟩
    simp [hq]
end MEANS
