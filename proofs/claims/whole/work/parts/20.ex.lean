/-! runs of the abstract machine, backwards from their ends -/
def Ex (P : Pg) (cd : Cd) (pc : Nat) (ls : Ls) (st : List Value) (h : Hp) (R : Option Value → Hp → Prop) : Prop := ∃ f v h', xexec P f cd pc ls st h = some (v, h') ∧ R v h'
def Ev (P : Pg) (mid : Nat) (As : List Value) (h : Hp) (v : Option Value) (h' : Hp) : Prop := (lent As).length ≤ (P mid).2 ∧ ∃ f, xexec P f (P mid).1 0 (lpad (P mid).2 (lent As)) [] h = some (v, h')
/-- .. that ends so that Q holds -/
def EvQ (P : Pg) (mid : Nat) (As : List Value) (h : Hp) (Q : Option Value → Hp → Prop) : Prop := ∃ v h', Ev P mid As h v h' ∧ Q v h'
theorem xexec_eq (P : Pg) (f : Nat) (cd : Cd) (pc : Nat) (ls : Ls) (st : List Value) (h : Hp) : xexec P (f + 1) cd pc ls st h = (match cd pc with
    | none => none
    | some o => match o ls st h with
      | none => none
      | some (.inl (pc', ls', st', h')) => cond (hle h h') (xexec P f cd pc' ls' st' h') none
      | some (.inr (.inl (v, h'))) => cond (hle h h') (some (v, h')) none
      | some (.inr (.inr (mid, As, pc', ls', st', h'))) => cond (hle h h' && Nat.ble (lent As).length (P mid).2) (match xexec P f (P mid).1 0 (lpad (P mid).2 (lent As)) [] h' with
        | some (v, h2) => xexec P f cd pc' ls' (v.toList ++ st') h2
        | none => none) none) := rfl
theorem xexec_more (P : Pg) : ∀ (f : Nat) (cd : Cd) (pc : Nat) (ls : Ls) (st : List Value) (h : Hp) (R : Option Value × Hp), xexec P f cd pc ls st h = some R → xexec P (f + 1) cd pc ls st h = some R
  | 0, _, _, _, _, _, _, e => by simp [xexec] at e
  | f + 1, cd, pc, ls, st, h, R, e => by
    rw [xexec_eq P f] at e
    rw [xexec_eq P (f + 1)]
    split at e
    next => cases e
    next o ho =>
      try rw [ho]
      split at e
      next => cases e
      next pc1 ls1 st1 h1 hS =>
        try simp only [hS]
        cases hb : hle h h1 with
        | false => rw [hb] at e; cases e
        | true =>
          rw [hb] at e
          simp only [cond_true] at e ⊢
          exact xexec_more P f cd pc1 ls1 st1 h1 R e
      next v1 h1 hS =>
        try simp only [hS]
        exact e
      next mid As pc1 ls1 st1 h1 hS =>
        try simp only [hS]
        cases hb : (hle h h1 && Nat.ble (lent As).length (P mid).2) with
        | false => rw [hb] at e; cases e
        | true =>
          rw [hb] at e
          simp only [cond_true] at e ⊢
          split at e
          next v2 h2 hc =>
            rw [xexec_more P f _ _ _ _ _ _ hc]
            exact xexec_more P f cd pc1 ls1 _ h2 R e
          next => cases e
theorem xexec_ge (P : Pg) {f g : Nat} (hfg : f ≤ g) {cd : Cd} {pc : Nat} {ls : Ls} {st : List Value} {h : Hp} {R : Option Value × Hp} (e : xexec P f cd pc ls st h = some R) : xexec P g cd pc ls st h = some R := by
  induction hfg with
  | refl => exact e
  | step _ ih => exact xexec_more P _ cd pc ls st h R ih
theorem hle_rfl (h : Hp) : hle h h = true := by simp [hle]
section EX
variable {P : Pg} {cd : Cd} {pc pc' : Nat} {ls ls' : Ls} {st st' : List Value} {h h1 : Hp} {R : Option Value → Hp → Prop} {o : XOp}
theorem Ex_go (hc : cd pc = some o) (ho : o ls st h = some (.inl (pc', ls', st', h1))) (hl : hle h h1 = true) (k : Ex P cd pc' ls' st' h1 R) : Ex P cd pc ls st h R := by
  obtain ⟨f, v, h', hf, hR⟩ := k
  exact ⟨f + 1, v, h', by rw [xexec_eq, hc]; simp only [ho, hl, cond_true]; exact hf, hR⟩
theorem Ex_mv (hc : cd pc = some o) (ho : o ls st h = some (.inl (pc', ls', st', h))) (k : Ex P cd pc' ls' st' h R) : Ex P cd pc ls st h R := Ex_go hc ho (hle_rfl h) k
theorem Ex_rt {v : Option Value} (hc : cd pc = some o) (ho : o ls st h = some (.inr (.inl (v, h)))) (e : R v h) : Ex P cd pc ls st h R := ⟨1, v, h, by rw [xexec_eq, hc]; simp only [ho, hle_rfl, cond_true], e⟩
theorem Ex_cl {mid : Nat} {As : List Value} {v : Option Value} (hc : cd pc = some o) (ho : o ls st h = some (.inr (.inr (mid, As, pc', ls', st', h)))) (hE : Ev P mid As h v h1) (k : Ex P cd pc' ls' (v.toList ++ st') h1 R) : Ex P cd pc ls st h R := by
  obtain ⟨hl, f, hf⟩ := hE
  obtain ⟨g, v', h', hg, hR⟩ := k
  refine ⟨max f g + 1, v', h', ?_, hR⟩
  have hb : Nat.ble (lent As).length (P mid).2 = true := Nat.ble_eq_true_of_le hl
  rw [xexec_eq, hc]
  simp only [ho, hle_rfl, hb, Bool.and_self, cond_true]
  rw [xexec_ge P (Nat.le_max_left f g) hf]
  exact xexec_ge P (Nat.le_max_right f g) hg
theorem Ex_if {p : Prop} [Decidable p] {t f : Nat} (ht : p → Ex P cd t ls st h R) (hf : ¬ p → Ex P cd f ls st h R) : Ex P cd (cond (decide p) t f) ls st h R := by
  by_cases hp : p
  · simpa [hp] using ht hp
  · simpa [hp] using hf hp
theorem Ex_sw {x k : Int32} {t d : Nat} {r : List (Int32 × Nat)} (ht : x = k → Ex P cd t ls st h R) (hf : ¬ x = k → Ex P cd (o_swp x r d) ls st h R) : Ex P cd (o_swp x ((k, t) :: r) d) ls st h R := by
  by_cases hp : x = k
  · simpa [o_swp, hp] using ht hp
  · simpa [o_swp, hp] using hf hp
theorem Ex_sw0 {x : Int32} {d : Nat} (hf : Ex P cd d ls st h R) : Ex P cd (o_swp x [] d) ls st h R := hf
theorem Ev_of {mid : Nat} {As : List Value} {v : Option Value} (cd : Cd) (n : Nat) (hp : P mid = (cd, n)) (hl : (lent As).length ≤ n) (k : Ex P cd 0 (lpad n (lent As)) [] h (fun v' h' => v' = v ∧ h' = h1)) : Ev P mid As h v h1 := by
  obtain ⟨f, v', h', hf, rfl, rfl⟩ := k
  unfold Ev
  rw [hp]
  exact ⟨hl, f, hf⟩
theorem EvQ_of {mid : Nat} {As : List Value} (cd : Cd) (n : Nat) (L : Ls) (hp : P mid = (cd, n)) (hl : (lent As).length ≤ n) (hL : lpad n (lent As) = L) (k : Ex P cd 0 L [] h R) : EvQ P mid As h R := by
  obtain ⟨f, v', h', hf, hR⟩ := k
  refine ⟨v', h', ?_, hR⟩
  unfold Ev
  rw [hp]
  exact ⟨hl, f, by rw [hL]; exact hf⟩
theorem Ex_mono {R' : Option Value → Hp → Prop} (k : Ex P cd pc ls st h R) (hR : ∀ v h', R v h' → R' v h') : Ex P cd pc ls st h R' := by
  obtain ⟨f, v, h', e, r⟩ := k
  exact ⟨f, v, h', e, hR v h' r⟩
theorem Ev_ofL {mid : Nat} {As : List Value} {v : Option Value} (cd : Cd) (n : Nat) (L : Ls) (hp : P mid = (cd, n)) (hl : (lent As).length ≤ n) (hL : lpad n (lent As) = L) (k : Ex P cd 0 L [] h (fun v' h' => v' = v ∧ h' = h1)) : Ev P mid As h v h1 := Ev_of cd n hp hl (by rw [hL]; exact k)
theorem Ex_iand {x y : Int32} {nx : Nat} (hc : cd pc = some (o_iand nx)) (kk : Ex P cd nx ls (.int (x &&& y) :: st) h R) : Ex P cd pc ls (.int y :: .int x :: st) h R := Ex_mv hc rfl kk
theorem Ex_ior {x y : Int32} {nx : Nat} (hc : cd pc = some (o_ior nx)) (kk : Ex P cd nx ls (.int (x ||| y) :: st) h R) : Ex P cd pc ls (.int y :: .int x :: st) h R := Ex_mv hc rfl kk
theorem Ex_ishl {x y : Int32} {nx : Nat} (hc : cd pc = some (o_ishl nx)) (kk : Ex P cd nx ls (.int (x <<< (y &&& 31)) :: st) h R) : Ex P cd pc ls (.int y :: .int x :: st) h R := Ex_mv hc rfl kk
theorem Ex_ishr {x y : Int32} {nx : Nat} (hc : cd pc = some (o_ishr nx)) (kk : Ex P cd nx ls (.int (x >>> (y &&& 31)) :: st) h R) : Ex P cd pc ls (.int y :: .int x :: st) h R := Ex_mv hc rfl kk
theorem Ex_land {x y : Int64} {nx : Nat} (hc : cd pc = some (o_land nx)) (kk : Ex P cd nx ls (.long (x &&& y) :: st) h R) : Ex P cd pc ls (.long y :: .long x :: st) h R := Ex_mv hc rfl kk
theorem Ex_lor {x y : Int64} {nx : Nat} (hc : cd pc = some (o_lor nx)) (kk : Ex P cd nx ls (.long (x ||| y) :: st) h R) : Ex P cd pc ls (.long y :: .long x :: st) h R := Ex_mv hc rfl kk
theorem Ex_lshl {x : Int64} {y : Int32} {nx : Nat} (hc : cd pc = some (o_lshl nx)) (kk : Ex P cd nx ls (.long (x <<< (y.toInt64 &&& 63)) :: st) h R) : Ex P cd pc ls (.int y :: .long x :: st) h R := Ex_mv hc rfl kk
theorem Ex_lshr {x : Int64} {y : Int32} {nx : Nat} (hc : cd pc = some (o_lshr nx)) (kk : Ex P cd nx ls (.long (x >>> (y.toInt64 &&& 63)) :: st) h R) : Ex P cd pc ls (.int y :: .long x :: st) h R := Ex_mv hc rfl kk
/-! steps that look at the heap -/
theorem Ex_getf {ci k nx a : Nat} {w : Bool} {fs : List Value} {v : Value} (hc : cd pc = some (o_getf ci k nx)) (hM : h.2.2 a = some (w, .inr (ci, fs))) (hv : fs[k]? = some v) (kk : Ex P cd nx ls (v :: st) h R) : Ex P cd pc ls (.ref a :: st) h R := by
  refine Ex_mv hc ?_ kk
  simp only [o_getf, hM, Nat.beq_refl, cond_true, hv]
theorem Ex_putf {ci k kd nx a : Nat} {fs : List Value} {v : Value} (hc : cd pc = some (o_putf ci k kd nx)) (hM : h.2.2 a = some (true, .inr (ci, fs))) (hv : o_ok kd v = true) (hk : Nat.blt k fs.length = true) (kk : Ex P cd nx ls st (hset h a (.inr (ci, fs.set k v))) R) : Ex P cd pc ls (v :: .ref a :: st) h R := by
  refine Ex_go hc (pc' := nx) (ls' := ls) (st' := st) ?_ (h1 := hset h a (.inr (ci, fs.set k v))) (by simp [hle, hset]) kk
  simp only [o_putf, hM, Nat.beq_refl, hv, hk, Bool.and_self, cond_true]
theorem Ex_alen {nx a k n : Nat} {w : Bool} {x : (Nat → Int32) ⊕ (Nat → Int64) ⊕ (Nat → UInt32) ⊕ (Nat → UInt64) ⊕ (Nat → Option Nat)} (hc : cd pc = some (o_alen nx)) (hM : h.2.2 a = some (w, .inl (k, n, x))) (hk : Nat.blt k 11 = true) (kk : Ex P cd nx ls (.int (nI n) :: st) h R) : Ex P cd pc ls (.ref a :: st) h R := by
  refine Ex_mv hc ?_ kk
  simp only [o_alen, hM, hk, cond_true]
  rfl
theorem in_inb {i : Int32} {n : Nat} (h : vp_in i n) : inb i n = true := by
  simp only [inb, Bool.and_eq_true, Bool.not_eq_true', decide_eq_false_iff_not]
  exact ⟨fun q => h (Or.inl q), Nat.ble_eq_true_of_le (Nat.not_le.mp fun q => h (Or.inr q))⟩
theorem Ex_iald {kd nx a n : Nat} {w : Bool} {f : Nat → Int32} {i : Int32} (hc : cd pc = some (o_iald kd nx)) (hM : h.2.2 a = some (w, .inl (kd, n, .inl f))) (hi : vp_in i n) (kk : Ex P cd nx ls (.int (f i.toNatClampNeg) :: st) h R) : Ex P cd pc ls (.int i :: .ref a :: st) h R := by
  refine Ex_mv hc ?_ kk
  simp only [o_iald, hM, Nat.beq_refl, in_inb hi, Bool.and_self, cond_true]
theorem Ex_lald {nx a n : Nat} {w : Bool} {f : Nat → Int64} {i : Int32} (hc : cd pc = some (o_lald nx)) (hM : h.2.2 a = some (w, .inl (2, n, .inr (.inl f)))) (hi : vp_in i n) (kk : Ex P cd nx ls (.long (f i.toNatClampNeg) :: st) h R) : Ex P cd pc ls (.int i :: .ref a :: st) h R := by
  refine Ex_mv hc ?_ kk
  simp only [o_lald, hM, Nat.beq_refl, in_inb hi, Bool.and_self, cond_true]
theorem Ex_aald {kd nx a n q : Nat} {w : Bool} {f : Nat → Option Nat} {i : Int32} (hc : cd pc = some (o_aald nx)) (hM : h.2.2 a = some (w, .inl (kd, n, .inr (.inr (.inr (.inr f)))))) (hk : (Nat.blt 2 kd && Nat.blt kd 11) = true) (hi : vp_in i n) (hq : f i.toNatClampNeg = some q) (kk : Ex P cd nx ls (.ref q :: st) h R) : Ex P cd pc ls (.int i :: .ref a :: st) h R := by
  refine Ex_mv hc ?_ kk
  simp only [o_aald, hM, hk, in_inb hi, Bool.and_self, cond_true, hq]
theorem Ex_iast {nx a n : Nat} {f : Nat → Int32} {i x : Int32} (hc : cd pc = some (o_iast nx)) (hM : h.2.2 a = some (true, .inl (1, n, .inl f))) (hi : vp_in i n) (kk : Ex P cd nx ls st (hset h a (.inl (1, n, .inl (upd f i.toNatClampNeg x)))) R) : Ex P cd pc ls (.int x :: .int i :: .ref a :: st) h R := by
  refine Ex_go hc (pc' := nx) (ls' := ls) (st' := st) ?_ (h1 := hset h a _) (by simp [hle, hset]) kk
  simp only [o_iast, hM, Nat.beq_refl, in_inb hi, Bool.and_self, cond_true]
theorem Ex_bast {nx a n : Nat} {f : Nat → Int32} {i x : Int32} (hc : cd pc = some (o_bast nx)) (hM : h.2.2 a = some (true, .inl (0, n, .inl f))) (hi : vp_in i n) (kk : Ex P cd nx ls st (hset h a (.inl (0, n, .inl (upd f i.toNatClampNeg x.toInt8.toInt32)))) R) : Ex P cd pc ls (.int x :: .int i :: .ref a :: st) h R := by
  refine Ex_go hc (pc' := nx) (ls' := ls) (st' := st) ?_ (h1 := hset h a _) (by simp [hle, hset]) kk
  simp only [o_bast, hM, Nat.beq_refl, in_inb hi, Bool.and_self, cond_true]
theorem Ex_last {nx a n : Nat} {f : Nat → Int64} {i : Int32} {x : Int64} (hc : cd pc = some (o_last nx)) (hM : h.2.2 a = some (true, .inl (2, n, .inr (.inl f)))) (hi : vp_in i n) (kk : Ex P cd nx ls st (hset h a (.inl (2, n, .inr (.inl (vp_updL f i.toNatClampNeg x))))) R) : Ex P cd pc ls (.long x :: .int i :: .ref a :: st) h R := by
  refine Ex_go hc (pc' := nx) (ls' := ls) (st' := st) ?_ (h1 := hset h a _) (by simp [hle, hset]) kk
  simp only [o_last, hM, Nat.beq_refl, in_inb hi, Bool.and_self, cond_true]
theorem Ex_aast {kd ek nx a n v : Nat} {ce : Ce} {f : Nat → Option Nat} {i : Int32} (hc : cd pc = some (o_aast kd ek nx)) (hM : h.2.2 a = some (true, .inl (kd, n, .inr (.inr (.inr (.inr f)))))) (hv : h.2.2 v = some (true, ce)) (hk : Nat.beq (kof ce) ek = true) (hi : vp_in i n) (kk : Ex P cd nx ls st (hset h a (.inl (kd, n, .inr (.inr (.inr (.inr (va_up f i.toNatClampNeg (some v)))))))) R) : Ex P cd pc ls (.ref v :: .int i :: .ref a :: st) h R := by
  refine Ex_go hc (pc' := nx) (ls' := ls) (st' := st) ?_ (h1 := hset h a _) (by simp [hle, hset]) kk
  simp only [o_aast, hM, hv, Nat.beq_refl, in_inb hi, hk, Bool.and_self, cond_true]
theorem Ex_new {ci N nx : Nat} {fs : List Value} (hc : cd pc = some (o_new ci N fs nx)) (kk : Ex P cd nx ls (.ref h.1 :: st) (hnew h N (.inr (ci, fs))) R) : Ex P cd pc ls st h R := Ex_go hc rfl (by simp [hle, hnew]) kk
theorem Ex_newi {kd nx : Nat} {n : Int32} (hc : cd pc = some (o_newi kd nx)) (hi : vp_in n 100000) (kk : Ex P cd nx ls (.ref h.1 :: st) (hnew h n.toNatClampNeg (.inl (kd, n.toNatClampNeg, .inl (fun _ => 0)))) R) : Ex P cd pc ls (.int n :: st) h R := by
  refine Ex_go hc (pc' := nx) (ls' := ls) (st' := .ref h.1 :: st) ?_ (h1 := hnew h _ _) (by simp [hle, hnew]) kk
  simp only [o_newi, in_inb hi, cond_true]
theorem Ex_newl {nx : Nat} {n : Int32} (hc : cd pc = some (o_newl nx)) (hi : vp_in n 100000) (kk : Ex P cd nx ls (.ref h.1 :: st) (hnew h n.toNatClampNeg (.inl (2, n.toNatClampNeg, .inr (.inl (fun _ => 0))))) R) : Ex P cd pc ls (.int n :: st) h R := by
  refine Ex_go hc (pc' := nx) (ls' := ls) (st' := .ref h.1 :: st) ?_ (h1 := hnew h _ _) (by simp [hle, hnew]) kk
  simp only [o_newl, in_inb hi, cond_true]
theorem Ex_newq {kd nx : Nat} {n : Int32} (hc : cd pc = some (o_newq kd nx)) (hi : vp_in n 100000) (kk : Ex P cd nx ls (.ref h.1 :: st) (hnew h n.toNatClampNeg (.inl (kd, n.toNatClampNeg, .inr (.inr (.inr (.inr (fun _ => none))))))) R) : Ex P cd pc ls (.int n :: st) h R := by
  refine Ex_go hc (pc' := nx) (ls' := ls) (st' := .ref h.1 :: st) ?_ (h1 := hnew h _ _) (by simp [hle, hnew]) kk
  simp only [o_newq, in_inb hi, cond_true]
theorem Ex_acp {nx k na nd d a : Nat} {w : Bool} {n dp sp : Int32} {f g : Nat → Int32} (hc : cd pc = some (o_acp nx)) (h8 : Nat.ble (stw st) 8 = true) (hMa : h.2.2 a = some (w, .inl (k, na, .inl f))) (hMd : h.2.2 d = some (true, .inl (k, nd, .inl g))) (hk : Nat.blt k 2 = true) (h1 : ¬ n < 0) (h2 : ¬ sp < 0) (h3 : ¬ dp < 0) (h4 : sp.toNatClampNeg + n.toNatClampNeg ≤ na) (h5 : dp.toNatClampNeg + n.toNatClampNeg ≤ nd) (kk : Ex P cd nx ls st (hset h d (.inl (k, nd, .inl (va_cpy f g sp.toNatClampNeg dp.toNatClampNeg n.toNatClampNeg)))) R) : Ex P cd pc ls (.int n :: .int dp :: .ref d :: .int sp :: .ref a :: st) h R := by
  refine Ex_go hc (pc' := nx) (ls' := ls) (st' := st) ?_ (h1 := hset h d _) (by simp [hle, hset]) kk
  simp only [o_acp, hMa, hMd, h8, Nat.beq_refl, hk, h1, h2, h3, decide_false, Bool.not_false, Nat.ble_eq_true_of_le h4, Nat.ble_eq_true_of_le h5, Bool.and_self, cond_true]
theorem Ex_invV {mid ci n nx a : Nat} {w : Bool} {fs As : List Value} {v : Option Value} (hc : cd pc = some (o_invV mid ci n nx)) (hst : st = As.reverse ++ .ref a :: st') (hn : As.length = n) (hM : h.2.2 a = some (w, .inr (ci, fs))) (h8 : Nat.ble (stw st') 8 = true) (hE : Ev P mid (.ref a :: As) h v h1) (k : Ex P cd nx ls (v.toList ++ st') h1 R) : Ex P cd pc ls st h R := by
  refine Ex_cl hc (mid := mid) (As := .ref a :: As) (pc' := nx) (ls' := ls) (st' := st') ?_ hE k
  subst hst
  have e1 : (As.reverse ++ .ref a :: st').drop n = .ref a :: st' := by rw [List.drop_append_of_le_length (by simp [hn]), List.drop_eq_nil_of_le (by simp [hn])]; rfl
  have e2 : (As.reverse ++ .ref a :: st').take n = As.reverse := by rw [List.take_append_of_le_length (by simp [hn]), List.take_of_length_le (by simp [hn])]
  have e3 : Nat.ble n (As.reverse ++ .ref a :: st').length = true := Nat.ble_eq_true_of_le (by simp [hn])
  simp only [o_invV, e1, hM, Nat.beq_refl, e3, Bool.and_self, cond_true, e2, List.reverse_reverse, o_call, h8]
theorem Ex_inv {mid n nx : Nat} {As : List Value} {v : Option Value} (hc : cd pc = some (o_inv mid n nx)) (hst : st = As.reverse ++ st') (hn : As.length = n) (h8 : Nat.ble (stw st') 8 = true) (hE : Ev P mid As h v h1) (k : Ex P cd nx ls (v.toList ++ st') h1 R) : Ex P cd pc ls st h R := by
  refine Ex_cl hc (mid := mid) (As := As) (pc' := nx) (ls' := ls) (st' := st') ?_ hE k
  subst hst
  have e1 : (As.reverse ++ st').drop n = st' := by rw [List.drop_append_of_le_length (by simp [hn]), List.drop_eq_nil_of_le (by simp [hn])]; rfl
  have e2 : (As.reverse ++ st').take n = As.reverse := by rw [List.take_append_of_le_length (by simp [hn]), List.take_of_length_le (by simp [hn])]
  have e3 : Nat.ble n (As.reverse ++ st').length = true := Nat.ble_eq_true_of_le (by simp [hn])
  simp only [o_inv, e1, e3, cond_true, e2, List.reverse_reverse, o_call, h8]
theorem Ex_invI {mid n nx a : Nat} {As : List Value} {v : Option Value} (hc : cd pc = some (o_invI mid n nx)) (hst : st = As.reverse ++ .ref a :: st') (hn : As.length = n) (h8 : Nat.ble (stw st') 8 = true) (hE : Ev P mid (.ref a :: As) h v h1) (k : Ex P cd nx ls (v.toList ++ st') h1 R) : Ex P cd pc ls st h R := by
  refine Ex_cl hc (mid := mid) (As := .ref a :: As) (pc' := nx) (ls' := ls) (st' := st') ?_ hE k
  subst hst
  have e1 : (As.reverse ++ .ref a :: st').drop n = .ref a :: st' := by rw [List.drop_append_of_le_length (by simp [hn]), List.drop_eq_nil_of_le (by simp [hn])]; rfl
  have e2 : (As.reverse ++ .ref a :: st').take n = As.reverse := by rw [List.take_append_of_le_length (by simp [hn]), List.take_of_length_le (by simp [hn])]
  have e3 : Nat.ble n (As.reverse ++ .ref a :: st').length = true := Nat.ble_eq_true_of_le (by simp [hn])
  simp only [o_invI, e1, e3, cond_true, e2, List.reverse_reverse, o_call, h8]
theorem Ex_ift {p : Prop} [Decidable p] {t f : Nat} (hp : p) (ht : Ex P cd t ls st h R) : Ex P cd (cond (decide p) t f) ls st h R := by simpa [hp] using ht
theorem Ex_iff {p : Prop} [Decidable p] {t f : Nat} (hp : ¬ p) (hf : Ex P cd f ls st h R) : Ex P cd (cond (decide p) t f) ls st h R := by simpa [hp] using hf
/-! numbers that are none below 0 -/
theorem Ex_addN {a b nx : Nat} (hc : cd pc = some (o_iadd nx)) (kk : Ex P cd nx ls (.int (nI (a + b)) :: st) h R) : Ex P cd pc ls (.int (nI b) :: .int (nI a) :: st) h R := by
  refine Ex_mv hc (pc' := nx) (ls' := ls) (st' := .int (nI a + nI b) :: st) rfl ?_
  rw [nI_add]; exact kk
theorem Ex_subN {a b nx : Nat} (hc : cd pc = some (o_isub nx)) (hab : b ≤ a) (kk : Ex P cd nx ls (.int (nI (a - b)) :: st) h R) : Ex P cd pc ls (.int (nI b) :: .int (nI a) :: st) h R := by
  refine Ex_mv hc (pc' := nx) (ls' := ls) (st' := .int (nI a - nI b) :: st) rfl ?_
  rw [pk_sub hab]; exact kk
theorem Ex_mulN {a b nx : Nat} (hc : cd pc = some (o_imul nx)) (kk : Ex P cd nx ls (.int (nI (a * b)) :: st) h R) : Ex P cd pc ls (.int (nI b) :: .int (nI a) :: st) h R := by
  refine Ex_mv hc (pc' := nx) (ls' := ls) (st' := .int (nI a * nI b) :: st) rfl ?_
  rw [pk_mul]; exact kk
theorem Ex_incN {a d k nx : Nat} (hc : cd pc = some (o_inc k (nI d) nx)) (hl : lget ls k = some (.int (nI a))) (kk : Ex P cd nx (lset ls k (.int (nI (a + d)))) st h R) : Ex P cd pc ls st h R := by
  refine Ex_mv hc (pc' := nx) (ls' := lset ls k (.int (nI a + nI d))) (st' := st) (by simp only [o_inc, hl]) ?_
  rw [nI_add]; exact kk
theorem Ex_leN {a b t f : Nat} (ha : a < 2 ^ 31) (hb : b < 2 ^ 31) (ht : a ≤ b → Ex P cd t ls st h R) (hf : b < a → Ex P cd f ls st h R) : Ex P cd (cond (decide (nI a ≤ nI b)) t f) ls st h R := Ex_if (fun q => ht ((nI_leI ha hb).mp q)) (fun q => hf (Nat.not_le.mp fun z => q ((nI_leI ha hb).mpr z)))
theorem Ex_ltN {a b t f : Nat} (ha : a < 2 ^ 31) (hb : b < 2 ^ 31) (ht : a < b → Ex P cd t ls st h R) (hf : b ≤ a → Ex P cd f ls st h R) : Ex P cd (cond (decide (nI a < nI b)) t f) ls st h R := Ex_if (fun q => ht ((nI_ltI ha hb).mp q)) (fun q => hf (Nat.not_lt.mp fun z => q ((nI_ltI ha hb).mpr z)))
theorem Ex_eqN {a b t f : Nat} (ha : a < 2 ^ 31) (hb : b < 2 ^ 31) (ht : a = b → Ex P cd t ls st h R) (hf : a ≠ b → Ex P cd f ls st h R) : Ex P cd (cond (decide (nI a = nI b)) t f) ls st h R := Ex_if (fun q => ht ((nI_eq ha hb).mp q)) (fun q => hf fun z => q ((nI_eq ha hb).mpr z))
theorem Ex_neN {a b t f : Nat} (ha : a < 2 ^ 31) (hb : b < 2 ^ 31) (ht : a ≠ b → Ex P cd t ls st h R) (hf : a = b → Ex P cd f ls st h R) : Ex P cd (cond (decide (¬ nI a = nI b)) t f) ls st h R := Ex_if (fun q => ht fun z => q ((nI_eq ha hb).mpr z)) (fun q => hf ((nI_eq ha hb).mp (Decidable.not_not.mp q)))
theorem Ex_eq0 {a t f : Nat} (ha : a < 2 ^ 31) (ht : a = 0 → Ex P cd t ls st h R) (hf : a ≠ 0 → Ex P cd f ls st h R) : Ex P cd (cond (decide (nI a = 0)) t f) ls st h R := Ex_eqN (b := 0) ha (by decide) ht hf
theorem Ex_ne0 {a t f : Nat} (ha : a < 2 ^ 31) (ht : a ≠ 0 → Ex P cd t ls st h R) (hf : a = 0 → Ex P cd f ls st h R) : Ex P cd (cond (decide (¬ nI a = 0)) t f) ls st h R := Ex_neN (b := 0) ha (by decide) ht hf
theorem Ex_lt0 {a t f : Nat} (ha : a < 2 ^ 31) (hf : Ex P cd f ls st h R) : Ex P cd (cond (decide (nI a < 0)) t f) ls st h R := Ex_iff (nI_pos ha) hf
theorem Ex_ge0 {a t f : Nat} (ha : a < 2 ^ 31) (ht : Ex P cd t ls st h R) : Ex P cd (cond (decide (0 ≤ nI a)) t f) ls st h R := Ex_ift (nI_pos' ha) ht
theorem Ex_gt0 {a t f : Nat} (ha : a < 2 ^ 31) (ht : 0 < a → Ex P cd t ls st h R) (hf : a = 0 → Ex P cd f ls st h R) : Ex P cd (cond (decide (0 < nI a)) t f) ls st h R := Ex_ltN (a := 0) (by decide) ha ht (fun q => hf (by omega))
theorem Ex_le0 {a t f : Nat} (ha : a < 2 ^ 31) (ht : a = 0 → Ex P cd t ls st h R) (hf : 0 < a → Ex P cd f ls st h R) : Ex P cd (cond (decide (nI a ≤ 0)) t f) ls st h R := Ex_leN (b := 0) ha (by decide) (fun q => ht (by omega)) hf
theorem Ex_swN {a k t d : Nat} {r : List (Int32 × Nat)} {kk : Int32} (hk : kk = nI k) (ha : a < 2 ^ 31) (hkk : k < 2 ^ 31) (ht : a = k → Ex P cd t ls st h R) (hf : a ≠ k → Ex P cd (o_swp (nI a) r d) ls st h R) : Ex P cd (o_swp (nI a) ((kk, t) :: r) d) ls st h R := by
  subst hk
  exact Ex_sw (fun q => ht ((nI_eq ha hkk).mp q)) (fun q => hf fun z => q ((nI_eq ha hkk).mpr z))
end EX
