/-! the other side: pictures -/
/-- a cell that is there and isn't one of those that change -/
def okA (m0 : Nat → Prop) (h : Hp) (t : Nat) : Prop := t < h.1 ∧ ¬ m0 t
/-- nothing changed but those -/
def PF (m0 : Nat → Prop) (h h' : Hp) : Prop := h.1 ≤ h'.1 ∧ h.2.1 ≤ h'.2.1 ∧ ∀ q, okA m0 h q → h'.2.2 q = h.2.2 q
theorem PF.rf {m0 : Nat → Prop} {h : Hp} : PF m0 h h := ⟨Nat.le_refl _, Nat.le_refl _, fun _ _ => rfl⟩
theorem okA.pf {m0 : Nat → Prop} {t : Nat} {h h' : Hp} (a : okA m0 h t) (F : PF m0 h h') : okA m0 h' t := ⟨Nat.lt_of_lt_of_le a.1 F.1, a.2⟩
theorem PF.tr {m0 : Nat → Prop} {h h1 h2 : Hp} (a : PF m0 h h1) (b : PF m0 h1 h2) : PF m0 h h2 := ⟨Nat.le_trans a.1 b.1, Nat.le_trans a.2.1 b.2.1, fun q hq => (b.2.2 q (hq.pf a)).trans (a.2.2 q hq)⟩
theorem PF.at {m0 : Nat → Prop} {t : Nat} {h h' : Hp} {x : Option (Bool × Ce)} (F : PF m0 h h') (hx : h.2.2 t = x) (a : okA m0 h t) : h'.2.2 t = x := (F.2.2 t a).trans hx
theorem PF.set {m0 : Nat → Prop} {a : Nat} {h h1 : Hp} {c : Ce} (f : PF m0 h h1) (h1' : m0 a) : PF m0 h (hset h1 a c) := ⟨f.1, f.2.1, fun q hq => (if_neg (fun e => hq.2 (by rw [e]; exact h1'))).trans (f.2.2 q hq)⟩
theorem PF.new {m0 : Nat → Prop} {k : Nat} {h h1 : Hp} {c : Ce} (f : PF m0 h h1) : PF m0 h (hnew h1 k c) := ⟨Nat.le_trans f.1 (Nat.le_succ _), Nat.le_trans f.2.1 (Nat.le_add_right _ _), fun q hq => (if_neg (by have := hq.1; have := f.1; omega)).trans (f.2.2 q hq)⟩
/-- a row of bytes -/
def BA (h : Hp) (t : Nat) (T : List Nat) : Prop := ∃ w g, h.2.2 t = some (w, .inl (0, T.length, .inl g)) ∧ (∀ j, j < T.length → g j = sb_b (T.getD j 0)) ∧ (∀ x ∈ T, x < 256) ∧ T.length ≤ 400
def BAk (m0 : Nat → Prop) (h : Hp) (t : Nat) (T : List Nat) : Prop := BA h t T ∧ okA m0 h t
theorem BAk.pf {m0 : Nat → Prop} {t : Nat} {h h' : Hp} {T : List Nat} (a : BAk m0 h t T) (F : PF m0 h h') : BAk m0 h' t T := by
  obtain ⟨⟨w, g, h1, h2⟩, h3⟩ := a
  exact ⟨⟨w, g, F.at h1 h3, h2⟩, h3.pf F⟩
def ATk (m0 : Nat → Prop) (h : Hp) (t : Nat) (B : List Nat) (q : Nat) : Prop := ∃ u g, h.2.2 t = some (true, .inr (7, [.int (nI (b2 B q)), .ref u])) ∧ h.2.2 u = some (true, .inl (1, 6, .inl g)) ∧ (∀ i, i < b2 B q → g i = nI (atP B i (q + 2))) ∧ okA m0 h t ∧ okA m0 h u
theorem ATk.pf {m0 : Nat → Prop} {t q : Nat} {h h' : Hp} {B : List Nat} (a : ATk m0 h t B q) (F : PF m0 h h') : ATk m0 h' t B q := by
  obtain ⟨u, g, h1, h2, h3, h4, h5⟩ := a
  exact ⟨u, g, F.at h1 h4, F.at h2 h5, h3, h4.pf F, h5.pf F⟩
def MBk (m0 : Nat → Prop) (h : Hp) (t : Nat) (B : List Nat) (m : Nat) : Prop := ∃ u, h.2.2 t = some (true, .inr (10, [.int (nI m), .ref u])) ∧ ATk m0 h u B (m + 6) ∧ okA m0 h t
theorem MBk.pf {m0 : Nat → Prop} {t m : Nat} {h h' : Hp} {B : List Nat} (a : MBk m0 h t B m) (F : PF m0 h h') : MBk m0 h' t B m := by
  obtain ⟨u, h1, h2, h3⟩ := a
  exact ⟨u, F.at h1 h3, h2.pf F, h3.pf F⟩
/-- members of a kind -/
def MLk (m0 : Nat → Prop) (h : Hp) (t : Nat) (B M : List Nat) : Prop := ∃ g, h.2.2 t = some (true, .inl (8, 12, .inr (.inr (.inr (.inr g))))) ∧ (∀ j, j < M.length → ∃ u, g j = some u ∧ MBk m0 h u B (M.getD j 0)) ∧ okA m0 h t ∧ M.length ≤ 12
theorem MLk.pf {m0 : Nat → Prop} {t : Nat} {h h' : Hp} {B M : List Nat} (a : MLk m0 h t B M) (F : PF m0 h h') : MLk m0 h' t B M := by
  obtain ⟨g, h1, h2, h3, h4⟩ := a
  refine ⟨g, F.at h1 h3, fun j hj => ?_, h3.pf F, h4⟩
  obtain ⟨u, q1, q2⟩ := h2 j hj
  exact ⟨u, q1, q2.pf F⟩
/-- a file as the other side holds it -/
def HF (m0 : Nat → Prop) (h : Hp) (f : Nat) (z : Fl) : Prop := ∃ (b t1 t2 t3 t7 a5 a6 t8 ow : Nat) (gt ga gc : Nat → Int32) (gx gm : Nat → Option Nat),
  h.2.2 f = some (true, .inr (8, [.ref b, .int (nI z.2.2.1), .ref t1, .ref t2, .ref t3, .int (nI z.2.2.2.1), .int (nI (b2 z.1 (z.2.2.2.1 + 6))), .ref t7, .ref t8, .ref ow])) ∧ okA m0 h f ∧ BAk m0 h b z.1 ∧ (h.2.2 t1 = some (true, .inl (1, 61, .inl gt)) ∧ okA m0 h t1 ∧ ∀ j, j < 61 → gt j = nI (tg z.1 z.2.1 z.2.2.1 j)) ∧ (h.2.2 t2 = some (true, .inl (1, 61, .inl ga)) ∧ okA m0 h t2 ∧ ∀ j, j < 61 → ga j = nI (st z.2.1 z.2.2.1 j)) ∧ (h.2.2 t3 = some (true, .inl (4, 61, .inr (.inr (.inr (.inr gx))))) ∧ okA m0 h t3 ∧ ∀ j, j < 61 → tg z.1 z.2.1 z.2.2.1 j = 1 → ∃ t, gx j = some t ∧ BAk m0 h t (tx z.1 z.2.1 z.2.2.1 j)) ∧ (h.2.2 t7 = some (true, .inl (9, 2, .inr (.inr (.inr (.inr gm))))) ∧ okA m0 h t7 ∧ gm 0 = some a5 ∧ gm 1 = some a6 ∧ MLk m0 h a5 z.1 z.2.2.2.2.2.1 ∧ MLk m0 h a6 z.1 z.2.2.2.2.2.2.1) ∧ (h.2.2 t8 = some (true, .inl (1, 2, .inl gc)) ∧ okA m0 h t8 ∧ gc 0 = nI z.2.2.2.2.2.1.length ∧ gc 1 = nI z.2.2.2.2.2.2.1.length) ∧ ATk m0 h ow z.1 z.2.2.2.2.1
theorem HF.pf {m0 : Nat → Prop} {f : Nat} {h h' : Hp} {z : Fl} (a : HF m0 h f z) (F : PF m0 h h') : HF m0 h' f z := by
  obtain ⟨b, t1, t2, t3, t7, a5, a6, t8, ow, gt, ga, gc, gx, gm, c1, c2, c3, ⟨d1, d2, d3⟩, ⟨e1, e2, e3⟩, ⟨f1, f2, f3⟩, ⟨g1, g2, g3, g4, g5, g6⟩, ⟨i1, i2, i3⟩, j1⟩ := a
  refine ⟨b, t1, t2, t3, t7, a5, a6, t8, ow, gt, ga, gc, gx, gm, F.at c1 c2, c2.pf F, c3.pf F, ⟨F.at d1 d2, d2.pf F, d3⟩, ⟨F.at e1 e2, e2.pf F, e3⟩, ⟨F.at f1 f2, f2.pf F, fun j hj ht => ?_⟩, ⟨F.at g1 g2, g2.pf F, g3, g4, g5.pf F, g6.pf F⟩, ⟨F.at i1 i2, i2.pf F, i3⟩, j1.pf F⟩
  obtain ⟨t, q1, q2⟩ := f3 j hj ht
  exact ⟨t, q1, q2.pf F⟩
section MONO
variable {m0 m1 : Nat → Prop} {h : Hp}
theorem BAk.mono {t : Nat} {T : List Nat} (hm : ∀ t, okA m0 h t → okA m1 h t) (a : BAk m0 h t T) : BAk m1 h t T := ⟨a.1, hm _ a.2⟩
theorem ATk.mono {t q : Nat} {B : List Nat} (hm : ∀ t, okA m0 h t → okA m1 h t) (a : ATk m0 h t B q) : ATk m1 h t B q := by
  obtain ⟨u, g, h1, h2, h3, h4, h5⟩ := a
  exact ⟨u, g, h1, h2, h3, hm _ h4, hm _ h5⟩
theorem MBk.mono {t m : Nat} {B : List Nat} (hm : ∀ t, okA m0 h t → okA m1 h t) (a : MBk m0 h t B m) : MBk m1 h t B m := by
  obtain ⟨u, h1, h2, h3⟩ := a
  exact ⟨u, h1, h2.mono hm, hm _ h3⟩
end MONO
theorem BA.at {h : Hp} {t : Nat} {T : List Nat} {g : Nat → Int32} (hg : ∀ j, j < T.length → g j = sb_b (T.getD j 0)) (hB : ∀ x ∈ T, x < 256) (hl : T.length ≤ 400) {k : Nat} (hk : k < T.length) : g (nI k).toNatClampNeg &&& nI 255 = nI (b1 T k) := by
  rw [nI_clamp (by omega), hg k hk]
  exact sb_and (b1_lt hB k)
section REF
variable {nb sa : Nat} {h : Hp} {f b : Nat} {B : List Nat} {r : List Value}
/-- a file's cell and its bytes -/
def HB (h : Hp) (f b : Nat) (B : List Nat) : Prop := (∃ r, h.2.2 f = some (true, .inr (8, .ref b :: r))) ∧ BA h b B
theorem c_MH_two (hB : HB h f b B) {p : Nat} (hp : p + 1 < B.length) : Ev (prog nb sa) m_MH_two [.ref f, .int (nI p)] h (some (.int (nI (b2 B p)))) h := by
  obtain ⟨⟨r, hf⟩, w, g, h1, h2, h3, h4⟩ := hB
  refine Ev_ofL k_MH_two 2 [some (.ref f), some (.int (nI p))] rfl (Nat.le_of_ble_eq_true rfl) rfl ?_
  refine Ex_mv rfl rfl ?_; refine Ex_getf rfl (by assumption) rfl ?_; refine Ex_mv rfl rfl ?_; refine Ex_iald rfl (by assumption) (vp_in_nI (by omega) (by omega)) ?_; refine Ex_mv rfl rfl ?_; refine Ex_iand rfl ?_; refine Ex_mv rfl rfl ?_; refine Ex_ishl rfl ?_; refine Ex_mv rfl rfl ?_; refine Ex_getf rfl (by assumption) rfl ?_; refine Ex_mv rfl rfl ?_; refine Ex_mv rfl rfl ?_; (first | refine Ex_addN rfl ?_ | refine Ex_mv rfl rfl ?_); refine Ex_iald rfl (by assumption) (vp_in_nI (by omega) (by omega)) ?_; refine Ex_mv rfl rfl ?_; refine Ex_iand rfl ?_; refine Ex_ior rfl ?_
  refine Ex_rt rfl rfl ⟨?_, rfl⟩
  rw [BA.at (h := h) (t := b) h2 h3 h4 (by omega), BA.at (h := h) (t := b) h2 h3 h4 (by omega), b2, if_pos hp, two_of (b1_lt h3 _) (b1_lt h3 _)]
theorem c_MH_four (hB : HB h f b B) {p : Nat} (hp : p + 3 < B.length) : Ev (prog nb sa) m_MH_four [.ref f, .int (nI p)] h (some (.int (nI (b4 B p)))) h := by
  obtain ⟨⟨r, hf⟩, w, g, h1, h2, h3, h4⟩ := id hB
  refine Ev_ofL k_MH_four 2 [some (.ref f), some (.int (nI p))] rfl (Nat.le_of_ble_eq_true rfl) rfl ?_
  refine Ex_mv rfl rfl ?_; refine Ex_mv rfl rfl ?_; refine Ex_invV rfl (by rfl) (by rfl) (by assumption) (by rfl) (c_MH_two hB (by omega)) ?_; refine Ex_mv rfl rfl ?_; refine Ex_ishl rfl ?_; refine Ex_mv rfl rfl ?_; refine Ex_mv rfl rfl ?_; refine Ex_mv rfl rfl ?_; (first | refine Ex_addN rfl ?_ | refine Ex_mv rfl rfl ?_); refine Ex_invV rfl (by rfl) (by rfl) (by assumption) (by rfl) (c_MH_two hB (by omega)) ?_; refine Ex_ior rfl ?_
  refine Ex_rt rfl rfl ⟨?_, rfl⟩
  rw [b4, ← or16 (b2_lt h3 _), ← shl16 (b2_lt h3 _)]
theorem c_MO_isIn {v lo hi : Nat} (hv : v < 2 ^ 31) (h1 : lo < 2 ^ 31) (h2 : hi < 2 ^ 31) : Ev (prog nb sa) m_MO_isIn [.int (nI v), .int (nI lo), .int (nI hi)] h (some (.int (nI (if lo ≤ v ∧ v ≤ hi then 1 else 0)))) h := by
  refine Ev_ofL k_MO_isIn 3 [some (.int (nI v)), some (.int (nI lo)), some (.int (nI hi))] rfl (Nat.le_of_ble_eq_true rfl) rfl ?_
  refine Ex_mv rfl rfl ?_; refine Ex_mv rfl rfl ?_; refine Ex_mv rfl rfl ?_; (first | refine Ex_ltN (by omega) (by omega) (fun b2 => ?_) (fun b2 => ?_) | refine Ex_if (fun b2 => ?_) (fun b2 => ?_))
  · refine Ex_mv rfl rfl ?_
    refine Ex_rt rfl rfl ⟨?_, rfl⟩
    first | (rw [if_pos (by omega)]; done) | (rw [if_neg (by omega)]; done)
  · refine Ex_mv rfl rfl ?_; refine Ex_mv rfl rfl ?_; refine Ex_mv rfl rfl ?_; (first | refine Ex_ltN (by omega) (by omega) (fun b7 => ?_) (fun b7 => ?_) | refine Ex_if (fun b7 => ?_) (fun b7 => ?_))
    · refine Ex_mv rfl rfl ?_
      refine Ex_rt rfl rfl ⟨?_, rfl⟩
      first | (rw [if_pos (by omega)]; done) | (rw [if_neg (by omega)]; done)
    · refine Ex_mv rfl rfl ?_; refine Ex_mv rfl rfl ?_
      refine Ex_rt rfl rfl ⟨?_, rfl⟩
      first | (rw [if_pos (by omega)]; done) | (rw [if_neg (by omega)]; done)
theorem c_MO_isInI {v lo hi : Int32} : Ev (prog nb sa) m_MO_isIn [.int v, .int lo, .int hi] h (some (.int (nI (if v < lo ∨ hi < v then 0 else 1)))) h := by
  refine Ev_ofL k_MO_isIn 3 [some (.int v), some (.int lo), some (.int hi)] rfl (Nat.le_of_ble_eq_true rfl) rfl ?_
  by_cases h1 : v < lo
  · rw [if_pos (Or.inl h1)]
    refine Ex_mv rfl rfl ?_; refine Ex_mv rfl rfl ?_; refine Ex_mv rfl rfl ?_; refine Ex_ift h1 ?_; refine Ex_mv rfl rfl ?_
    exact Ex_rt rfl rfl ⟨rfl, rfl⟩
  · by_cases h2 : hi < v
    · rw [if_pos (Or.inr h2)]
      refine Ex_mv rfl rfl ?_; refine Ex_mv rfl rfl ?_; refine Ex_mv rfl rfl ?_; refine Ex_iff h1 ?_; refine Ex_mv rfl rfl ?_; refine Ex_mv rfl rfl ?_; refine Ex_mv rfl rfl ?_; refine Ex_ift h2 ?_; refine Ex_mv rfl rfl ?_
      exact Ex_rt rfl rfl ⟨rfl, rfl⟩
    · rw [if_neg (fun q => q.elim h1 h2)]
      refine Ex_mv rfl rfl ?_; refine Ex_mv rfl rfl ?_; refine Ex_mv rfl rfl ?_; refine Ex_iff h1 ?_; refine Ex_mv rfl rfl ?_; refine Ex_mv rfl rfl ?_; refine Ex_mv rfl rfl ?_; refine Ex_iff h2 ?_; refine Ex_mv rfl rfl ?_; refine Ex_mv rfl rfl ?_
      exact Ex_rt rfl rfl ⟨rfl, rfl⟩
/-- an index that is in, or not -/
theorem c_MO_isIdx {v : Int32} {n : Nat} (hn : n < 2 ^ 31) : Ev (prog nb sa) m_MO_isIn [.int v, .int (nI 0), .int (nI n - nI 1)] h (some (.int (nI (if v < 0 then 0 else if v.toNatClampNeg < n then 1 else 0)))) h := by
  have e := c_MO_isInI (nb := nb) (sa := sa) (h := h) (v := v) (lo := nI 0) (hi := nI n - nI 1)
  have hq : (if v < nI 0 ∨ nI n - nI 1 < v then (0 : Nat) else 1) = (if v < 0 then 0 else if v.toNatClampNeg < n then 1 else 0) := by
    rcases i32_cases v with hv | ⟨k, hk, rfl⟩
    · rw [if_pos (show v < nI 0 ∨ nI n - nI 1 < v from Or.inl hv), if_pos hv]
    · rw [if_neg (nI_pos hk), nI_clamp hk]
      rcases Nat.eq_zero_or_pos n with z | z
      · subst z
        rw [if_pos (Or.inr (Int32.lt_of_lt_of_le (pk_sneg (by decide) (by decide)) (nI_pos' hk))), if_neg (by omega)]
      · rw [pk_sub z]
        by_cases hkn : k < n
        · rw [if_neg (fun q => q.elim (nI_pos hk) (fun y => by have := (nI_ltI (by omega) hk).mp y; omega)), if_pos hkn]
        · rw [if_pos (Or.inr (nI_lt (by omega) hk)), if_neg hkn]
  rw [hq] at e
  exact e
end REF
