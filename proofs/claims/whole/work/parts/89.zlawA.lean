/-! both sides side by side -/
section LAWA
variable {nb sa : Nat}
theorem c_MO_init {h : Hp} {m0 : Nat} (hA : h.2.2 m0 = some (true, .inr (11, [.int 0, .null, .int 0, .null, .int 0, .null, .null, .int 0, .int 0, .int 0, .null, .int 0, .null, .int 0, .null, .int 0, .null]))) (ha : h.1 = m0 + 1) : EvQ (prog nb sa) m_MO_init [.ref m0] h (fun v h' => v = none ∧ h'.1 = m0 + 7 ∧ h'.2.1 = h.2.1 + 966 ∧ (∀ q, q < m0 → h'.2.2 q = h.2.2 q) ∧ h'.2.2 m0 = some (true, .inr (11, MOl m0 0 ([], [], [], -1, []) (m0 + 3) (m0 + 4) .null 0 0 0 .null 0)) ∧ h'.2.2 (m0 + 1) = some (true, .inl (7, 6, .inr (.inr (.inr (.inr (fun _ => none)))))) ∧ h'.2.2 (m0 + 2) = some (true, .inl (0, 400, .inl (fun _ => 0))) ∧ h'.2.2 (m0 + 3) = some (true, .inl (0, 0, .inl (fun _ => 0))) ∧ h'.2.2 (m0 + 4) = some (true, .inl (10, 0, .inr (.inr (.inr (.inr (fun _ => none)))))) ∧ h'.2.2 (m0 + 5) = some (true, .inl (0, 408, .inl (fun _ => 0))) ∧ h'.2.2 (m0 + 6) = some (true, .inl (1, 152, .inl (fun _ => 0)))) := by
  refine EvQ_of k_MO_init 1 [some (.ref m0)] rfl (Nat.le_of_ble_eq_true rfl) rfl ?_
  refine Ex_mv rfl rfl ?_; refine Ex_mv rfl rfl ?_; refine Ex_mv rfl rfl ?_; refine Ex_mv rfl rfl ?_; refine Ex_newq rfl (vin (by decide)) ?_; refine Ex_putf rfl (hn_ne (by omega) hA) rfl rfl ?_
  generalize hg : hset (hnew h _ _) m0 _ = h1
  have s1 : h1.1 = m0 + 2 := by rw [← hg]; show h.1 + 1 = _; omega
  have s2 : h1.2.1 = h.2.1 + 6 := by rw [← hg]; rfl
  have s3 : ∀ q, q < m0 → h1.2.2 q = h.2.2 q := fun q hq => by rw [← hg]; exact (if_neg (by omega)).trans (if_neg (by omega))
  have s4 : h1.2.2 m0 = some (true, .inr (11, [.int 0, .ref (m0 + 1), .int 0, .null, .int 0, .null, .null, .int 0, .int 0, .int 0, .null, .int 0, .null, .int 0, .null, .int 0, .null])) := by rw [← hg, hs_at, ha]; rfl
  have s5 : h1.2.2 (m0 + 1) = some (true, .inl (7, 6, .inr (.inr (.inr (.inr (fun _ => none)))))) := by rw [← hg, ← ha]; exact hs_ne (by omega) hn_at
  clear hg
  refine Ex_mv rfl rfl ?_; refine Ex_mv rfl rfl ?_; refine Ex_newi rfl (vin (by decide)) ?_; refine Ex_putf rfl (hn_ne (by omega) s4) rfl rfl ?_
  generalize hg : hset (hnew h1 _ _) m0 _ = h2
  have t1 : h2.1 = m0 + 3 := by rw [← hg]; show h1.1 + 1 = _; omega
  have t2 : h2.2.1 = h.2.1 + 406 := by rw [← hg]; show h1.2.1 + 400 = _; omega
  have t3 : ∀ q, q < m0 + 2 → q ≠ m0 → h2.2.2 q = h1.2.2 q := fun q hq hf => by rw [← hg]; exact (if_neg hf).trans (if_neg (by omega))
  have t4 : h2.2.2 m0 = some (true, .inr (11, [.int 0, .ref (m0 + 1), .int 0, .ref (m0 + 2), .int 0, .null, .null, .int 0, .int 0, .int 0, .null, .int 0, .null, .int 0, .null, .int 0, .null])) := by rw [← hg, hs_at, s1]; rfl
  have t5 : h2.2.2 (m0 + 2) = some (true, .inl (0, 400, .inl (fun _ => 0))) := by rw [← hg, ← s1]; exact hs_ne (by omega) hn_at
  clear hg
  refine Ex_mv rfl rfl ?_; refine Ex_mv rfl rfl ?_; refine Ex_newi rfl (vin (by decide)) ?_; refine Ex_putf rfl (hn_ne (by omega) t4) rfl rfl ?_
  generalize hg : hset (hnew h2 _ _) m0 _ = h3
  have u1 : h3.1 = m0 + 4 := by rw [← hg]; show h2.1 + 1 = _; omega
  have u2 : h3.2.1 = h.2.1 + 406 := by rw [← hg]; show h2.2.1 + 0 = _; omega
  have u3 : ∀ q, q < m0 + 3 → q ≠ m0 → h3.2.2 q = h2.2.2 q := fun q hq hf => by rw [← hg]; exact (if_neg hf).trans (if_neg (by omega))
  have u4 : h3.2.2 m0 = some (true, .inr (11, [.int 0, .ref (m0 + 1), .int 0, .ref (m0 + 2), .int 0, .ref (m0 + 3), .null, .int 0, .int 0, .int 0, .null, .int 0, .null, .int 0, .null, .int 0, .null])) := by rw [← hg, hs_at, t1]; rfl
  have u5 : h3.2.2 (m0 + 3) = some (true, .inl (0, 0, .inl (fun _ => 0))) := by rw [← hg, ← t1]; exact hs_ne (by omega) hn_at
  clear hg
  refine Ex_mv rfl rfl ?_; refine Ex_mv rfl rfl ?_; refine Ex_putf rfl u4 rfl rfl ?_
  refine Ex_mv rfl rfl ?_; refine Ex_mv rfl rfl ?_; refine Ex_newq rfl (vin (by decide)) ?_; refine Ex_putf rfl (hn_ne (show m0 ≠ h3.1 by omega) hs_at) rfl rfl ?_
  generalize hg : hset (hnew (hset h3 m0 _) _ _) m0 _ = h4
  have v1 : h4.1 = m0 + 5 := by rw [← hg]; show h3.1 + 1 = _; omega
  have v2 : h4.2.1 = h.2.1 + 406 := by rw [← hg]; show h3.2.1 + 0 = _; omega
  have v3 : ∀ q, q < m0 + 4 → q ≠ m0 → h4.2.2 q = h3.2.2 q := fun q hq hf => by rw [← hg]; exact (if_neg hf).trans ((if_neg (show q ≠ h3.1 by omega)).trans (if_neg hf))
  have v4 : h4.2.2 m0 = some (true, .inr (11, [.int 0, .ref (m0 + 1), .int 0, .ref (m0 + 2), .int 0, .ref (m0 + 3), .null, .int 0, .int 0, .int (-1), .ref (m0 + 4), .int 0, .null, .int 0, .null, .int 0, .null])) := by rw [← hg, hs_at, show (hset h3 m0 _).1 = m0 + 4 from u1]; rfl
  have v5 : h4.2.2 (m0 + 4) = some (true, .inl (10, 0, .inr (.inr (.inr (.inr (fun _ => none)))))) := by rw [← hg, ← u1]; exact hs_ne (by omega) (if_pos rfl)
  clear hg
  refine Ex_mv rfl rfl ?_; refine Ex_mv rfl rfl ?_; refine Ex_newi rfl (vin (by decide)) ?_; refine Ex_putf rfl (hn_ne (by omega) v4) rfl rfl ?_
  generalize hg : hset (hnew h4 _ _) m0 _ = h5
  have w1 : h5.1 = m0 + 6 := by rw [← hg]; show h4.1 + 1 = _; omega
  have w2 : h5.2.1 = h.2.1 + 814 := by rw [← hg]; show h4.2.1 + 408 = _; omega
  have w3 : ∀ q, q < m0 + 5 → q ≠ m0 → h5.2.2 q = h4.2.2 q := fun q hq hf => by rw [← hg]; exact (if_neg hf).trans (if_neg (by omega))
  have w4 : h5.2.2 m0 = some (true, .inr (11, [.int 0, .ref (m0 + 1), .int 0, .ref (m0 + 2), .int 0, .ref (m0 + 3), .null, .int 0, .int 0, .int (-1), .ref (m0 + 4), .int 0, .ref (m0 + 5), .int 0, .null, .int 0, .null])) := by rw [← hg, hs_at, v1]; rfl
  have w5 : h5.2.2 (m0 + 5) = some (true, .inl (0, 408, .inl (fun _ => 0))) := by rw [← hg, ← v1]; exact hs_ne (by omega) hn_at
  clear hg
  refine Ex_mv rfl rfl ?_; refine Ex_mv rfl rfl ?_; refine Ex_newi rfl (vin (by decide)) ?_; refine Ex_putf rfl (hn_ne (by omega) w4) rfl rfl ?_
  generalize hg : hset (hnew h5 _ _) m0 _ = h6
  have x1 : h6.1 = m0 + 7 := by rw [← hg]; show h5.1 + 1 = _; omega
  have x2 : h6.2.1 = h.2.1 + 966 := by rw [← hg]; show h5.2.1 + 152 = _; omega
  have x3 : ∀ q, q < m0 + 6 → q ≠ m0 → h6.2.2 q = h5.2.2 q := fun q hq hf => by rw [← hg]; exact (if_neg hf).trans (if_neg (by omega))
  have x4 : h6.2.2 m0 = some (true, .inr (11, [.int 0, .ref (m0 + 1), .int 0, .ref (m0 + 2), .int 0, .ref (m0 + 3), .null, .int 0, .int 0, .int (-1), .ref (m0 + 4), .int 0, .ref (m0 + 5), .int 0, .null, .int 0, .ref (m0 + 6)])) := by rw [← hg, hs_at, w1]; rfl
  have x5 : h6.2.2 (m0 + 6) = some (true, .inl (1, 152, .inl (fun _ => 0))) := by rw [← hg, ← w1]; exact hs_ne (by omega) hn_at
  clear hg
  refine Ex_rt rfl rfl ⟨rfl, x1, x2, fun q hq => ?_, x4, ?_, ?_, ?_, ?_, ?_, x5⟩
  · rw [x3 q (by omega) (by omega), w3 q (by omega) (by omega), v3 q (by omega) (by omega), u3 q (by omega) (by omega), t3 q (by omega) (by omega), s3 q hq]
  · rw [x3 _ (by omega) (by omega), w3 _ (by omega) (by omega), v3 _ (by omega) (by omega), u3 _ (by omega) (by omega), t3 _ (by omega) (by omega)]; exact s5
  · rw [x3 _ (by omega) (by omega), w3 _ (by omega) (by omega), v3 _ (by omega) (by omega), u3 _ (by omega) (by omega)]; exact t5
  · rw [x3 _ (by omega) (by omega), w3 _ (by omega) (by omega), v3 _ (by omega) (by omega)]; exact u5
  · rw [x3 _ (by omega) (by omega), w3 _ (by omega) (by omega)]; exact v5
  · rw [x3 _ (by omega) (by omega)]; exact w5
theorem MOs.fc {h h' : Hp} {m0 c0 c : Nat} {s : Sg} (hS : MOs h m0 nb sa s c) (F : FC c0 h h') (hm : m0 = c0 + 131) : MOs h' m0 nb sa s c := by
  have h7 := hS.h7
  obtain ⟨O, J, nw, a', fl, ms, od, oc, hc, hR⟩ := hS
  have k : ∀ q, q < h.1 → (q < c0 ∨ c0 + 131 ≤ q) → h'.2.2 q = h.2.2 q := F.2.2.2.2
  exact ⟨O, J, nw, a', fl, ms, od, oc, (k _ (by omega) (by omega)).trans hc, hR.eq ⟨F.1, F.2.2.1, fun q hq => k q hq.1 (by have := hq.2; simp only [muM] at this; omega)⟩ (k _ (by omega) (by omega)) (k _ (by omega) (by omega)) (k _ (by omega) (by omega)) (k _ (by omega) (by omega))⟩
theorem CPs.fx {h h' : Hp} {m0 c0 c k : Nat} {s : Sg} (hS : CPs h c0 s) (F : FX m0 h h' c k) (hm : m0 = c0 + 131) (hh : m0 ≤ h.1) : CPs h' c0 s := hS.eq (fun q h1 h2 => F.1.2 q (by omega) (by omega))
/-- a good state, from its parts -/
theorem SgG.of {h : Hp} {c0 : Nat} {s : Sg} (hC : CPs h c0 s) (h1 : ∀ z ∈ s.2.2.1, GG z.1 z.2 ∧ z.1.length ≤ 400 ∧ ∀ x ∈ z.1, x < 256) (h2 : SoM s.2.2.2.2) (h3 : ∀ m ∈ s.2.2.2.2, m.1 ≠ 0) (h4 : s.2.2.2.2.length ≤ 150) : SgG s := by
  obtain ⟨hT, hO⟩ := hC.rows
  obtain ⟨P, Fn, kr, kt, g, -, -, -, -, -, -, -, -, -, -, -, -, hl⟩ := hC
  exact ⟨fun z hz => (h1 z hz).1, h2, h3, hl, hT.len, hO.len, hT.lt, hO.lt, h4, fun z hz => (h1 z hz).2⟩
theorem SgG.fl {s : Sg} (hG : SgG s) : ∀ z ∈ s.2.2.1, GG z.1 z.2 ∧ z.1.length ≤ 400 ∧ ∀ x ∈ z.1, x < 256 := fun z hz => ⟨hG.1 z hz, (hG.2.2.2.2.2.2.2.2.2 z hz).1, (hG.2.2.2.2.2.2.2.2.2 z hz).2⟩
theorem SgG.jn {s : Sg} (hG : SgG s) : SoM s.2.2.2.2 ∧ (∀ m ∈ s.2.2.2.2, m.1 ≠ 0) ∧ s.2.2.2.2.length ≤ 150 := ⟨hG.2.1, hG.2.2.1, hG.2.2.2.2.2.2.2.2.1⟩
/-- the same files and the same order -/
theorem SgG.re {h : Hp} {c0 : Nat} {s s' : Sg} (hG : SgG s) (hC : CPs h c0 s') (h1 : s'.2.2.1 = s.2.2.1) (h2 : s'.2.2.2.2 = s.2.2.2.2) : SgG s' := SgG.of hC (by rw [h1]; exact hG.fl) (by rw [h2]; exact hG.jn.1) (by rw [h2]; exact hG.jn.2.1) (by rw [h2]; exact hG.jn.2.2)
theorem addS_ok {B : List Nat} {S : Nat → Nat} {n : Nat} : ∀ (d i : Nat) (M M' : List Mng), SoM M → (∀ m ∈ M, m.1 ≠ 0) → M.length ≤ 150 → addS B S n d i M = some M' → SoM M' ∧ (∀ m ∈ M', m.1 ≠ 0) ∧ M'.length ≤ 150
  | 0, i, M, M', h1, h2, h3, e => by
    simp only [addS, Option.some.injEq] at e
    rw [← e]; exact ⟨h1, h2, h3⟩
  | d + 1, i, M, M', h1, h2, h3, e => by
    unfold addS at e
    split at e
    · exact addS_ok d (i + 1) M M' h1 h2 h3 e
    · next ht =>
      split at e
      · exact addS_ok d (i + 1) M M' h1 h2 h3 e
      · next hm =>
        split at e
        · cases e
        · refine addS_ok d (i + 1) _ M' (insM_so M h1) (fun m hm' => ?_) ?_ e
          · rcases (insM_mem M).mp hm' with q | q
            · rw [q]; exact ht
            · exact h2 m q
          · rw [insM_new M hm]
            simp only [List.length_append, List.length_cons, List.length_take, List.length_drop]
            omega
theorem jnM_ok : ∀ (L : List Fl) (M M' : List Mng), SoM M → (∀ m ∈ M, m.1 ≠ 0) → M.length ≤ 150 → jnM L M = some M' → SoM M' ∧ (∀ m ∈ M', m.1 ≠ 0) ∧ M'.length ≤ 150
  | [], M, M', h1, h2, h3, e => by
    simp only [jnM, Option.some.injEq] at e
    rw [← e]; exact ⟨h1, h2, h3⟩
  | z :: L, M, M', h1, h2, h3, e => by
    unfold jnM at e
    split at e
    · cases e
    · next M1 hM1 =>
      obtain ⟨q1, q2, q3⟩ := addS_ok _ _ _ _ h1 h2 h3 hM1
      exact jnM_ok L M1 M' q1 q2 q3 e
theorem SgG.join {h : Hp} {c0 : Nat} {s : Sg} (hG : SgG s) (hC : CPs h c0 (s.1, s.2.1, s.2.2.1, s.2.2.2.1, (q_join s).2)) : SgG (s.1, s.2.1, s.2.2.1, s.2.2.2.1, (q_join s).2) := by
  have k : SoM (q_join s).2 ∧ (∀ m ∈ (q_join s).2, m.1 ≠ 0) ∧ (q_join s).2.length ≤ 150 := by
    unfold q_join
    cases e : jnM s.2.2.1 [] with
    | none => exact hG.jn
    | some M => exact jnM_ok _ [] M trivial (fun m hm => by cases hm) (Nat.zero_le _) e
  exact SgG.of hC hG.fl k.1 k.2.1 k.2.2
theorem SgG.read {h : Hp} {c0 : Nat} {s : Sg} (hG : SgG s) (hC : CPs h c0 (q_read s).2) : SgG (q_read s).2 := by
  have k : (∀ z ∈ (q_read s).2.2.2.1, GG z.1 z.2 ∧ z.1.length ≤ 400 ∧ ∀ x ∈ z.1, x < 256) ∧ (q_read s).2.2.2.2.2 = s.2.2.2.2 := by
    unfold q_read
    split
    · exact ⟨hG.fl, rfl⟩
    · cases e : p_read s.1 with
      | inl q => exact ⟨hG.fl, rfl⟩
      | inr q =>
        obtain ⟨a, x⟩ := q
        refine ⟨fun z hz => ?_, rfl⟩
        have hz' : z ∈ s.2.2.1 ++ [(s.1, x)] := hz
        rcases List.mem_append.mp hz' with q | q
        · exact hG.fl z q
        · have := List.mem_singleton.mp q
          subst this
          exact ⟨read_ok e, hG.2.2.2.2.1, hG.2.2.2.2.2.2.1⟩
  exact SgG.of hC k.1 (by rw [k.2]; exact hG.jn.1) (by rw [k.2]; exact hG.jn.2.1) (by rw [k.2]; exact hG.jn.2.2)
theorem SgG.drop {h : Hp} {c0 : Nat} {s : Sg} {f : Int32} (hG : SgG s) (hC : CPs h c0 (s.1, s.2.1, (q_drop s.2.2.1 f).2, s.2.2.2)) : SgG (s.1, s.2.1, (q_drop s.2.2.1 f).2, s.2.2.2) := by
  have k : ∀ z ∈ (q_drop s.2.2.1 f).2, z ∈ s.2.2.1 := by
    unfold q_drop
    split
    · exact fun z hz => hz
    · exact fun z hz => List.mem_of_mem_eraseIdx hz
  exact SgG.of hC (fun z hz => hG.fl z (k z hz)) hG.jn.1 hG.jn.2.1 hG.jn.2.2
/-- a long laid by, or what was thrown -/
theorem Ex_lxI {P : Pg} {cd : Cd} {pc nx : Nat} {ls : Ls} {st : List Value} {h : Hp} {k : Int32} {R : Option Value → Hp → Prop} (hc : cd pc = some (o_lx nx)) (hR : R (some (.int k)) h) : Ex P cd pc ls (.int k :: st) h R := Ex_rt hc rfl hR
theorem Ex_lxL {P : Pg} {cd : Cd} {pc nx a n : Nat} {ls : Ls} {st : List Value} {h : Hp} {f : Nat → Int64} {i : Int32} {x : Int64} {R : Option Value → Hp → Prop} (hc : cd pc = some (o_lx nx)) (hM : h.2.2 a = some (true, .inl (2, n, .inr (.inl f)))) (hi : vp_in i n) (kk : Ex P cd nx ls st (hset h a (.inl (2, n, .inr (.inl (vp_updL f i.toNatClampNeg x))))) R) : Ex P cd pc ls (.long x :: .int i :: .ref a :: st) h R := by
  refine Ex_go hc (pc' := nx) (ls' := ls) (st' := st) ?_ (h1 := hset h a _) (by simp [hle, hset]) kk
  show o_last nx ls (.long x :: .int i :: .ref a :: st) h = _
  simp only [o_last, hM, Nat.beq_refl, in_inb hi, Bool.and_self, cond_true]
theorem c_LW_number {h : Hp} {c0 o : Nat} {gl : Nat → Int64} {s : Sg} (hC : CPs h c0 s) (ho : h.2.2 o = some (true, .inl (2, 1, .inr (.inl gl)))) (hoc : c0 + 131 ≤ o) (hoh : o < h.1) (f i : Int32) : EvQ (prog nb sa) m_LW_number [.ref c0, .int f, .int i, .ref o] h (fun v h' => v = some (.int (nI (q_num (fA s.2.2.1 f) i).1)) ∧ CPs h' c0 s ∧ h.1 ≤ h'.1 ∧ h'.1 ≤ h.1 + 1 ∧ h.2.1 ≤ h'.2.1 ∧ h'.2.1 ≤ h.2.1 + 8 ∧ (∀ q, q < h.1 → (q < c0 ∨ c0 + 131 ≤ q) → q ≠ o → h'.2.2 q = h.2.2 q) ∧ ∃ gl', h'.2.2 o = some (true, .inl (2, 1, .inr (.inl gl'))) ∧ ((q_num (fA s.2.2.1 f) i).1 = 0 → gl' 0 = (q_num (fA s.2.2.1 f) i).2)) := by
  obtain ⟨_, h1, e1, rfl, C1, F1⟩ := c_CP_number (nb := nb) (sa := sa) hC f i
  obtain ⟨kr, kt, hc⟩ := hC.cell
  have ho1 : h1.2.2 o = _ := (F1.2.2.2.2 o hoh (by omega)).trans ho
  refine EvQ_of k_LW_number 5 [some (.ref c0), some (.int f), some (.int i), some (.ref o), none] rfl (Nat.le_of_ble_eq_true rfl) rfl ?_
  refine Ex_mv rfl rfl ?_; refine Ex_mv rfl rfl ?_; refine Ex_mv rfl rfl ?_; refine Ex_mv rfl rfl ?_; refine Ex_mv rfl rfl ?_
  refine Ex_invV rfl (by rfl) (by rfl) hc (by rfl) e1 ?_
  unfold vnum
  by_cases c0' : (q_num (fA s.2.2.1 f) i).1 = 0
  · rw [if_pos c0']
    have e0 : (nI 0).toNatClampNeg = 0 := by decide
    refine Ex_lxL rfl ho1 (vp_in_nI (by decide) (by decide)) ?_
    refine Ex_mv rfl rfl ?_; refine Ex_mv rfl rfl ?_
    refine Ex_rt rfl rfl ⟨by rw [c0'], C1.eq (fun q q1 q2 => if_neg (by omega)), F1.1, F1.2.1, F1.2.2.1, F1.2.2.2.1, fun q q1 q2 q3 => (if_neg q3).trans (F1.2.2.2.2 q q1 q2), _, hs_at, fun _ => ?_⟩
    rw [e0]; simp [vp_updL]
  · rw [if_neg c0']
    exact Ex_lxI rfl ⟨rfl, C1, F1.1, F1.2.1, F1.2.2.1, F1.2.2.2.1, fun q q1 q2 q3 => F1.2.2.2.2 q q1 q2, gl, ho1, fun z => absurd z c0'⟩
end LAWA
