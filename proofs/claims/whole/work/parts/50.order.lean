/-! a pool in order: counting, bytes -/
theorem insM_len (m : Mng) : ∀ L : List Mng, (insM L m).length ≤ L.length + 1
  | [] => Nat.le_refl _
  | x :: r => by
    unfold insM
    have := insM_len m r
    split
    · simp only [List.length_cons]; omega
    · split
      · simp only [List.length_cons]; omega
      · simp only [List.length_cons]; omega
theorem addS_some {B : List Nat} {S : Nat → Nat} {n : Nat} : ∀ (d i : Nat) (M : List Mng), SoM M → M.length + d ≤ 150 → ∃ M', addS B S n d i M = some M' ∧ SoM M' ∧ (∀ m ∈ M, m ∈ M') ∧ (∀ j, i ≤ j → j < i + d → tg B S n j ≠ 0 → mng B S n j ∈ M') ∧ (∀ m ∈ M', m ∈ M ∨ ∃ j, i ≤ j ∧ j < i + d ∧ tg B S n j ≠ 0 ∧ m = mng B S n j)
  | 0, i, M, hs, hl => ⟨M, rfl, hs, fun _ h => h, fun j h1 h2 => by omega, fun m h => Or.inl h⟩
  | d + 1, i, M, hs, hl => by
    rw [addS]
    by_cases e0 : tg B S n i = 0
    · rw [if_pos e0]
      obtain ⟨M', a1, a2, a3, a4, a5⟩ := addS_some (B := B) (S := S) (n := n) d (i + 1) M hs (by omega)
      refine ⟨M', a1, a2, a3, fun j h1 h2 h3 => ?_, fun m hm => ?_⟩
      · by_cases e : j = i
        · rw [e] at h3; exact absurd e0 h3
        · exact a4 j (by omega) (by omega) h3
      · rcases a5 m hm with q | ⟨j, q1, q2, q3⟩
        · exact Or.inl q
        · exact Or.inr ⟨j, by omega, by omega, q3⟩
    · rw [if_neg e0]
      by_cases e1 : mng B S n i ∈ M
      · rw [if_pos e1]
        obtain ⟨M', a1, a2, a3, a4, a5⟩ := addS_some (B := B) (S := S) (n := n) d (i + 1) M hs (by omega)
        refine ⟨M', a1, a2, a3, fun j h1 h2 h3 => ?_, fun m hm => ?_⟩
        · by_cases e : j = i
          · rw [e]; exact a3 _ e1
          · exact a4 j (by omega) (by omega) h3
        · rcases a5 m hm with q | ⟨j, q1, q2, q3⟩
          · exact Or.inl q
          · exact Or.inr ⟨j, by omega, by omega, q3⟩
      · rw [if_neg e1, if_neg (by omega)]
        have hl2 := insM_len (mng B S n i) M
        obtain ⟨M', a1, a2, a3, a4, a5⟩ := addS_some (B := B) (S := S) (n := n) d (i + 1) (insM M (mng B S n i)) (insM_so M hs) (by omega)
        refine ⟨M', a1, a2, fun m hm => a3 m ((insM_mem M).mpr (Or.inr hm)), fun j h1 h2 h3 => ?_, fun m hm => ?_⟩
        · by_cases e : j = i
          · rw [e]; exact a3 _ ((insM_mem M).mpr (Or.inl rfl))
          · exact a4 j (by omega) (by omega) h3
        · rcases a5 m hm with q | ⟨j, q1, q2, q3⟩
          · rcases (insM_mem M).mp q with q | q
            · exact Or.inr ⟨i, Nat.le_refl _, by omega, e0, q⟩
            · exact Or.inl q
          · exact Or.inr ⟨j, by omega, by omega, q3⟩
/-- sums over places -/
def sumF (f : Nat → Nat) : List Nat → Nat
  | [] => 0
  | i :: I => f i + sumF f I
def sumN (f : Nat → Nat) : Nat → Nat
  | 0 => 0
  | i + 1 => sumN f i + f (i + 1)
theorem sumF_erase (f : Nat → Nat) {N : Nat} : ∀ P : List Nat, N ∈ P → sumF f P = f N + sumF f (P.erase N)
  | [], h => by cases h
  | i :: P, h => by
    by_cases e : i = N
    · subst e; rw [List.erase_cons_head]; rfl
    · rw [List.erase_cons_tail (by simpa using e)]
      have hm : N ∈ P := by rcases List.mem_cons.mp h with q | q; exact absurd q.symm e; exact q
      rw [sumF, sumF, sumF_erase f P hm]; omega
theorem sumF_le (f : Nat → Nat) : ∀ (N : Nat) (P : List Nat), P.Nodup → (∀ i ∈ P, 1 ≤ i ∧ i ≤ N) → sumF f P ≤ sumN f N
  | 0, P, hn, hp => by
    cases P with
    | nil => exact Nat.le_refl _
    | cons i P => have := hp i List.mem_cons_self; omega
  | N + 1, P, hn, hp => by
    rw [sumN]
    by_cases h : N + 1 ∈ P
    · rw [sumF_erase f P h]
      have := sumF_le f N (P.erase (N + 1)) (hn.erase _) (fun i hi => by
        have h1 := hp i (List.mem_of_mem_erase hi)
        have h2 : i ≠ N + 1 := fun e => by subst e; exact (List.Nodup.not_mem_erase hn) hi
        omega)
      omega
    · have := sumF_le f N P hn (fun i hi => by
        have h1 := hp i hi
        have h2 : i ≠ N + 1 := fun e => by subst e; exact h hi
        omega)
      omega
theorem zS_sum {B : List Nat} {S : Nat → Nat} : ∀ N, zS B S N = sumN (fun i => if S i = 0 then 0 else eSz B (S i)) N
  | 0 => rfl
  | N + 1 => by rw [zS, sumN, zS_sum N]
theorem zW_sum {B : List Nat} {S : Nat → Nat} : ∀ N, zW B S N = sumN (fun i => if S i = 0 then 0 else wst (b1 B (S i))) N
  | 0 => rfl
  | N + 1 => by rw [zW, sumN, zW_sum N]
theorem sBof_sum {B : List Nat} {S : Nat → Nat} {n : Nat} {f : Nat → Nat} : ∀ P : List Nat, (∀ i ∈ P, bof B S n i = f i) → sBof B S n P = sumF f P
  | [], _ => rfl
  | i :: P, h => by rw [sBof, sumF, sBof_sum P (fun j hj => h j (List.mem_cons_of_mem _ hj)), h i List.mem_cons_self]
theorem hpM_sum : ∀ (M : List Mng), hpM M M.length = 1 + (M.map (fun m => wst m.1)).sum
  | [] => rfl
  | m :: M => by
    show hpM M M.length + wst m.1 = _
    rw [hpM_sum M, List.map_cons, List.sum_cons]; omega
theorem sumF_map {f : Nat → Nat} {g : Mng → Nat} {e : Nat → Mng} : ∀ P : List Nat, (∀ i ∈ P, g (e i) = f i) → ((P.map e).map g).sum = sumF f P
  | [], _ => rfl
  | i :: P, h => by
    rw [List.map_cons, List.map_cons, List.sum_cons, sumF, sumF_map P (fun j hj => h j (List.mem_cons_of_mem _ hj)), h i List.mem_cons_self]
theorem SoM_nodup : ∀ M : List Mng, SoM M → M.Nodup
  | [], _ => List.nodup_nil
  | m :: M, h => List.nodup_cons.mpr ⟨fun hm => ltM_ne (h.1 m hm) rfl, SoM_nodup M h.2⟩
theorem nodup_of_map {e : Nat → Mng} : ∀ P : List Nat, (P.map e).Nodup → P.Nodup
  | [], _ => List.nodup_nil
  | i :: P, h => by
    rw [List.map_cons, List.nodup_cons] at h
    exact List.nodup_cons.mpr ⟨fun hm => h.1 (List.mem_map.mpr ⟨i, hm, rfl⟩), nodup_of_map P h.2⟩
theorem hpM_mono : ∀ (M : List Mng) (r : Nat), hpM M r ≤ hpM M M.length
  | [], 0 => Nat.le_refl _
  | [], _ + 1 => Nat.le_refl _
  | m :: M, 0 => hpM_pos (m :: M) _
  | m :: M, r + 1 => by
    have := hpM_mono M r
    show hpM M r + wst m.1 ≤ hpM M M.length + wst m.1
    omega
/-- the bytes of a number of two, of four -/
def tw2 (v : Nat) : List Nat := [v / 256, v % 256]
def f4 (v : Int32) : List Nat := [lowb ((v >>> (nI 16 &&& 31)) >>> (nI 8 &&& 31)), lowb (v >>> (nI 16 &&& 31)), lowb (v >>> (nI 8 &&& 31)), lowb v]
/-- the place that a meaning gets -/
noncomputable def plM (M : List Mng) (m : Mng) : Nat := hpM M (lowM M m)
/-- the bytes that a meaning gets -/
noncomputable def eOM (M : List Mng) (m : Mng) : List Nat := m.1 ::
  (if m.1 = 1 then tw2 m.2.2.1.length ++ m.2.2.1
  else if m.1 = 3 ∨ m.1 = 4 then f4 m.2.1.toInt32
  else if m.1 = 5 ∨ m.1 = 6 then f4 (m.2.1 >>> ((nI 32).toInt64 &&& 63)).toInt32 ++ f4 m.2.1.toInt32
  else if m.1 = 7 ∨ m.1 = 8 then tw2 (plM M (1, 0, m.2.2.1, [], []))
  else if m.1 = 12 then tw2 (plM M (1, 0, m.2.2.1, [], [])) ++ tw2 (plM M (1, 0, m.2.2.2.1, [], []))
  else tw2 (plM M (7, 0, m.2.2.1, [], [])) ++ tw2 (plM M (12, 0, m.2.2.2.1, m.2.2.2.2, [])))
theorem lowb_toInt (x : Int32) : (lowb x : Int) = x.toInt % 256 := by
  unfold lowb
  have h1 : x.toInt = x.toBitVec.toInt := rfl
  rw [h1, BitVec.toInt_eq_toNat_cond]
  have := x.toBitVec.isLt
  split <;> omega
theorem shr_toInt (x : Int32) (k : Int32) (j : Nat) (hk : (k &&& 31).toBitVec.smod 32 = BitVec.ofNat 32 j) (hj : j < 32) : (x >>> (k &&& 31)).toInt = x.toInt / (2 ^ j : Nat) := by
  show ((x.toBitVec.sshiftRight' ((k &&& 31).toBitVec.smod 32))).toInt = _
  rw [hk, BitVec.sshiftRight', BitVec.toInt_sshiftRight, BitVec.toNat_ofNat, Nat.mod_eq_of_lt (by omega), Int.shiftRight_eq_div_pow]
  rfl
theorem f4_nI {a b c d : Nat} (ha : a < 256) (hb : b < 256) (hc : c < 256) (hd : d < 256) : f4 (nI (65536 * (256 * a + b) + (256 * c + d))) = [a, b, c, d] := by
  have e16 : ((nI 16) &&& 31).toBitVec.smod 32 = BitVec.ofNat 32 16 := by decide
  have e8 : ((nI 8) &&& 31).toBitVec.smod 32 = BitVec.ofNat 32 8 := by decide
  have hv : (nI (65536 * (256 * a + b) + (256 * c + d))).toInt = (65536 * (256 * a + b) + (256 * c + d) : Nat) ∨ (nI (65536 * (256 * a + b) + (256 * c + d))).toInt = (65536 * (256 * a + b) + (256 * c + d) : Nat) - 4294967296 := by
    have h1 : (nI (65536 * (256 * a + b) + (256 * c + d))).toInt = (BitVec.ofNat 32 (65536 * (256 * a + b) + (256 * c + d))).toInt := rfl
    rw [h1, BitVec.toInt_eq_toNat_cond, BitVec.toNat_ofNat, Nat.mod_eq_of_lt (by omega)]
    split <;> omega
  generalize hx : nI (65536 * (256 * a + b) + (256 * c + d)) = x at hv
  have l0 := lowb_toInt x
  have l1 := lowb_toInt (x >>> (nI 8 &&& 31))
  have l2 := lowb_toInt (x >>> (nI 16 &&& 31))
  have l3 := lowb_toInt ((x >>> (nI 16 &&& 31)) >>> (nI 8 &&& 31))
  rw [shr_toInt _ _ 8 e8 (by decide)] at l1
  rw [shr_toInt _ _ 16 e16 (by decide)] at l2
  rw [shr_toInt _ _ 8 e8 (by decide), shr_toInt _ _ 16 e16 (by decide)] at l3
  unfold f4
  have g0 : lowb x = d := by omega
  have g1 : lowb (x >>> (nI 8 &&& 31)) = c := by omega
  have g2 : lowb (x >>> (nI 16 &&& 31)) = b := by omega
  have g3 : lowb ((x >>> (nI 16 &&& 31)) >>> (nI 8 &&& 31)) = a := by omega
  rw [g0, g1, g2, g3]
theorem msk32 : ∀ i, i < 64 → (4294967295#64).getLsbD i = decide (i < 32) := by decide
theorem bt64_bv (hi lo : Int32) : (bt64 hi lo).toBitVec = (hi.toBitVec.signExtend 64) <<< 32 ||| (lo.toBitVec.signExtend 64 &&& 4294967295#64) := by
  unfold bt64
  show (hi.toBitVec.signExtend 64) <<< (((nI 32).toInt64 &&& 63).toBitVec.smod 64) ||| (lo.toBitVec.signExtend 64 &&& (4294967295 : Int64).toBitVec) = _
  rw [show ((nI 32).toInt64 &&& 63).toBitVec.smod 64 = BitVec.ofNat 64 32 from by decide]
  rfl
theorem bt64_lo (hi lo : Int32) : (bt64 hi lo).toInt32 = lo := by
  apply Int32.toBitVec_inj.mp
  apply BitVec.eq_of_getLsbD_eq
  intro i hi'
  show (BitVec.signExtend 32 (bt64 hi lo).toBitVec).getLsbD i = _
  rw [bt64_bv, BitVec.signExtend_eq_setWidth_of_le _ (by decide)]
  simp only [BitVec.getLsbD_setWidth, BitVec.getLsbD_or, BitVec.getLsbD_and, BitVec.getLsbD_shiftLeft, BitVec.getLsbD_signExtend, msk32 i (by omega)]
  simp [hi', show i < 64 by omega]
theorem bt64_hi (hi lo : Int32) : (bt64 hi lo >>> ((nI 32).toInt64 &&& 63)).toInt32 = hi := by
  apply Int32.toBitVec_inj.mp
  apply BitVec.eq_of_getLsbD_eq
  intro i hi'
  show (BitVec.signExtend 32 ((bt64 hi lo).toBitVec.sshiftRight' (((nI 32).toInt64 &&& 63).toBitVec.smod 64))).getLsbD i = _
  rw [show ((nI 32).toInt64 &&& 63).toBitVec.smod 64 = BitVec.ofNat 64 32 from by decide, bt64_bv, BitVec.signExtend_eq_setWidth_of_le _ (by decide)]
  simp only [BitVec.sshiftRight', BitVec.getLsbD_setWidth, BitVec.getLsbD_sshiftRight, BitVec.getLsbD_or, BitVec.getLsbD_and, BitVec.getLsbD_shiftLeft, BitVec.getLsbD_signExtend, BitVec.toNat_ofNat]
  rw [show 32 % 2 ^ 64 = 32 by decide, msk32 (32 + i) (by omega)]
  simp [hi', show ¬ 64 ≤ i by omega, show 32 + i < 64 by omega, show ¬ 32 + i < 32 by omega, show i < 64 by omega]
theorem i64_32 (v : Int32) : v.toInt64.toInt32 = v := by simp
section ORDER
variable {B : List Nat} {x : Fs}
theorem mtx_k {i k : Nat} (h1 : ¬ (3 ≤ tg B x.1 x.2.1 i ∧ tg B x.1 x.2.1 i ≤ 6)) (h2 : k < npt (tg B x.1 x.2.1 i)) : mtx B x.1 x.2.1 i k = tx B x.1 x.2.1 (tof B x.1 x.2.1 i k) := mtx_of h1 h2
theorem mng1 {i : Nat} (ht : tg B x.1 x.2.1 i = 1) : mng B x.1 x.2.1 i = (1, 0, tx B x.1 x.2.1 i, [], []) := by
  unfold mng
  have hb : bts B x.1 x.2.1 i = 0 := by unfold bts; rw [if_neg (by omega)]
  have hn : npt (tg B x.1 x.2.1 i) = 1 := by rw [ht]; rfl
  rw [mtx_of (k := 0) (by omega) (by omega), mtx_no (k := 1) (by omega), mtx_no (k := 2) (by omega), hb, ht]
  unfold tof
  rw [if_pos ht]
theorem mng7 {i : Nat} (ht : tg B x.1 x.2.1 i = 7 ∨ tg B x.1 x.2.1 i = 8) : mng B x.1 x.2.1 i = (tg B x.1 x.2.1 i, 0, tx B x.1 x.2.1 (tw B x.1 x.2.1 i 1), [], []) := by
  unfold mng
  have hb : bts B x.1 x.2.1 i = 0 := by unfold bts; rw [if_neg (by omega)]
  have hn : npt (tg B x.1 x.2.1 i) = 1 := by unfold npt; rw [if_neg (by omega), if_neg (by omega)]
  rw [mtx_of (k := 0) (by omega) (by omega), mtx_no (k := 1) (by omega), mtx_no (k := 2) (by omega), hb]
  unfold tof
  rw [if_neg (by omega), if_pos ht]
theorem mng12 {i : Nat} (ht : tg B x.1 x.2.1 i = 12) : mng B x.1 x.2.1 i = (12, 0, tx B x.1 x.2.1 (tw B x.1 x.2.1 i 1), tx B x.1 x.2.1 (tw B x.1 x.2.1 i 3), []) := by
  unfold mng
  have hb : bts B x.1 x.2.1 i = 0 := by unfold bts; rw [if_neg (by omega)]
  have hn : npt (tg B x.1 x.2.1 i) = 2 := by unfold npt; rw [if_pos (by omega)]
  rw [mtx_of (k := 0) (by omega) (by omega), mtx_of (k := 1) (by omega) (by omega), mtx_no (k := 2) (by omega), hb, ht]
  have ht1 : ∀ k, tof B x.1 x.2.1 i k = tw B x.1 x.2.1 i (if k = 0 then 1 else 3) := by
    intro k
    unfold tof
    rw [if_neg (by omega), if_neg (by omega), if_pos ht]
  rw [ht1 0, ht1 1, if_pos rfl, if_neg (by decide)]
theorem mng9 {i : Nat} (ht : 9 ≤ tg B x.1 x.2.1 i ∧ tg B x.1 x.2.1 i ≤ 11) : mng B x.1 x.2.1 i = (tg B x.1 x.2.1 i, 0, tx B x.1 x.2.1 (tw B x.1 x.2.1 (tw B x.1 x.2.1 i 1) 1), tx B x.1 x.2.1 (tw B x.1 x.2.1 (tw B x.1 x.2.1 i 3) 1), tx B x.1 x.2.1 (tw B x.1 x.2.1 (tw B x.1 x.2.1 i 3) 3)) := by
  unfold mng
  have hb : bts B x.1 x.2.1 i = 0 := by unfold bts; rw [if_neg (by omega)]
  have hn : npt (tg B x.1 x.2.1 i) = 3 := by unfold npt; rw [if_neg (by omega), if_pos (by omega)]
  rw [mtx_of (k := 0) (by omega) (by omega), mtx_of (k := 1) (by omega) (by omega), mtx_of (k := 2) (by omega) (by omega), hb]
  have ht1 : ∀ k, tof B x.1 x.2.1 i k = (if k = 0 then tw B x.1 x.2.1 (tw B x.1 x.2.1 i 1) 1 else tw B x.1 x.2.1 (tw B x.1 x.2.1 i 3) (if k = 1 then 1 else 3)) := by
    intro k
    unfold tof
    rw [if_neg (by omega), if_neg (by omega), if_neg (by omega), if_pos ht]
  rw [ht1 0, ht1 1, ht1 2, if_pos rfl, if_neg (by decide), if_pos rfl, if_neg (by decide), if_neg (by decide)]
theorem mngN {i : Nat} (ht : 3 ≤ tg B x.1 x.2.1 i ∧ tg B x.1 x.2.1 i ≤ 6) : mng B x.1 x.2.1 i = (tg B x.1 x.2.1 i, bts B x.1 x.2.1 i, [], [], []) := by
  unfold mng
  rw [mtx_num ht, mtx_num ht, mtx_num ht]
theorem tw2_b2 (hB : ∀ x ∈ B, x < 256) {k : Nat} (hk : k + 1 < B.length) : tw2 (b2 B k) = [b1 B k, b1 B (k + 1)] := by
  have h1 := b1_lt hB k
  have h2 := b1_lt hB (k + 1)
  unfold tw2 b2
  rw [if_pos hk]
  congr 1
  · omega
  · congr 1; omega
theorem sl_add {k a b : Nat} : sl B k (a + b) = sl B k a ++ sl B (k + a) b := by
  unfold sl
  rw [List.take_add, List.drop_drop]
theorem sl1 {k : Nat} (h : k < B.length) : sl B k 1 = [b1 B k] := by
  rw [sl_cons (by omega), sl_nil]
theorem sl4 (hB : ∀ x ∈ B, x < 256) {k : Nat} (h : k + 4 ≤ B.length) : sl B k 4 = f4 (nI (b4 B k)) := by
  rw [sl_cons (by omega), sl_cons (by omega), sl_cons (by omega), sl_cons (by omega), sl_nil]
  unfold b4 b2
  rw [if_pos (by omega), if_pos (by omega), f4_nI (b1_lt hB _) (b1_lt hB _) (b1_lt hB _) (b1_lt hB _)]
theorem put2_3 {a b c v : Nat} : put2 [a, b, c] 1 v = a :: tw2 v := rfl
theorem put2_5 {a b c d e v w : Nat} : put2 (put2 [a, b, c, d, e] 1 v) 3 w = a :: (tw2 v ++ tw2 w) := rfl
theorem eO_eq (hG : GG B x) (hB : ∀ y ∈ B, y < 256) (M : List Mng) {i : Nat} (ht : tg B x.1 x.2.1 i ≠ 0) : eO B x.1 x.2.1 (mvP M B x.1 x.2.1) i = eOM M (mng B x.1 x.2.1 i) := by
  obtain ⟨s1, s2, s3⟩ := hG.sz ht
  have hbl := hG.bh_le.2
  obtain ⟨g1, g2, g3, g4⟩ := tg_at rfl ht
  have hb1 : b1 B (st x.1 x.2.1 i) = tg B x.1 x.2.1 i := by rw [g4]; exact g3
  have etw : ∀ k, tw B x.1 x.2.1 i k = b2 B (st x.1 x.2.1 i + k) := fun k => by unfold tw; rw [if_neg (by omega)]
  have hpl : ∀ p, tg B x.1 x.2.1 p ≠ 0 → mvP M B x.1 x.2.1 p = plM M (mng B x.1 x.2.1 p) := fun p hp => if_neg hp
  rcases hG.tg12 i with t | t | t
  · exact absurd t ht
  · have hz : tz B x.1 x.2.1 i = b2 B (st x.1 x.2.1 i + 1) := by unfold tz; rw [if_pos t, etw]
    have hbf : bof B x.1 x.2.1 i = 3 + tz B x.1 x.2.1 i := if_pos t
    rw [hbf] at s2
    unfold eO
    rw [if_neg (by omega), if_neg (by omega), hbf, mng1 t, sl_add, show (3 : Nat) = 1 + 1 + 1 from rfl, sl_cons (by omega), sl_cons (by omega), sl_cons (by omega), sl_nil, hb1, t]
    unfold eOM
    simp only [if_true]
    have hlen : (tx B x.1 x.2.1 i).length = tz B x.1 x.2.1 i := sl_len (by omega)
    rw [hlen, hz, tw2_b2 hB (by omega), ← hz]
    rfl
  · by_cases t3 : tg B x.1 x.2.1 i ≤ 6
    · rw [mngN ⟨t.1, t3⟩]
      unfold eO
      rw [if_neg (by omega), if_neg (by omega)]
      unfold eOM
      simp only
      rw [if_neg (by omega)]
      have hbts : bts B x.1 x.2.1 i = (if 5 ≤ tg B x.1 x.2.1 i then bt64 (nI (b4 B (st x.1 x.2.1 i + 1))) (nI (b4 B (st x.1 x.2.1 i + 5))) else (nI (b4 B (st x.1 x.2.1 i + 1))).toInt64) := if_pos ⟨t.1, t3⟩
      rw [hbts]
      by_cases t5 : 5 ≤ tg B x.1 x.2.1 i
      · have hbf : bof B x.1 x.2.1 i = 9 := by unfold bof; rw [if_neg (by omega), if_pos (by omega)]
        rw [hbf] at s2
        rw [if_pos t5, if_neg (by omega), if_pos (by omega), hbf, show 9 = 1 + (4 + 4) from rfl, sl_add, sl1 (by omega), sl_add, sl4 hB (by omega), sl4 hB (by omega), bt64_lo, bt64_hi, hb1]
        rfl
      · have hbf : bof B x.1 x.2.1 i = 5 := by unfold bof; rw [if_neg (by omega), if_neg (by omega), if_neg (by omega)]
        rw [hbf] at s2
        rw [if_neg t5, if_pos (by omega), hbf, show 5 = 1 + 4 from rfl, sl_add, sl1 (by omega), sl4 hB (by omega), i64_32, hb1]
        rfl
    · by_cases t7 : tg B x.1 x.2.1 i = 7 ∨ tg B x.1 x.2.1 i = 8
      · have hbf : bof B x.1 x.2.1 i = 3 := by unfold bof; rw [if_neg (by omega), if_neg (by omega), if_pos t7]
        rw [hbf] at s2
        have hf : fst1 B x.1 x.2.1 i = tw B x.1 x.2.1 i 1 := if_pos (by omega)
        obtain ⟨p1, p2⟩ := hG.p7 t7
        rw [mng7 t7]
        unfold eO
        rw [if_neg (by omega), if_pos (by omega), hbf, sl_cons (by omega), sl_cons (by omega), sl_cons (by omega), sl_nil, put2_3, hb1, hf, hpl _ (by omega), mng1 p2]
        unfold eOM
        simp only
        rw [if_neg (by omega), if_neg (by omega), if_neg (by omega), if_pos t7]
      · have hbf : bof B x.1 x.2.1 i = 5 := by unfold bof; rw [if_neg (by omega), if_neg (by omega), if_neg t7]
        rw [hbf] at s2
        have hf : fst1 B x.1 x.2.1 i = tw B x.1 x.2.1 i 1 := if_pos (by omega)
        have hs : snd1 B x.1 x.2.1 i = tw B x.1 x.2.1 i 3 := if_pos (by omega)
        unfold eO
        rw [if_pos (by omega), hbf, sl_cons (by omega), sl_cons (by omega), sl_cons (by omega), sl_cons (by omega), sl_cons (by omega), sl_nil, put2_5, hb1, hf, hs]
        by_cases t12 : tg B x.1 x.2.1 i = 12
        · obtain ⟨⟨p1, p2⟩, p3, p4⟩ := hG.p12 t12
          rw [hpl _ (by omega), hpl _ (by omega), mng1 p2, mng1 p4, mng12 t12, t12]
          rfl
        · obtain ⟨⟨p1, p2⟩, p3, p4⟩ := hG.p9 (i := i) (by omega)
          rw [hpl _ (by omega), hpl _ (by omega), mng7 (Or.inl p2), mng12 p4, mng9 (by omega), p2]
          unfold eOM
          simp only
          rw [if_neg (by omega), if_neg (by omega), if_neg (by omega), if_neg t7, if_neg t12]
end ORDER
