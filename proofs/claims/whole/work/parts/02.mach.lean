/-! the abstract machine: cells by address, a step a function -/
abbrev Ce : Type := (Nat × vp_A) ⊕ (Nat × List Value)
abbrev Hp : Type := Nat × Nat × (Nat → Option (Bool × Ce))
abbrev hM (h : Hp) (a : Nat) : Option (Bool × Ce) := h.2.2 a
def hset (h : Hp) (a : Nat) (c : Ce) : Hp := (h.1, h.2.1, fun q => if q = a then some (true, c) else h.2.2 q)
def hnew (h : Hp) (k : Nat) (c : Ce) : Hp := (h.1 + 1, h.2.1 + k, fun q => if q = h.1 then some (true, c) else h.2.2 q)
def hskip (h : Hp) (n k : Nat) : Hp := (h.1 + n, h.2.1 + k, h.2.2)
def stw (st : List Value) : Nat := (st.map fun v => v.category).sum
abbrev Ls : Type := List (Option Value)
abbrev XStp : Type := (Nat × Ls × List Value × Hp) ⊕ (Option Value × Hp) ⊕ (Nat × List Value × Nat × Ls × List Value × Hp)
abbrev XOp : Type := Ls → List Value → Hp → Option XStp
abbrev Cd : Type := Nat → Option XOp
abbrev xgo (pc : Nat) (ls : Ls) (st : List Value) (h : Hp) : Option XStp := some (.inl (pc, ls, st, h))
def nd (k : Nat) (f g : Cd) : Cd := fun pc => cond (Nat.blt pc k) (f pc) (g pc)
def lf (k : Nat) (o : XOp) : Cd := fun pc => cond (Nat.beq pc k) (some o) none
def lget : Ls → Nat → Option Value
  | [], _ => none
  | x :: _, 0 => x
  | _ :: r, n + 1 => lget r n
def lclr (x : Option Value) : Option Value := match x with
  | some (.long _) => none
  | some (.double _) => none
  | y => y
def lset : Ls → Nat → Value → Ls
  | [], _, _ => []
  | _ :: r, 0, v => some v :: r
  | x :: r, 1, v => lclr x :: lset r 0 v
  | x :: r, n + 2, v => x :: lset r (n + 1) v
def lset2 : Ls → Nat → Value → Ls
  | [], _, _ => []
  | [_], 0, v => [some v]
  | _ :: _ :: r, 0, v => some v :: none :: r
  | x :: r, 1, v => lclr x :: lset2 r 0 v
  | x :: r, n + 2, v => x :: lset2 r (n + 1) v
/-- the arguments laid into locals -/
def lent : List Value → Ls
  | [] => []
  | .long v :: r => some (.long v) :: none :: lent r
  | .double v :: r => some (.double v) :: none :: lent r
  | v :: r => some v :: lent r
def lpad : Nat → Ls → Ls
  | 0, l => l
  | n + 1, [] => none :: lpad n []
  | n + 1, x :: l => x :: lpad n l
def o_il (k nx : Nat) : XOp := fun ls st h => match lget ls k with
  | some (.int x) => xgo nx ls (.int x :: st) h
  | _ => none
def o_ll (k nx : Nat) : XOp := fun ls st h => match lget ls k with
  | some (.long x) => xgo nx ls (.long x :: st) h
  | _ => none
def o_al (k nx : Nat) : XOp := fun ls st h => match lget ls k with
  | some (.ref x) => xgo nx ls (.ref x :: st) h
  | some .null => xgo nx ls (.null :: st) h
  | _ => none
def o_is (k nx : Nat) : XOp := fun ls st h => match st with
  | .int x :: r => xgo nx (lset ls k (.int x)) r h
  | _ => none
def o_ls (k nx : Nat) : XOp := fun ls st h => match st with
  | .long x :: r => xgo nx (lset2 ls k (.long x)) r h
  | _ => none
def o_as (k nx : Nat) : XOp := fun ls st h => match st with
  | .ref x :: r => xgo nx (lset ls k (.ref x)) r h
  | .null :: r => xgo nx (lset ls k .null) r h
  | _ => none
def o_inc (k : Nat) (n : Int32) (nx : Nat) : XOp := fun ls st h => match lget ls k with
  | some (.int x) => xgo nx (lset ls k (.int (x + n))) st h
  | _ => none
def o_ic (v : Int32) (nx : Nat) : XOp := fun ls st h => xgo nx ls (.int v :: st) h
def o_lc (v : Int64) (nx : Nat) : XOp := fun ls st h => xgo nx ls (.long v :: st) h
def o_nul (nx : Nat) : XOp := fun ls st h => xgo nx ls (.null :: st) h
def o_ref (a : Nat) (nx : Nat) : XOp := fun ls st h => xgo nx ls (.ref a :: st) h
def o_b (f : Int32 → Int32 → Int32) (nx : Nat) : XOp := fun ls st h => match st with
  | .int y :: .int x :: r => xgo nx ls (.int (f x y) :: r) h
  | _ => none
def o_iadd (nx : Nat) : XOp := o_b (fun x y => x + y) nx
def o_isub (nx : Nat) : XOp := o_b (fun x y => x - y) nx
def o_imul (nx : Nat) : XOp := o_b (fun x y => x * y) nx
def o_iand (nx : Nat) : XOp := o_b (fun x y => x &&& y) nx
def o_ior (nx : Nat) : XOp := o_b (fun x y => x ||| y) nx
def o_ishl (nx : Nat) : XOp := o_b (fun x y => x <<< (y &&& 31)) nx
def o_ishr (nx : Nat) : XOp := o_b (fun x y => x >>> (y &&& 31)) nx
def o_ineg (nx : Nat) : XOp := fun ls st h => match st with
  | .int x :: r => xgo nx ls (.int (-x) :: r) h
  | _ => none
def o_i2b (nx : Nat) : XOp := fun ls st h => match st with
  | .int x :: r => xgo nx ls (.int x.toInt8.toInt32 :: r) h
  | _ => none
def o_i2l (nx : Nat) : XOp := fun ls st h => match st with
  | .int x :: r => xgo nx ls (.long x.toInt64 :: r) h
  | _ => none
def o_l2i (nx : Nat) : XOp := fun ls st h => match st with
  | .long x :: r => xgo nx ls (.int x.toInt32 :: r) h
  | _ => none
def o_lb (f : Int64 → Int64 → Int64) (nx : Nat) : XOp := fun ls st h => match st with
  | .long y :: .long x :: r => xgo nx ls (.long (f x y) :: r) h
  | _ => none
def o_land (nx : Nat) : XOp := o_lb (fun x y => x &&& y) nx
def o_lor (nx : Nat) : XOp := o_lb (fun x y => x ||| y) nx
def o_lsh (f : Int64 → Int64 → Int64) (nx : Nat) : XOp := fun ls st h => match st with
  | .int y :: .long x :: r => xgo nx ls (.long (f x (y.toInt64 &&& 63)) :: r) h
  | _ => none
def o_lshl (nx : Nat) : XOp := o_lsh (fun x y => x <<< y) nx
def o_lshr (nx : Nat) : XOp := o_lsh (fun x y => x >>> y) nx

def o_lcmp (nx : Nat) : XOp := fun ls st h => match st with
  | .long y :: .long x :: r => xgo nx ls (.int (lg_cmp x y) :: r) h
  | _ => none
def o_dup (nx : Nat) : XOp := fun ls st h => match st with
  | .int x :: r => xgo nx ls (.int x :: .int x :: r) h
  | .ref x :: r => xgo nx ls (.ref x :: .ref x :: r) h
  | _ => none
def o_pop (nx : Nat) : XOp := fun ls st h => match st with
  | .int _ :: r => xgo nx ls r h
  | .ref _ :: r => xgo nx ls r h
  | _ => none
/-- a branch on the top, on the top two -/
def o_if (f : Int32 → Bool) (t nx : Nat) : XOp := fun ls st h => match st with
  | .int x :: r => xgo (cond (f x) t nx) ls r h
  | _ => none
def o_cmp (f : Int32 → Int32 → Bool) (t nx : Nat) : XOp := fun ls st h => match st with
  | .int y :: .int x :: r => xgo (cond (f x y) t nx) ls r h
  | _ => none
def o_ifeq (t nx : Nat) : XOp := o_if (fun x => decide (x = 0)) t nx
def o_ifne (t nx : Nat) : XOp := o_if (fun x => decide (¬ x = 0)) t nx
def o_iflt (t nx : Nat) : XOp := o_if (fun x => decide (x < 0)) t nx
def o_ifge (t nx : Nat) : XOp := o_if (fun x => decide (0 ≤ x)) t nx
def o_ifgt (t nx : Nat) : XOp := o_if (fun x => decide (0 < x)) t nx
def o_ifle (t nx : Nat) : XOp := o_if (fun x => decide (x ≤ 0)) t nx
def o_ceq (t nx : Nat) : XOp := o_cmp (fun x y => decide (x = y)) t nx
def o_cne (t nx : Nat) : XOp := o_cmp (fun x y => decide (¬ x = y)) t nx
def o_clt (t nx : Nat) : XOp := o_cmp (fun x y => decide (x < y)) t nx
def o_cge (t nx : Nat) : XOp := o_cmp (fun x y => decide (y ≤ x)) t nx
def o_cgt (t nx : Nat) : XOp := o_cmp (fun x y => decide (y < x)) t nx
def o_cle (t nx : Nat) : XOp := o_cmp (fun x y => decide (x ≤ y)) t nx
def o_ifn (t nx : Nat) : XOp := fun ls st h => match st with
  | .ref _ :: r => xgo nx ls r h
  | .null :: r => xgo t ls r h
  | _ => none
def o_ifnn (t nx : Nat) : XOp := fun ls st h => match st with
  | .ref _ :: r => xgo t ls r h
  | .null :: r => xgo nx ls r h
  | _ => none
def o_goto (t : Nat) : XOp := fun ls st h => xgo t ls st h
def o_swp (x : Int32) : List (Int32 × Nat) → Nat → Nat
  | [], d => d
  | (k, t) :: r, d => cond (decide (x = k)) t (o_swp x r d)
def o_sw (ps : List (Int32 × Nat)) (d : Nat) : XOp := fun ls st h => match st with
  | .int x :: r => xgo (o_swp x ps d) ls r h
  | _ => none
def o_getf (ci k nx : Nat) : XOp := fun ls st h => match st with
  | .ref a :: r => match h.2.2 a with
    | some (_, .inr (c, fs)) => cond (Nat.beq c ci) (match fs[k]? with
      | some v => xgo nx ls (v :: r) h
      | none => none) none
    | _ => none
  | _ => none
/-- what a field of a kind takes: 0 int, 1 long, 2 a reference -/
def o_ok (kd : Nat) (v : Value) : Bool := match v with
  | .int _ => Nat.beq kd 0
  | .long _ => Nat.beq kd 1
  | .ref _ => Nat.beq kd 2
  | .null => Nat.beq kd 2
  | _ => false
def o_putf (ci k kd nx : Nat) : XOp := fun ls st h => match st with
  | v :: .ref a :: r => match h.2.2 a with
    | some (true, .inr (c, fs)) => cond (Nat.beq c ci && o_ok kd v && Nat.blt k fs.length) (xgo nx ls r (hset h a (.inr (ci, fs.set k v)))) none
    | _ => none
  | _ => none
def o_alen (nx : Nat) : XOp := fun ls st h => match st with
  | .ref a :: r => match h.2.2 a with
    | some (_, .inl (k, n, _)) => cond (Nat.blt k 11) (xgo nx ls (.int (Int32.ofNat n) :: r) h) none
    | _ => none
  | _ => none
def inb (i : Int32) (n : Nat) : Bool := !(decide (i < 0)) && Nat.blt i.toNatClampNeg n
def o_iald (kd nx : Nat) : XOp := fun ls st h => match st with
  | .int i :: .ref a :: r => match h.2.2 a with
    | some (_, .inl (k, n, .inl f)) => cond (Nat.beq k kd && inb i n) (xgo nx ls (.int (f i.toNatClampNeg) :: r) h) none
    | _ => none
  | _ => none
def o_lald (nx : Nat) : XOp := fun ls st h => match st with
  | .int i :: .ref a :: r => match h.2.2 a with
    | some (_, .inl (k, n, .inr (.inl f))) => cond (Nat.beq k 2 && inb i n) (xgo nx ls (.long (f i.toNatClampNeg) :: r) h) none
    | _ => none
  | _ => none
def o_aald (nx : Nat) : XOp := fun ls st h => match st with
  | .int i :: .ref a :: r => match h.2.2 a with
    | some (_, .inl (k, n, .inr (.inr (.inr (.inr f))))) => cond (Nat.blt 2 k && Nat.blt k 11 && inb i n) (match f i.toNatClampNeg with
      | none => xgo nx ls (.null :: r) h
      | some q => xgo nx ls (.ref q :: r) h) none
    | _ => none
  | _ => none
def o_iast (nx : Nat) : XOp := fun ls st h => match st with
  | .int x :: .int i :: .ref a :: r => match h.2.2 a with
    | some (true, .inl (k, n, .inl f)) => cond (Nat.beq k 1 && inb i n) (xgo nx ls r (hset h a (.inl (1, n, .inl (upd f i.toNatClampNeg x))))) none
    | _ => none
  | _ => none
def o_bast (nx : Nat) : XOp := fun ls st h => match st with
  | .int x :: .int i :: .ref a :: r => match h.2.2 a with
    | some (true, .inl (k, n, .inl f)) => cond (Nat.beq k 0 && inb i n) (xgo nx ls r (hset h a (.inl (0, n, .inl (upd f i.toNatClampNeg x.toInt8.toInt32))))) none
    | _ => none
  | _ => none
def o_last (nx : Nat) : XOp := fun ls st h => match st with
  | .long x :: .int i :: .ref a :: r => match h.2.2 a with
    | some (true, .inl (k, n, .inr (.inl f))) => cond (Nat.beq k 2 && inb i n) (xgo nx ls r (hset h a (.inl (2, n, .inr (.inl (vp_updL f i.toNatClampNeg x)))))) none
    | _ => none
  | _ => none
/-- the kind of what a cell is: an array's kind doubled, the class of an object doubled and one -/
def kof (c : Ce) : Nat := match c with
  | .inl (k, _) => 2 * k
  | .inr (c, _) => 2 * c + 1
/-- a store of a reference into an array of kind kd whose elements are of kind ek -/
def o_aast (kd ek nx : Nat) : XOp := fun ls st h => match st with
  | .ref v :: .int i :: .ref a :: r => match h.2.2 a, h.2.2 v with
    | some (true, .inl (k, n, .inr (.inr (.inr (.inr f))))), some (true, c) => cond (Nat.beq k kd && inb i n && Nat.beq (kof c) ek) (xgo nx ls r (hset h a (.inl (kd, n, .inr (.inr (.inr (.inr (va_up f i.toNatClampNeg (some v))))))))) none
    | _, _ => none
  | .null :: .int i :: .ref a :: r => match h.2.2 a with
    | some (true, .inl (k, n, .inr (.inr (.inr (.inr f))))) => cond (Nat.beq k kd && inb i n) (xgo nx ls r (hset h a (.inl (kd, n, .inr (.inr (.inr (.inr (va_up f i.toNatClampNeg none)))))))) none
    | _ => none
  | _ => none
def o_new (ci N : Nat) (fs : List Value) (nx : Nat) : XOp := fun ls st h => xgo nx ls (.ref h.1 :: st) (hnew h N (.inr (ci, fs)))
def o_newi (kd nx : Nat) : XOp := fun ls st h => match st with
  | .int n :: r => cond (inb n 100000) (xgo nx ls (.ref h.1 :: r) (hnew h n.toNatClampNeg (.inl (kd, n.toNatClampNeg, .inl (fun _ => 0))))) none
  | _ => none
def o_newl (nx : Nat) : XOp := fun ls st h => match st with
  | .int n :: r => cond (inb n 100000) (xgo nx ls (.ref h.1 :: r) (hnew h n.toNatClampNeg (.inl (2, n.toNatClampNeg, .inr (.inl (fun _ => 0)))))) none
  | _ => none
def o_newq (kd nx : Nat) : XOp := fun ls st h => match st with
  | .int n :: r => cond (inb n 100000) (xgo nx ls (.ref h.1 :: r) (hnew h n.toNatClampNeg (.inl (kd, n.toNatClampNeg, .inr (.inr (.inr (.inr (fun _ => none)))))))) none
  | _ => none
/-- new int[n][k] -/
def hrow (k : Nat) (h : Hp) : Hp := hnew h k (.inl (1, k, .inl (fun _ => 0)))
def o_mna (nx : Nat) : XOp := fun ls st h => match st with
  | .int k :: .int n :: r => cond (decide (n = 2) && decide (k = 12)) (xgo nx ls (.ref h.1 :: r) (hrow 12 (hrow 12 (hnew h 2 (.inl (3, 2, .inr (.inr (.inr (.inr (fun i => if i < 2 then some (h.1 + 1 + i) else none)))))))))) none
  | _ => none
/-- System.arraycopy of bytes or ints -/
def o_acp (nx : Nat) : XOp := fun ls st h => match st with
  | .int n :: .int dp :: .ref d :: .int sp :: .ref a :: r => match h.2.2 a, h.2.2 d with
    | some (_, .inl (ka, na, .inl f)), some (true, .inl (kd, nd, .inl g)) =>
      cond (Nat.ble (stw r) 8 && Nat.beq ka kd && Nat.blt kd 2 && !(decide (n < 0)) && !(decide (sp < 0)) && !(decide (dp < 0)) && Nat.ble (sp.toNatClampNeg + n.toNatClampNeg) na && Nat.ble (dp.toNatClampNeg + n.toNatClampNeg) nd)
        (xgo nx ls r (hset h d (.inl (kd, nd, .inl (va_cpy f g sp.toNatClampNeg dp.toNatClampNeg n.toNatClampNeg))))) none
    | _, _ => none
  | _ => none
def o_pop0 (nx : Nat) : XOp := fun ls st h => match st with
  | .ref _ :: r => cond (Nat.ble (stw r) 8) (xgo nx ls r h) none
  | _ => none
def o_call (mid : Nat) (As : List Value) (nx : Nat) (ls : Ls) (r : List Value) (h : Hp) : Option XStp := cond (Nat.ble (stw r) 8) (some (.inr (.inr (mid, As, nx, ls, r, h)))) none
/-- a call of a static method of n arguments -/
def o_inv (mid n nx : Nat) : XOp := fun ls st h => cond (Nat.ble n st.length) (o_call mid (st.take n).reverse nx ls (st.drop n) h) none
/-- a call on an object whose class counts -/
def o_invV (mid ci n nx : Nat) : XOp := fun ls st h => match st.drop n with
  | .ref a :: r => match h.2.2 a with
    | some (_, .inr (c, _)) => cond (Nat.beq c ci && Nat.ble n st.length) (o_call mid (.ref a :: (st.take n).reverse) nx ls r h) none
    | _ => none
  | _ => none
/-- a constructor's call -/
def o_invI (mid n nx : Nat) : XOp := fun ls st h => match st.drop n with
  | .ref a :: r => cond (Nat.ble n st.length) (o_call mid (.ref a :: (st.take n).reverse) nx ls r h) none
  | _ => none
def o_ret (v : Option Value) (h : Hp) : Option XStp := some (.inr (.inl (v, h)))
def o_iret : XOp := fun _ st h => match st with
  | [.int x] => o_ret (some (.int x)) h
  | _ => none
def o_zret : XOp := fun _ st h => match st with
  | [.int x] => cond (decide (x = 0) || decide (x = 1)) (o_ret (some (.int x)) h) none
  | _ => none
def o_lret : XOp := fun _ st h => match st with
  | [.long x] => o_ret (some (.long x)) h
  | _ => none
def o_aret : XOp := fun _ st h => match st with
  | [.ref x] => o_ret (some (.ref x)) h
  | [.null] => o_ret (some .null) h
  | _ => none
def o_vret : XOp := fun _ st h => match st with
  | [] => o_ret none h
  | _ => none
/-- throw new E(text): the kind of E, told as an int, its cell's slots -/
def o_thr (kd : Int32) (sl : Nat) : XOp := fun _ _ h => some (.inr (.inl (some (.int kd), hskip h 1 sl)))
/-- a program: code, how many locals; a method by its number -/
abbrev Pg : Type := Nat → Cd × Nat
def hle (h h' : Hp) : Bool := Nat.ble h.1 h'.1 && Nat.ble h.2.1 h'.2.1
def xexec (P : Pg) : Nat → Cd → Nat → Ls → List Value → Hp → Option (Option Value × Hp)
  | 0, _, _, _, _, _ => none
  | f + 1, cd, pc, ls, st, h => match cd pc with
    | none => none
    | some o => match o ls st h with
      | none => none
      | some (.inl (pc', ls', st', h')) => cond (hle h h') (xexec P f cd pc' ls' st' h') none
      | some (.inr (.inl (v, h'))) => cond (hle h h') (some (v, h')) none
      | some (.inr (.inr (mid, As, pc', ls', st', h'))) => cond (hle h h' && Nat.ble (lent As).length (P mid).2) (match xexec P f (P mid).1 0 (lpad (P mid).2 (lent As)) [] h' with
        | some (v, h2) => xexec P f cd pc' ls' (v.toList ++ st') h2
        | none => none) none
