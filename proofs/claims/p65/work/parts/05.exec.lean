/-! a pure interpreter of the claim's bytecode: a value is a tag and a whole number (0 int, 1 long, 2 reference, 3 nothing known, 4 a text, 8 its bytes, 7 a reference that is only handed on); memory is a function of object and place -/
abbrev gg_V : Type := Nat × Int
abbrev gg_M : Type := Nat → Nat → Int
/-- references, numbers, the next object, cells made, slots made -/
abbrev gg_W : Type := gg_M × gg_M × Nat × Nat × Nat
/-- how a method ends: 0 without an answer, 1 with it, 2 IllegalArgumentException, 3 IndexOutOfBoundsException -/
abbrev gg_O : Type := (Nat × gg_V) × gg_W
def gg_i (x : Int) : Int32 := Int32.ofInt x
def gg_l (x : Int) : Int64 := Int64.ofInt x
def io_add (a b : Int) : Int := (gg_i a + gg_i b).toInt
def io_sub (a b : Int) : Int := (gg_i a - gg_i b).toInt
def io_mul (a b : Int) : Int := (gg_i a * gg_i b).toInt
def io_div (a b : Int) : Int := (gg_i a / gg_i b).toInt
def io_rem (a b : Int) : Int := (gg_i a - gg_i a / gg_i b * gg_i b).toInt
def io_neg (a : Int) : Int := (-gg_i a).toInt
def io_and (a b : Int) : Int := (gg_i a &&& gg_i b).toInt
def io_or (a b : Int) : Int := (gg_i a ||| gg_i b).toInt
def io_xor (a b : Int) : Int := (gg_i a ^^^ gg_i b).toInt
def io_shl (a b : Int) : Int := (gg_i a <<< (gg_i b &&& 31)).toInt
def io_shr (a b : Int) : Int := (gg_i a >>> (gg_i b &&& 31)).toInt
def io_ushr (a b : Int) : Int := ((gg_i a).toUInt32 >>> ((gg_i b).toUInt32 &&& Int32.toUInt32 31)).toInt32.toInt
def io_i2b (a : Int) : Int := (gg_i a).toInt8.toInt32.toInt
def io_i2l (a : Int) : Int := (gg_i a).toInt64.toInt
def io_l2i (a : Int) : Int := (gg_l a).toInt32.toInt
def io_i2c (a : Int) : Int := ((gg_i a).toUInt32 % 65536).toInt32.toInt
def il_add (a b : Int) : Int := (gg_l a + gg_l b).toInt
def il_sub (a b : Int) : Int := (gg_l a - gg_l b).toInt
def il_mul (a b : Int) : Int := (gg_l a * gg_l b).toInt
def il_neg (a : Int) : Int := (-gg_l a).toInt
def il_and (a b : Int) : Int := (gg_l a &&& gg_l b).toInt
def il_or (a b : Int) : Int := (gg_l a ||| gg_l b).toInt
def il_xor (a b : Int) : Int := (gg_l a ^^^ gg_l b).toInt
def il_shl (a b : Int) : Int := (gg_l a <<< ((gg_i b).toInt64 &&& 63)).toInt
def il_shr (a b : Int) : Int := (gg_l a >>> ((gg_i b).toInt64 &&& 63)).toInt
def il_ushr (a b : Int) : Int := ((gg_l a).toUInt64 >>> ((gg_i b).toInt64.toUInt64 &&& Int64.toUInt64 63)).toInt64.toInt
/-- what a comparison answers -/
def ic_eq (a b : Int) : Bool := decide (gg_i a = gg_i b)
def ic_lt (a b : Int) : Bool := decide (gg_i a < gg_i b)
def ic_le (a b : Int) : Bool := decide (gg_i a ≤ gg_i b)
def il_cmp (a b : Int) : Int := if gg_l a < gg_l b then -1 else if gg_l a = gg_l b then 0 else 1
/-- an index in a row of n places; the place -/
def gg_in (i : Int) (n : Nat) : Bool := decide (¬ (gg_i i < 0 ∨ n ≤ (gg_i i).toNatClampNeg))
def gg_k (i : Int) : Nat := (gg_i i).toNatClampNeg
def gg_up (f : gg_M) (o k : Nat) (x : Int) : gg_M := fun o' k' => if o' = o ∧ k' = k then x else f o' k'
/-- a row of memory as it is made -/
def gg_fill (f : gg_M) (o : Nat) (x : Int) : gg_M := fun o' k' => if o' = o then x else f o' k'
/-- n places of a, from sp on, to b, from dp on -/
def gg_cpy (f : gg_M) (a sp b dp n : Nat) : gg_M := fun o' k' => if o' = b ∧ dp ≤ k' ∧ k' < dp + n then f a (sp + (k' - dp)) else f o' k'
def gg_pI {α : Type} (st : List gg_V) (f : Int → List gg_V → Option α) : Option α := match st with
  | (0, a) :: r => f a r
  | _ => none
def gg_pL {α : Type} (st : List gg_V) (f : Int → List gg_V → Option α) : Option α := match st with
  | (1, a) :: r => f a r
  | _ => none
/-- a reference to an object of ours, not null -/
def gg_pR {α : Type} (st : List gg_V) (f : Nat → List gg_V → Option α) : Option α := match st with
  | (2, Int.ofNat a) :: r => f a r
  | _ => none
/-- the kinds of values by their width on the stack -/
def gg_cat (v : gg_V) : Nat := if v.1 = 1 then 2 else 1
def gg_ok (v : gg_V) : Bool := v.1 == 0 || v.1 == 1 || v.1 == 2 || v.1 == 4 || v.1 == 7 || v.1 == 8
/-- a long before this place is lost when the place is written -/
def gg_cut (L : List gg_V) (i : Nat) : List gg_V := match i with
  | 0 => L
  | j + 1 => match L[j]? with
    | some (1, _) => L.set j (3, 0)
    | _ => L
def gg_s1 (L : List gg_V) (i : Nat) (v : gg_V) : List gg_V := (gg_cut L i).set i v
def gg_s2 (L : List gg_V) (i : Nat) (v : gg_V) : List gg_V := ((gg_cut L i).set (i + 1) (3, 0)).set i v
/-- the locals at the entry -/
def gg_args : List gg_V → List gg_V
  | [] => []
  | v :: r => if v.1 = 1 then v :: (3, 0) :: gg_args r else v :: gg_args r
def gg_en (n : Nat) (a : List gg_V) : List gg_V := gg_args a ++ List.replicate (n - (gg_args a).length) (3, 0)
def gg_tgt {α : Type} (pc : Nat) (off : Int) (f : Nat → Option α) : Option α := match (pc : Int) + off with
  | Int.ofNat t => f t
  | _ => none
/-- the length of an array -/
def gg_len (N a : Nat) : Option Nat := if a = 0 then some N else match gg_sh a with
  | (0, _, _) => none
  | (k, n, _) => if k ≤ 5 then some n else none
/-- where 'throw new X()' stands: method, place of 'new', the exception -/
def gg_thr (k pc : Nat) (i : Instr) : Option Nat := match i with
  | .new ix => match gg_lc (gg_mt k).1 ix with
    | some 100 => some 2
    | some 101 => some 3
    | _ => none
  | _ => none
def gg_ld {α : Type} (L : List gg_V) (t i : Nat) (f : Int → Option α) : Option α := match L[i]? with
  | some v => if v.1 = t then f v.2 else none
  | none => none
/-- a value for a local of one slot: a reference of any kind, or an int -/
def gg_ldA {α : Type} (L : List gg_V) (i : Nat) (f : gg_V → Option α) : Option α := match L[i]? with
  | some v => if v.1 = 2 ∨ v.1 = 4 ∨ v.1 = 7 ∨ v.1 = 8 then f v else none
  | none => none
def gg_hdl : List (Nat × Nat × Nat × Nat × Nat) → Nat → Nat → Option Nat
  | [], _, _ => none
  | h :: r, pc, E => if h.1 ≤ pc ∧ pc < h.2.1 then (if h.2.2.2.1 + 2 = E then some h.2.2.1 else gg_hdl r pc E) else gg_hdl r pc E
def gg_hst (k h : Nat) : Option (Nat × Nat) := match gg_dt k h with
  | some (.astore_n j, 1) => some (j.1, 1)
  | some (.astore j, 2) => some (j, 2)
  | _ => none
abbrev gg_X : Type := Nat → Nat → Nat → List gg_V → List gg_V → gg_W → Option gg_O
/-- the receiver of a call: an object of ours of the class, or one of the three texts -/
def gg_rcv (a : List gg_V) (c nx : Nat) : Bool := match a with
  | (2, Int.ofNat o) :: _ => decide (1 ≤ o ∧ o < nx ∧ gg_sh o = (0, 0, c))
  | (4, Int.ofNat i) :: _ => decide (c = 9 ∧ i < 3)
  | _ => false
def gg_tg (v : gg_V) : Nat := if v.1 = 4 ∨ v.1 = 7 ∨ v.1 = 8 then 2 else v.1
/-- behind a call -/
def gg_aft (ex : gg_X) (d k pc : Nat) (L r : List gg_V) : Option gg_O → Option gg_O
  | none => none
  | some ((0, _), w') => ex d k (pc + 3) L r w'
  | some ((1, v), w') => ex d k (pc + 3) L (v :: r) w'
  | some ((E, _), w') => if gg_hd k = [] then some ((E, (3, 0)), w') else match gg_hdl (gg_hd k) pc E with
    | none => none
    | some h => match gg_hst k h with
      | none => none
      | some (j, m) => if j < L.length then ex d k (h + m) (gg_s1 L j (3, 0)) [] w' else none
/-- a call of a method of ours: its number y, the arguments on the stack -/
def gg_call (ex : gg_X) (d k pc : Nat) (L st : List gg_V) (w : gg_W) (y : Nat) : Option gg_O :=
  match gg_mt y with
  | (c, kd, ml, tg, _) =>
    if (st.take tg.length).reverse.map gg_tg = tg ∧ tg.length ≤ st.length ∧ ((st.drop tg.length).map gg_cat).sum ≤ 8 ∧ (kd = 1 ∨ gg_rcv (st.take tg.length).reverse c w.2.2.1 = true) then
      match d with
      | 0 => none
      | d' + 1 => gg_aft ex d k pc L (st.drop tg.length) (ex d' y 0 (gg_en ml (st.take tg.length).reverse) [] w)
    else none
def gg_cond (c : ClassFile.Cond) (a b : Int) : Bool := match c with
  | .eq => ic_eq a b
  | .ne => !ic_eq a b
  | .lt => ic_lt a b
  | .ge => !ic_lt a b
  | .gt => ic_lt b a
  | .le => !ic_lt b a
def gg_bI {α : Type} (st : List gg_V) (f : Int → Int → Int) (k : List gg_V → Option α) : Option α := gg_pI st fun b st => gg_pI st fun a st => k ((0, f a b) :: st)
def gg_uI {α : Type} (st : List gg_V) (f : Int → Int) (k : List gg_V → Option α) : Option α := gg_pI st fun a st => k ((0, f a) :: st)
def gg_bL {α : Type} (st : List gg_V) (f : Int → Int → Int) (k : List gg_V → Option α) : Option α := gg_pL st fun b st => gg_pL st fun a st => k ((1, f a b) :: st)
def gg_sL {α : Type} (st : List gg_V) (f : Int → Int → Int) (k : List gg_V → Option α) : Option α := gg_pI st fun b st => gg_pL st fun a st => k ((1, f a b) :: st)
def gg_q {α : Type} (n m : Nat) (o : Option α) : Option α := if n = m then o else none
/-- a value that is read: a number, or a reference -/
def gg_rd (t : Nat) (w : gg_W) (a k : Nat) : gg_V := if t = 2 then (2, w.1 a k) else (0, w.2.1 a k)
def gg_get (o ix : Nat) (st : List gg_V) (w : gg_W) (f : List gg_V → Option gg_O) : Option gg_O := match st with
  | (2, Int.ofNat a) :: r => match gg_lf o ix with
    | some (ci, k, t) => if 1 ≤ a ∧ a < w.2.2.1 ∧ gg_sh a = (0, 0, ci) then f (gg_rd t w a k :: r) else none
    | none => none
  | (4, Int.ofNat i) :: r => if o = 9 ∧ i < 3 then (if ix = 9 then f ((8, Int.ofNat i) :: r) else if ix = 15 then f ((0, 0) :: r) else none) else none
  | _ => none
def gg_put (o kd ix : Nat) (st : List gg_V) (w : gg_W) (f : List gg_V → gg_W → Option gg_O) : Option gg_O := match st with
  | (t', v) :: (2, Int.ofNat a) :: r => match gg_lf o ix with
    | some (ci, k, t) => if 1 ≤ a ∧ a < w.2.2.1 ∧ gg_sh a = (0, 0, ci) then
        (if t = 0 ∧ t' = 0 then f r (w.1, gg_up w.2.1 a k v, w.2.2)
        else if t = 1 ∧ t' = 0 ∧ (v = 0 ∨ v = 1) then f r (w.1, gg_up w.2.1 a k v, w.2.2)
        else if t = 2 ∧ t' = 2 ∧ kd = 2 ∧ o = ci ∧ 1 ≤ v then f r (gg_up w.1 a k v, w.2.1, w.2.2)
        else none) else none
    | none => none
  | _ => none
/-- the bytes of the texts -/
def gg_txs : List (List Int) := [[103, 114, 97, 112, 104], [97, 114, 99], [109, 97, 114, 107], [103, 114, 97, 112, 104, 32], [59, 97, 114, 99, 32], [32, 59, 32, 97, 114, 99, 32], [59, 109, 97, 114, 107, 32]]
def gg_tx (i : Nat) : List Int := gg_txs.getD i []
/-- an element that is read, of an array of the kind kd; the answer's tag -/
def gg_ald (N : Nat) (xs : Nat → Int32) (kd t : Nat) (st : List gg_V) (w : gg_W) (f : List gg_V → Option gg_O) : Option gg_O := gg_pI st fun i st => match st with
  | (2, Int.ofNat a) :: r => if a = 0 then (if kd = 1 ∧ gg_in i N = true then f ((0, (xs (gg_k i)).toInt) :: r) else none) else
      if a < w.2.2.1 ∧ (gg_sh a).1 = kd ∧ gg_in i (gg_sh a).2.1 = true then f ((t, if t = 2 then w.1 a (gg_k i) else w.2.1 a (gg_k i)) :: r) else none
  | (8, Int.ofNat s) :: r => if kd = 3 ∧ s < 3 ∧ gg_in i (gg_tx s).length = true then f ((0, (gg_tx s).getD (gg_k i) 0) :: r) else none
  | _ => none
def gg_ast (kd t : Nat) (st : List gg_V) (w : gg_W) (f : List gg_V → gg_W → Option gg_O) : Option gg_O := match st with
  | (t', v) :: (0, i) :: (2, Int.ofNat a) :: r => if 1 ≤ a ∧ a < w.2.2.1 ∧ t' = t ∧ (gg_sh a).1 = kd ∧ gg_in i (gg_sh a).2.1 = true ∧ (kd = 2 → v = 0 ∨ v = 1) then
      f r (w.1, gg_up w.2.1 a (gg_k i) (if kd = 3 then io_i2b v else v), w.2.2) else none
  | _ => none
def gg_aas (st : List gg_V) (w : gg_W) (f : List gg_V → gg_W → Option gg_O) : Option gg_O := match st with
  | (2, Int.ofNat v) :: (0, i) :: (2, Int.ofNat a) :: r => if 1 ≤ a ∧ a < w.2.2.1 ∧ (gg_sh a).1 = 5 ∧ gg_in i (gg_sh a).2.1 = true ∧ 1 ≤ v ∧ v < w.2.2.1 ∧ gg_sh v = (0, 0, (gg_sh a).2.2) then
      f r (gg_up w.1 a (gg_k i) (v : Int), w.2) else none
  | _ => none
def gg_copy (st : List gg_V) (w : gg_W) (f : List gg_V → gg_W → Option gg_O) : Option gg_O := match st with
  | (0, n) :: (0, dp) :: (2, Int.ofNat b) :: (0, sp) :: (2, Int.ofNat a) :: r =>
    if 1 ≤ a ∧ a < w.2.2.1 ∧ 1 ≤ b ∧ b < w.2.2.1 ∧ (gg_sh a).1 = 1 ∧ (gg_sh b).1 = 1 ∧ ¬ gg_i sp < 0 ∧ ¬ gg_i dp < 0 ∧ ¬ gg_i n < 0 ∧ gg_k sp + gg_k n ≤ (gg_sh a).2.1 ∧ gg_k dp + gg_k n ≤ (gg_sh b).2.1 ∧ a ≠ b ∧ (r.map gg_cat).sum ≤ 8 then
      f r (w.1, gg_cpy w.2.1 a (gg_k sp) b (gg_k dp) (gg_k n), w.2.2) else none
  | _ => none
def gg_new (c : Nat) (w : gg_W) (f : gg_V → gg_W → Option gg_O) : Option gg_O :=
  if c < 8 ∧ gg_sh w.2.2.1 = (0, 0, c) ∧ w.2.2.2.1 + 1 = w.2.2.1 then
    f (2, (w.2.2.1 : Int)) (gg_fill w.1 w.2.2.1 (-1), gg_fill w.2.1 w.2.2.1 0, w.2.2.1 + 1, w.2.2.2.1 + 1, w.2.2.2.2 + gg_nf c)
  else none
def gg_newa (kd c : Nat) (st : List gg_V) (w : gg_W) (f : List gg_V → gg_W → Option gg_O) : Option gg_O := gg_pI st fun n r =>
  if ¬ gg_i n < 0 ∧ gg_sh w.2.2.1 = (kd, gg_k n, c) ∧ w.2.2.2.1 + 1 = w.2.2.1 ∧ gg_k n ≤ 10000 then
    f ((2, (w.2.2.1 : Int)) :: r) (gg_fill w.1 w.2.2.1 (-1), gg_fill w.2.1 w.2.2.1 0, w.2.2.1 + 1, w.2.2.2.1 + 1, w.2.2.2.2 + gg_k n)
  else none
def gg_akd : ArrayType → Nat
  | .int => 1
  | .boolean => 2
  | .byte => 3
  | .long => 4
  | _ => 99
/-- where an int, long, reference or nothing is answered -/
def gg_rI (rk : Nat) (x : Int) : Bool := rk == 1 || (rk == 2 && decide (x = 0 ∨ x = 1)) || (rk == 5 && decide (io_i2c x = x)) || (rk == 6 && decide (io_i2b x = x))
def gg_step (ex : gg_X) (N : Nat) (xs : Nat → Int32) (d k pc : Nat) (L st : List gg_V) (w : gg_W) (i : Instr) (n : Nat) : Option gg_O :=
  match i with
  | .iconst v => gg_q n 1 (ex d k (pc + 1) L ((0, v) :: st) w)
  | .bipush v => gg_q n 2 (ex d k (pc + 2) L ((0, (Int8.ofInt v).toInt) :: st) w)
  | .sipush v => gg_q n 3 (ex d k (pc + 3) L ((0, (Int16.ofInt v).toInt) :: st) w)
  | .lconst v => gg_q n 1 (ex d k (pc + 1) L ((1, (v.1 : Int)) :: st) w)
  | .iload_n j => gg_q n 1 (gg_ld L 0 j.1 fun x => ex d k (pc + 1) L ((0, x) :: st) w)
  | .iload j => gg_q n 2 (gg_ld L 0 j fun x => ex d k (pc + 2) L ((0, x) :: st) w)
  | .lload_n j => gg_q n 1 (gg_ld L 1 j.1 fun x => ex d k (pc + 1) L ((1, x) :: st) w)
  | .lload j => gg_q n 2 (gg_ld L 1 j fun x => ex d k (pc + 2) L ((1, x) :: st) w)
  | .aload_n j => gg_q n 1 (gg_ldA L j.1 fun v => ex d k (pc + 1) L (v :: st) w)
  | .aload j => gg_q n 2 (gg_ldA L j fun v => ex d k (pc + 2) L (v :: st) w)
  | .istore_n j => gg_q n 1 (gg_pI st fun x st => if j.1 < L.length then ex d k (pc + 1) (gg_s1 L j.1 (0, x)) st w else none)
  | .istore j => gg_q n 2 (gg_pI st fun x st => if j < L.length then ex d k (pc + 2) (gg_s1 L j (0, x)) st w else none)
  | .lstore_n j => gg_q n 1 (gg_pL st fun x st => if j.1 + 1 < L.length then ex d k (pc + 1) (gg_s2 L j.1 (1, x)) st w else none)
  | .lstore j => gg_q n 2 (gg_pL st fun x st => if j + 1 < L.length then ex d k (pc + 2) (gg_s2 L j (1, x)) st w else none)
  | .astore_n j => gg_q n 1 (gg_pR st fun x st => if j.1 < L.length then ex d k (pc + 1) (gg_s1 L j.1 (2, (x : Int))) st w else none)
  | .astore j => gg_q n 2 (gg_pR st fun x st => if j < L.length then ex d k (pc + 2) (gg_s1 L j (2, (x : Int))) st w else none)
  | .iinc j v => gg_q n 3 (gg_ld L 0 j fun x => if j < L.length then ex d k (pc + 3) (gg_s1 L j (0, io_add x v)) st w else none)
  | .iadd => gg_q n 1 (gg_bI st io_add fun st => ex d k (pc + 1) L st w)
  | .isub => gg_q n 1 (gg_bI st io_sub fun st => ex d k (pc + 1) L st w)
  | .imul => gg_q n 1 (gg_bI st io_mul fun st => ex d k (pc + 1) L st w)
  | .iand => gg_q n 1 (gg_bI st io_and fun st => ex d k (pc + 1) L st w)
  | .ior => gg_q n 1 (gg_bI st io_or fun st => ex d k (pc + 1) L st w)
  | .ixor => gg_q n 1 (gg_bI st io_xor fun st => ex d k (pc + 1) L st w)
  | .ishl => gg_q n 1 (gg_bI st io_shl fun st => ex d k (pc + 1) L st w)
  | .ishr => gg_q n 1 (gg_bI st io_shr fun st => ex d k (pc + 1) L st w)
  | .iushr => gg_q n 1 (gg_bI st io_ushr fun st => ex d k (pc + 1) L st w)
  | .idiv => gg_q n 1 (gg_pI st fun b st => gg_pI st fun a st => if gg_i b = 0 then none else ex d k (pc + 1) L ((0, io_div a b) :: st) w)
  | .irem => gg_q n 1 (gg_pI st fun b st => gg_pI st fun a st => if gg_i b = 0 then none else ex d k (pc + 1) L ((0, io_rem a b) :: st) w)
  | .ineg => gg_q n 1 (gg_uI st io_neg fun st => ex d k (pc + 1) L st w)
  | .i2b => gg_q n 1 (gg_uI st io_i2b fun st => ex d k (pc + 1) L st w)
  | .i2c => gg_q n 1 (gg_uI st io_i2c fun st => ex d k (pc + 1) L st w)
  | .i2l => gg_q n 1 (gg_pI st fun a st => ex d k (pc + 1) L ((1, io_i2l a) :: st) w)
  | .l2i => gg_q n 1 (gg_pL st fun a st => ex d k (pc + 1) L ((0, io_l2i a) :: st) w)
  | .ladd => gg_q n 1 (gg_bL st il_add fun st => ex d k (pc + 1) L st w)
  | .lsub => gg_q n 1 (gg_bL st il_sub fun st => ex d k (pc + 1) L st w)
  | .lmul => gg_q n 1 (gg_bL st il_mul fun st => ex d k (pc + 1) L st w)
  | .land => gg_q n 1 (gg_bL st il_and fun st => ex d k (pc + 1) L st w)
  | .lor => gg_q n 1 (gg_bL st il_or fun st => ex d k (pc + 1) L st w)
  | .lxor => gg_q n 1 (gg_bL st il_xor fun st => ex d k (pc + 1) L st w)
  | .lneg => gg_q n 1 (gg_pL st fun a st => ex d k (pc + 1) L ((1, il_neg a) :: st) w)
  | .lshl => gg_q n 1 (gg_sL st il_shl fun st => ex d k (pc + 1) L st w)
  | .lshr => gg_q n 1 (gg_sL st il_shr fun st => ex d k (pc + 1) L st w)
  | .lushr => gg_q n 1 (gg_sL st il_ushr fun st => ex d k (pc + 1) L st w)
  | .lcmp => gg_q n 1 (gg_pL st fun b st => gg_pL st fun a st => ex d k (pc + 1) L ((0, il_cmp a b) :: st) w)
  | .dup => gg_q n 1 (match st with
    | v :: r => if v.1 ≠ 1 then ex d k (pc + 1) L (v :: v :: r) w else none
    | _ => none)
  | .dup2 => gg_q n 1 (match st with
    | v :: u :: r => if v.1 = 1 then ex d k (pc + 1) L (v :: v :: u :: r) w else if u.1 = 1 then none else ex d k (pc + 1) L (v :: u :: v :: u :: r) w
    | _ => none)
  | .pop => gg_q n 1 (match st with
    | v :: r => if v.1 ≠ 1 then ex d k (pc + 1) L r w else none
    | _ => none)
  | .goto off => gg_q n 3 (gg_tgt pc off fun t => ex d k t L st w)
  | .ifCond c off => gg_q n 3 (gg_pI st fun a st => if gg_cond c a 0 = true then gg_tgt pc off fun t => ex d k t L st w else ex d k (pc + 3) L st w)
  | .if_icmp c off => gg_q n 3 (gg_pI st fun b st => gg_pI st fun a st => if gg_cond c a b = true then gg_tgt pc off fun t => ex d k t L st w else ex d k (pc + 3) L st w)
  | .tableswitch df lo hi offs => gg_pI st fun a st => if (gg_i a).toInt < lo ∨ hi < (gg_i a).toInt then gg_tgt pc df fun t => ex d k t L st w else match offs[((gg_i a).toInt - lo).toNat]? with
    | some off => gg_tgt pc off fun t => ex d k t L st w
    | none => none
  | .ldc ix => gg_q n 2 (match gg_lk (gg_mt k).1 ix with
    | some v => ex d k (pc + 2) L ((0, v) :: st) w
    | none => match gg_ls (gg_mt k).1 ix with
      | some i => ex d k (pc + 2) L ((4, Int.ofNat i) :: st) w
      | none => none)
  | .ldc_w ix => gg_q n 3 (match gg_lk (gg_mt k).1 ix with
    | some v => ex d k (pc + 3) L ((0, v) :: st) w
    | none => none)
  | .ldc2_w ix => gg_q n 3 (match gg_ll (gg_mt k).1 ix with
    | some v => ex d k (pc + 3) L ((1, v) :: st) w
    | none => none)
  | .getstatic ix => gg_q n 3 (if (gg_mt k).1 = 9 ∧ ix = 38 then ex d k (pc + 3) L ((0, 1) :: st) w else if (gg_mt k).1 = 9 ∧ ix = 1053 then ex d k (pc + 3) L ((7, 0) :: st) w else none)
  | .getfield ix => gg_q n 3 (gg_get (gg_mt k).1 ix st w fun st => ex d k (pc + 3) L st w)
  | .putfield ix => gg_q n 3 (gg_put (gg_mt k).1 (gg_mt k).2.1 ix st w fun st w => ex d k (pc + 3) L st w)
  | .iaload => gg_q n 1 (gg_ald N xs 1 0 st w fun st => ex d k (pc + 1) L st w)
  | .baload => gg_q n 1 (match st with
    | _ :: (2, Int.ofNat a) :: _ => if (gg_sh a).1 = 2 then gg_ald N xs 2 0 st w fun st => ex d k (pc + 1) L st w else gg_ald N xs 3 0 st w fun st => ex d k (pc + 1) L st w
    | _ => gg_ald N xs 3 0 st w fun st => ex d k (pc + 1) L st w)
  | .laload => gg_q n 1 (gg_ald N xs 4 1 st w fun st => ex d k (pc + 1) L st w)
  | .aaload => gg_q n 1 (gg_ald N xs 5 2 st w fun st => ex d k (pc + 1) L st w)
  | .iastore => gg_q n 1 (gg_ast 1 0 st w fun st w => ex d k (pc + 1) L st w)
  | .bastore => gg_q n 1 (match st with
    | _ :: _ :: (2, Int.ofNat a) :: _ => if (gg_sh a).1 = 2 then gg_ast 2 0 st w fun st w => ex d k (pc + 1) L st w else gg_ast 3 0 st w fun st w => ex d k (pc + 1) L st w
    | _ => none)
  | .lastore => gg_q n 1 (gg_ast 4 1 st w fun st w => ex d k (pc + 1) L st w)
  | .aastore => gg_q n 1 (gg_aas st w fun st w => ex d k (pc + 1) L st w)
  | .arraylength => gg_q n 1 (match st with
    | (2, Int.ofNat a) :: r => if a < w.2.2.1 ∧ (a = 0 → k = 287) then (match gg_len N a with
      | some m => ex d k (pc + 1) L ((0, (m : Int)) :: r) w
      | none => none) else none
    | (8, Int.ofNat s) :: r => if s < 3 then ex d k (pc + 1) L ((0, ((gg_tx s).length : Int)) :: r) w else none
    | _ => none)
  | .newarray t => gg_q n 2 (gg_newa (gg_akd t) 0 st w fun st w => ex d k (pc + 2) L st w)
  | .anewarray ix => gg_q n 3 (match gg_lc (gg_mt k).1 ix with
    | some c => gg_newa 5 c st w fun st w => ex d k (pc + 3) L st w
    | none => none)
  | .new ix => gg_q n 3 (match gg_thr k pc i with
    | some E => if (st.map gg_cat).sum ≤ 8 then some ((E, (3, 0)), (w.1, w.2.1, w.2.2.1, w.2.2.2.1 + 1, w.2.2.2.2 + 6)) else none
    | none => match gg_lc (gg_mt k).1 ix with
      | some c => gg_new c w fun v w => ex d k (pc + 3) L (v :: st) w
      | none => none)
  | .invokespecial ix => gg_q n 3 (match gg_lm (gg_mt k).1 ix with
    | some (y, _) => if y = 1003 then (gg_pR st fun _ st => if (st.map gg_cat).sum ≤ 8 then ex d k (pc + 3) L st w else none) else if (gg_mt y).2.1 = 2 ∧ (gg_mt y).1 ≠ 9 then gg_call ex d k pc L st w y else none
    | none => none)
  | .invokevirtual ix => gg_q n 3 (match gg_lm (gg_mt k).1 ix with
    | some (y, _) => if (gg_mt y).2.1 = 0 then gg_call ex d k pc L st w y else none
    | none => none)
  | .invokestatic ix => gg_q n 3 (match gg_lm (gg_mt k).1 ix with
    | some (y, _) => if y = 1000 then (gg_pI st fun b st => gg_pI st fun a st => if (st.map gg_cat).sum ≤ 8 then ex d k (pc + 3) L ((0, if gg_i a ≤ gg_i b then a else b) :: st) w else none)
      else if y = 1001 then (gg_pI st fun b st => gg_pI st fun a st => if (st.map gg_cat).sum ≤ 8 then ex d k (pc + 3) L ((0, if gg_i a ≤ gg_i b then b else a) :: st) w else none)
      else if y = 1002 then (gg_copy st w fun st w => ex d k (pc + 3) L st w)
      else if (gg_mt y).2.1 = 1 then gg_call ex d k pc L st w y else none
    | none => none)
  | .ireturn => gg_q n 1 (match st with
    | [(0, x)] => if gg_rI (gg_mt k).2.2.2.2 x = true then some ((1, (0, x)), w) else none
    | _ => none)
  | .lreturn => gg_q n 1 (match st with
    | [(1, x)] => if (gg_mt k).2.2.2.2 = 3 then some ((1, (1, x)), w) else none
    | _ => none)
  | .areturn => gg_q n 1 (match st with
    | [(2, Int.ofNat a)] => if (gg_mt k).2.2.2.2 = 4 then some ((1, (2, Int.ofNat a)), w) else none
    | _ => none)
  | .return_ => gg_q n 1 (match st with
    | [] => if (gg_mt k).2.2.2.2 = 0 then some ((0, (3, 0)), w) else none
    | _ => none)
  | _ => none
/-- f: fuel; N, xs: the script's length and ints; d: how many calls may stand open yet; k: the method; pc, L, st: where it stands; w: the world -/
def gg_ex (N : Nat) (xs : Nat → Int32) : Nat → gg_X
  | 0 => fun _ _ _ _ _ _ => none
  | f + 1 => fun d k pc L st w => match gg_dt k pc with
    | some (i, n) => gg_step (gg_ex N xs f) N xs d k pc L st w i n
    | none => none

/-! the moving interpreter: objects are made while it runs; a value in memory has its tag, too; further tags: 5 nothing, 6 the Integer of a small number, 7 a static reference (0 the formatter, 1 ArrayList's empty row, 2 and 3 the digits' tables, 4 the Integers' row, 5 the class of Object rows) -/
abbrev gy_S : Type := Nat → Nat × Nat × Nat
abbrev gy_M : Type := Nat → Nat → gg_V
/-- shapes, memory, cells made, slots made; the next object is the number of cells made, plus one -/
abbrev gy_W : Type := gy_S × gy_M × Nat × Nat
abbrev gy_O : Type := (Nat × gg_V) × gy_W
abbrev gy_X : Type := Nat → Nat → Nat → List gg_V → List gg_V → gy_W → Option gy_O
def gy_up (m : gy_M) (o k : Nat) (v : gg_V) : gy_M := fun o' k' => if o' = o ∧ k' = k then v else m o' k'
def gy_sup (s : gy_S) (o : Nat) (x : Nat × Nat × Nat) : gy_S := fun o' => if o' = o then x else s o'
/-- a row of memory -/
def gy_row (m : gy_M) (o : Nat) (g : Nat → gg_V) : gy_M := fun o' k' => if o' = o then g k' else m o' k'
def gy_cpy (m : gy_M) (a sp b dp n : Nat) : gy_M := fun o' k' => if o' = b ∧ dp ≤ k' ∧ k' < dp + n then m a (sp + (k' - dp)) else m o' k'
/-- a reference that may be kept -/
def gy_rr (v : gg_V) : Bool := v.1 == 2 || v.1 == 4 || v.1 == 6 || v.1 == 8 || (v.1 == 7 && decide (1 ≤ v.2))
def gy_ra (v : gg_V) : Bool := v.1 == 2 || v.1 == 4 || v.1 == 6 || v.1 == 7 || v.1 == 8
def gy_tg (v : gg_V) : Nat := if v.1 = 4 ∨ v.1 = 6 ∨ v.1 = 7 ∨ v.1 = 8 then 2 else v.1
def gy_ldA {α : Type} (L : List gg_V) (i : Nat) (f : gg_V → Option α) : Option α := match L[i]? with
  | some v => if gy_ra v = true then f v else none
  | none => none
def gy_pA {α : Type} (st : List gg_V) (f : gg_V → List gg_V → Option α) : Option α := match st with
  | v :: r => if gy_ra v = true then f v r else none
  | _ => none
/-- what a field holds at first; an element -/
def gy_df (t : Nat) : gg_V := if t = 2 ∨ t = 4 then (2, -1) else (0, 0)
def gy_de (kd : Nat) : gg_V := if kd = 4 then (1, 0) else if kd = 5 then (2, -1) else (0, 0)
/-- statics that are read -/
def gy_gss : List (Nat × Nat × gg_V) := [(9, 38, (0, 1)), (18, 18, (0, 1)), (9, 1053, (7, 0)), (15, 39, (7, 1)), (12, 83, (7, 2)), (12, 87, (7, 3)), (12, 191, (0, 127)), (12, 195, (7, 4))]
def gy_gs (o i : Nat) : Option gg_V := (gy_gss.find? (fun e => e.1 == o && e.2.1 == i)).map (fun e => e.2.2)
/-- the digits' tables: ones, tens -/
def gy_dg (z : Int) (j : Nat) : Int := if z = 2 then (48 + j % 10 : Nat) else (48 + j / 10 : Nat)
/-- where a value fits a field -/
def gy_fit (t : Nat) (v : gg_V) (kd o ci : Nat) : Bool := match t with
  | 0 => v.1 == 0
  | 1 => v.1 == 0 && decide (v.2 = 0 ∨ v.2 = 1)
  | 2 => gy_rr v && decide (kd = 2 ∧ o = ci)
  | 3 => v.1 == 0 && decide (io_i2b v.2 = v.2)
  | 4 => gy_rr v
  | 5 => v.1 == 0 && decide (io_i2b v.2 = v.2) && decide (kd = 2 ∧ o = ci)
  | _ => false
def gy_get (o ix : Nat) (st : List gg_V) (w : gy_W) (f : List gg_V → Option gy_O) : Option gy_O := match st with
  | (2, Int.ofNat a) :: r => match gg_lf o ix with
    | some (ci, k, _) => if w.1 a = (0, 0, ci) then f (w.2.1 a k :: r) else none
    | none => match gy_lf o ix with
      | some (ci, k, _) => if w.1 a = (0, 0, ci) then f (w.2.1 a k :: r) else none
      | none => none
  | (4, Int.ofNat i) :: r => if o = 9 ∧ i < 7 then (if ix = 9 then f ((8, Int.ofNat i) :: r) else if ix = 15 then f ((0, 0) :: r) else none) else none
  | (6, x) :: r => if o = 12 ∧ ix = 205 ∧ -128 ≤ x ∧ x ≤ 127 then f ((0, x) :: r) else none
  | _ => none
def gy_put (o kd ix : Nat) (st : List gg_V) (w : gy_W) (f : List gg_V → gy_W → Option gy_O) : Option gy_O := match st with
  | v :: (2, Int.ofNat a) :: r => match gg_lf o ix with
    | some (ci, k, t) => if w.1 a = (0, 0, ci) ∧ gy_fit t v kd o ci = true then f r (w.1, gy_up w.2.1 a k v, w.2.2) else none
    | none => match gy_lf o ix with
      | some (ci, k, md) => if w.1 a = (0, 0, ci) ∧ md = 1 ∧ v.1 = 0 then f r (w.1, gy_up w.2.1 a k v, w.2.2) else none
      | none => none
  | _ => none
/-- an element of a row of numbers -/
def gy_ald (N : Nat) (xs : Nat → Int32) (kd t : Nat) (st : List gg_V) (w : gy_W) (f : List gg_V → Option gy_O) : Option gy_O := gg_pI st fun i st => match st with
  | (2, Int.ofNat a) :: r => if a = 0 then (if kd = 1 ∧ gg_in i N = true then f ((0, (xs (gg_k i)).toInt) :: r) else none) else
      if (w.1 a).1 = kd ∧ gg_in i (w.1 a).2.1 = true then f ((t, (w.2.1 a (gg_k i)).2) :: r) else none
  | (8, Int.ofNat s) :: r => if kd = 3 ∧ s < 7 ∧ gg_in i (gg_tx s).length = true then f ((0, (gg_tx s).getD (gg_k i) 0) :: r) else none
  | (7, z) :: r => if kd = 3 ∧ (z = 2 ∨ z = 3) ∧ gg_in i 100 = true then f ((0, gy_dg z (gg_k i)) :: r) else none
  | _ => none
/-- elements of rows that there are -/
def gy_ec (c : Nat) : Bool := decide (c = 0 ∨ c = 2 ∨ c = 14 ∨ c = 24 ∨ c = 25)
/-- an element of a row of references -/
def gy_aal (st : List gg_V) (w : gy_W) (f : List gg_V → Option gy_O) : Option gy_O := gg_pI st fun i st => match st with
  | (2, Int.ofNat a) :: r => if (w.1 a).1 = 5 ∧ gy_ec (w.1 a).2.2 = true ∧ gg_in i (w.1 a).2.1 = true ∧ gy_rr (w.2.1 a (gg_k i)) = true then f (w.2.1 a (gg_k i) :: r) else none
  | (7, z) :: r => if z = 4 ∧ gg_in i 256 = true then f ((6, (gg_k i : Int) - 128) :: r) else none
  | _ => none
def gy_ast (kd t : Nat) (st : List gg_V) (w : gy_W) (f : List gg_V → gy_W → Option gy_O) : Option gy_O := match st with
  | (t', v) :: (0, i) :: (2, Int.ofNat a) :: r => if t' = t ∧ (w.1 a).1 = kd ∧ gg_in i (w.1 a).2.1 = true ∧ (kd = 2 → v = 0 ∨ v = 1) then
      f r (w.1, gy_up w.2.1 a (gg_k i) (t, if kd = 3 then io_i2b v else v), w.2.2) else none
  | _ => none
/-- what may stand in a row whose elements are of the class c -/
def gy_el (v : gg_V) (w : gy_W) (c : Nat) : Bool := match v with
  | (2, Int.ofNat a) => decide (w.1 a = (0, 0, c)) && decide (c = 0 ∨ c = 2 ∨ c = 14) || decide (c = 24) && (decide (w.1 a = (0, 0, 7)) || decide (w.1 a = (0, 0, 14)))
  | (2, _) => decide (c = 24)
  | (6, x) => decide (c = 24 ∧ -128 ≤ x ∧ x ≤ 127)
  | _ => false
def gy_aas (st : List gg_V) (w : gy_W) (f : List gg_V → gy_W → Option gy_O) : Option gy_O := match st with
  | v :: (0, i) :: (2, Int.ofNat a) :: r => if (w.1 a).1 = 5 ∧ gg_in i (w.1 a).2.1 = true ∧ gy_el v w (w.1 a).2.2 = true then f r (w.1, gy_up w.2.1 a (gg_k i) v, w.2.2) else none
  | _ => none
def gy_copy (st : List gg_V) (w : gy_W) (f : List gg_V → gy_W → Option gy_O) : Option gy_O := match st with
  | (0, n) :: (0, dp) :: (2, Int.ofNat b) :: (0, sp) :: (2, Int.ofNat a) :: r =>
    if ((w.1 a).1 = 1 ∧ (w.1 b).1 = 1 ∨ ((w.1 a).1 = 3 ∧ (w.1 b).1 = 3 ∧ ∀ j, j < gg_k n → io_i2b (w.2.1 a (gg_k sp + j)).2 = (w.2.1 a (gg_k sp + j)).2) ∨ ((w.1 a).1 = 5 ∧ (w.1 b).1 = 5 ∧ (w.1 a).2.2 = 24 ∧ (w.1 b).2.2 = 24 ∧ ∀ j, j < gg_k n → gy_el (w.2.1 a (gg_k sp + j)) w 24 = true)) ∧
        ¬ gg_i sp < 0 ∧ ¬ gg_i dp < 0 ∧ ¬ gg_i n < 0 ∧ gg_k sp + gg_k n ≤ (w.1 a).2.1 ∧ gg_k dp + gg_k n ≤ (w.1 b).2.1 ∧ (r.map gg_cat).sum ≤ 8 then
      f r (w.1, gy_cpy w.2.1 a (gg_k sp) b (gg_k dp) (gg_k n), w.2.2) else none
  | (0, n) :: (0, dp) :: (2, Int.ofNat b) :: (0, sp) :: (8, Int.ofNat s) :: r =>
    if (w.1 b).1 = 3 ∧ s < 7 ∧ ¬ gg_i sp < 0 ∧ ¬ gg_i dp < 0 ∧ ¬ gg_i n < 0 ∧ gg_k sp + gg_k n ≤ (gg_tx s).length ∧ gg_k dp + gg_k n ≤ (w.1 b).2.1 ∧ (r.map gg_cat).sum ≤ 8 then
      f r (w.1, (fun o' k' => if o' = b ∧ gg_k dp ≤ k' ∧ k' < gg_k dp + gg_k n then (0, (gg_tx s).getD (gg_k sp + (k' - gg_k dp)) 0) else w.2.1 o' k'), w.2.2) else none
  | _ => none
def gy_mk (w : gy_W) (x : Nat × Nat × Nat) (g : Nat → gg_V) (n : Nat) : gy_W := (gy_sup w.1 (w.2.2.1 + 1) x, gy_row w.2.1 (w.2.2.1 + 1) g, w.2.2.1 + 1, w.2.2.2 + n)
def gy_ob (c : Nat) : Bool := decide (c < 18) && !decide (c = 8 ∨ c = 10 ∨ c = 11 ∨ c = 12 ∨ c = 13)
def gy_new (c : Nat) (w : gy_W) (f : gg_V → gy_W → Option gy_O) : Option gy_O :=
  if gy_ob c = true then f (2, ((w.2.2.1 + 1 : Nat) : Int)) (gy_mk w (0, 0, c) (fun k => gy_df (gg_ft c k)) (gg_nf c)) else none
def gy_newa (kd c : Nat) (st : List gg_V) (w : gy_W) (f : List gg_V → gy_W → Option gy_O) : Option gy_O := gg_pI st fun n r =>
  if ¬ gg_i n < 0 ∧ gg_k n ≤ 10000 ∧ (1 ≤ kd ∧ kd ≤ 4 ∨ kd = 5 ∧ (c = 0 ∨ c = 2 ∨ c = 14 ∨ c = 24)) then f ((2, ((w.2.2.1 + 1 : Nat) : Int)) :: r) (gy_mk w (kd, gg_k n, c) (fun _ => gy_de kd) (gg_k n)) else none
/-- new int[n][k] -/
def gy_mna (st : List gg_V) (w : gy_W) (f : List gg_V → gy_W → Option gy_O) : Option gy_O := gg_pI st fun k st => gg_pI st fun n r =>
  if ¬ gg_i n < 0 ∧ ¬ gg_i k < 0 ∧ gg_k n ≤ 1000 ∧ gg_k k ≤ 1000 then
    f ((2, ((w.2.2.1 + 1 : Nat) : Int)) :: r) ((fun o => if o = w.2.2.1 + 1 then (5, gg_k n, 25) else if w.2.2.1 + 1 < o ∧ o ≤ w.2.2.1 + 1 + gg_k n then (1, gg_k k, 0) else w.1 o),
      (fun o j => if o = w.2.2.1 + 1 then (2, if j < gg_k n then ((w.2.2.1 + 2 + j : Nat) : Int) else -1) else if w.2.2.1 + 1 < o ∧ o ≤ w.2.2.1 + 1 + gg_k n then (0, 0) else w.2.1 o j), w.2.2.1 + 1 + gg_k n, w.2.2.2 + gg_k n + gg_k n * gg_k k) else none
/-- int[].clone (1), byte[].clone (3) -/
def gy_cln (kd : Nat) (st : List gg_V) (w : gy_W) (f : List gg_V → gy_W → Option gy_O) : Option gy_O := match st with
  | (2, Int.ofNat a) :: r => if (w.1 a).1 = kd ∧ (r.map gg_cat).sum ≤ 8 ∧ (kd = 3 → ∀ j, j < (w.1 a).2.1 → io_i2b (w.2.1 a j).2 = (w.2.1 a j).2) then f ((2, ((w.2.2.1 + 1 : Nat) : Int)) :: r) (gy_mk w (kd, (w.1 a).2.1, 0) (w.2.1 a) (w.1 a).2.1) else none
  | _ => none
/-- the class of a receiver -/
def gy_cl (v : gg_V) (w : gy_W) : Option Nat := match v with
  | (2, Int.ofNat a) => if (w.1 a).1 = 0 ∧ (w.1 a).2.1 = 0 ∧ gy_ob (w.1 a).2.2 = true then some (w.1 a).2.2 else none
  | (4, Int.ofNat i) => if i < 7 then some 9 else none
  | (6, x) => if -128 ≤ x ∧ x ≤ 127 then some 12 else none
  | _ => none
/-- which method a call of y on an object of the class c means: StringBuilder (17) stands below AbstractStringBuilder (18) -/
def gy_sel (c y : Nat) : Option Nat := if (gg_mt y).1 = c then some y else if c = 17 then (if y = 408 then some 398 else if y = 404 ∨ y = 405 ∨ y = 406 ∨ y = 407 ∨ y = 409 ∨ y = 410 then some y else none) else none
def gy_aft (ex : gy_X) (d k pc n : Nat) (L r : List gg_V) : Option gy_O → Option gy_O
  | none => none
  | some ((0, _), w') => ex d k (pc + n) L r w'
  | some ((1, v), w') => ex d k (pc + n) L (v :: r) w'
  | some ((E, _), w') => if gg_hd k = [] then some ((E, (3, 0)), w') else match gg_hdl (gg_hd k) pc E with
    | none => none
    | some h => match gg_hst k h with
      | none => none
      | some (j, m) => if j < L.length then ex d k (h + m) (gg_s1 L j (3, 0)) [] w' else none
/-- a call of y; vk: 0 by the receiver's class, 1 static, 2 a constructor, 3 the superclass's, 4 an interface's -/
def gy_call (ex : gy_X) (vk d k pc n : Nat) (L st : List gg_V) (w : gy_W) (y : Nat) : Option gy_O :=
  match gg_mt y with
  | (_, kd, ml, tg, _) =>
    if (st.take tg.length).reverse.map gy_tg = tg ∧ tg.length ≤ st.length ∧ ((st.drop tg.length).map gg_cat).sum ≤ 8 ∧ (kd = 1 ∧ vk = 1 ∨ kd = 2 ∧ vk = 2 ∨ kd = 0 ∧ (vk = 0 ∨ vk = 3 ∨ vk = 4)) then
      match d with
      | 0 => none
      | d' + 1 => gy_aft ex d k pc n L (st.drop tg.length) (ex d' y 0 (gg_en ml (st.take tg.length).reverse) [] w)
    else none
/-- an object that was made, or the script -/
def gy_ir (v : gg_V) : Bool := match v with
  | (2, Int.ofNat _) => true
  | _ => false
/-- the receiver of a call with tg arguments -/
def gy_rc (st : List gg_V) (n : Nat) : gg_V := (st.take n).reverse.headD (3, 0)
def gy_cst (c : Nat) (v : gg_V) (w : gy_W) : Bool := match v with
  | (2, Int.ofNat a) => decide (w.1 a = (0, 0, c) ∧ gy_ob c = true) || decide (c = 110 ∧ (w.1 a).1 = 3) || decide (c = 112 ∧ (w.1 a).1 = 1)
  | (6, x) => decide (c = 12 ∧ -128 ≤ x ∧ x ≤ 127)
  | _ => false
def gy_step (ex : gy_X) (N : Nat) (xs : Nat → Int32) (d k pc : Nat) (L st : List gg_V) (w : gy_W) (i : Instr) (n : Nat) : Option gy_O :=
  match i with
  | .iconst v => gg_q n 1 (ex d k (pc + 1) L ((0, v) :: st) w)
  | .bipush v => gg_q n 2 (ex d k (pc + 2) L ((0, (Int8.ofInt v).toInt) :: st) w)
  | .sipush v => gg_q n 3 (ex d k (pc + 3) L ((0, (Int16.ofInt v).toInt) :: st) w)
  | .lconst v => gg_q n 1 (ex d k (pc + 1) L ((1, (v.1 : Int)) :: st) w)
  | .iload_n j => gg_q n 1 (gg_ld L 0 j.1 fun x => ex d k (pc + 1) L ((0, x) :: st) w)
  | .iload j => gg_q n 2 (gg_ld L 0 j fun x => ex d k (pc + 2) L ((0, x) :: st) w)
  | .lload_n j => gg_q n 1 (gg_ld L 1 j.1 fun x => ex d k (pc + 1) L ((1, x) :: st) w)
  | .lload j => gg_q n 2 (gg_ld L 1 j fun x => ex d k (pc + 2) L ((1, x) :: st) w)
  | .istore_n j => gg_q n 1 (gg_pI st fun x st => if j.1 < L.length then ex d k (pc + 1) (gg_s1 L j.1 (0, x)) st w else none)
  | .istore j => gg_q n 2 (gg_pI st fun x st => if j < L.length then ex d k (pc + 2) (gg_s1 L j (0, x)) st w else none)
  | .lstore_n j => gg_q n 1 (gg_pL st fun x st => if j.1 + 1 < L.length then ex d k (pc + 1) (gg_s2 L j.1 (1, x)) st w else none)
  | .lstore j => gg_q n 2 (gg_pL st fun x st => if j + 1 < L.length then ex d k (pc + 2) (gg_s2 L j (1, x)) st w else none)
  | .iinc j v => gg_q n 3 (gg_ld L 0 j fun x => if j < L.length then ex d k (pc + 3) (gg_s1 L j (0, io_add x v)) st w else none)
  | .iadd => gg_q n 1 (gg_bI st io_add fun st => ex d k (pc + 1) L st w)
  | .isub => gg_q n 1 (gg_bI st io_sub fun st => ex d k (pc + 1) L st w)
  | .imul => gg_q n 1 (gg_bI st io_mul fun st => ex d k (pc + 1) L st w)
  | .iand => gg_q n 1 (gg_bI st io_and fun st => ex d k (pc + 1) L st w)
  | .ior => gg_q n 1 (gg_bI st io_or fun st => ex d k (pc + 1) L st w)
  | .ixor => gg_q n 1 (gg_bI st io_xor fun st => ex d k (pc + 1) L st w)
  | .ishl => gg_q n 1 (gg_bI st io_shl fun st => ex d k (pc + 1) L st w)
  | .ishr => gg_q n 1 (gg_bI st io_shr fun st => ex d k (pc + 1) L st w)
  | .iushr => gg_q n 1 (gg_bI st io_ushr fun st => ex d k (pc + 1) L st w)
  | .idiv => gg_q n 1 (gg_pI st fun b st => gg_pI st fun a st => if gg_i b = 0 then none else ex d k (pc + 1) L ((0, io_div a b) :: st) w)
  | .irem => gg_q n 1 (gg_pI st fun b st => gg_pI st fun a st => if gg_i b = 0 then none else ex d k (pc + 1) L ((0, io_rem a b) :: st) w)
  | .ineg => gg_q n 1 (gg_uI st io_neg fun st => ex d k (pc + 1) L st w)
  | .i2b => gg_q n 1 (gg_uI st io_i2b fun st => ex d k (pc + 1) L st w)
  | .i2c => gg_q n 1 (gg_uI st io_i2c fun st => ex d k (pc + 1) L st w)
  | .i2l => gg_q n 1 (gg_pI st fun a st => ex d k (pc + 1) L ((1, io_i2l a) :: st) w)
  | .l2i => gg_q n 1 (gg_pL st fun a st => ex d k (pc + 1) L ((0, io_l2i a) :: st) w)
  | .ladd => gg_q n 1 (gg_bL st il_add fun st => ex d k (pc + 1) L st w)
  | .lsub => gg_q n 1 (gg_bL st il_sub fun st => ex d k (pc + 1) L st w)
  | .lmul => gg_q n 1 (gg_bL st il_mul fun st => ex d k (pc + 1) L st w)
  | .land => gg_q n 1 (gg_bL st il_and fun st => ex d k (pc + 1) L st w)
  | .lor => gg_q n 1 (gg_bL st il_or fun st => ex d k (pc + 1) L st w)
  | .lxor => gg_q n 1 (gg_bL st il_xor fun st => ex d k (pc + 1) L st w)
  | .lneg => gg_q n 1 (gg_pL st fun a st => ex d k (pc + 1) L ((1, il_neg a) :: st) w)
  | .lshl => gg_q n 1 (gg_sL st il_shl fun st => ex d k (pc + 1) L st w)
  | .lshr => gg_q n 1 (gg_sL st il_shr fun st => ex d k (pc + 1) L st w)
  | .lushr => gg_q n 1 (gg_sL st il_ushr fun st => ex d k (pc + 1) L st w)
  | .lcmp => gg_q n 1 (gg_pL st fun b st => gg_pL st fun a st => ex d k (pc + 1) L ((0, il_cmp a b) :: st) w)
  | .dup => gg_q n 1 (match st with
    | v :: r => if v.1 ≠ 1 then ex d k (pc + 1) L (v :: v :: r) w else none
    | _ => none)
  | .dup2 => gg_q n 1 (match st with
    | v :: u :: r => if v.1 = 1 then ex d k (pc + 1) L (v :: v :: u :: r) w else if u.1 = 1 then none else ex d k (pc + 1) L (v :: u :: v :: u :: r) w
    | _ => none)
  | .pop => gg_q n 1 (match st with
    | v :: r => if v.1 ≠ 1 then ex d k (pc + 1) L r w else none
    | _ => none)
  | .goto off => gg_q n 3 (gg_tgt pc off fun t => ex d k t L st w)
  | .ifCond c off => gg_q n 3 (gg_pI st fun a st => if gg_cond c a 0 = true then gg_tgt pc off fun t => ex d k t L st w else ex d k (pc + 3) L st w)
  | .if_icmp c off => gg_q n 3 (gg_pI st fun b st => gg_pI st fun a st => if gg_cond c a b = true then gg_tgt pc off fun t => ex d k t L st w else ex d k (pc + 3) L st w)
  | .tableswitch df lo hi offs => gg_pI st fun a st => if (gg_i a).toInt < lo ∨ hi < (gg_i a).toInt then gg_tgt pc df fun t => ex d k t L st w else match offs[((gg_i a).toInt - lo).toNat]? with
    | some off => gg_tgt pc off fun t => ex d k t L st w
    | none => none
  | .ldc_w ix => gg_q n 3 (match gg_lk (gg_mt k).1 ix with
    | some v => ex d k (pc + 3) L ((0, v) :: st) w
    | none => none)
  | .ldc2_w ix => gg_q n 3 (match gg_ll (gg_mt k).1 ix with
    | some v => ex d k (pc + 3) L ((1, v) :: st) w
    | none => none)
  | .ireturn => gg_q n 1 (match st with
    | [(0, x)] => if gg_rI (gg_mt k).2.2.2.2 x = true then some ((1, (0, x)), w) else none
    | _ => none)
  | .lreturn => gg_q n 1 (match st with
    | [(1, x)] => if (gg_mt k).2.2.2.2 = 3 then some ((1, (1, x)), w) else none
    | _ => none)
  | .return_ => gg_q n 1 (match st with
    | [] => if (gg_mt k).2.2.2.2 = 0 then some ((0, (3, 0)), w) else none
    | _ => none)
  | .aload_n j => gg_q n 1 (gy_ldA L j.1 fun v => ex d k (pc + 1) L (v :: st) w)
  | .aload j => gg_q n 2 (gy_ldA L j fun v => ex d k (pc + 2) L (v :: st) w)
  | .astore_n j => gg_q n 1 (gy_pA st fun v st => if j.1 < L.length then ex d k (pc + 1) (gg_s1 L j.1 v) st w else none)
  | .astore j => gg_q n 2 (gy_pA st fun v st => if j < L.length then ex d k (pc + 2) (gg_s1 L j v) st w else none)
  | .aconst_null => gg_q n 1 (ex d k (pc + 1) L ((2, -1) :: st) w)
  | .dup_x1 => gg_q n 1 (match st with
    | v :: u :: r => if v.1 ≠ 1 ∧ u.1 ≠ 1 then ex d k (pc + 1) L (v :: u :: v :: r) w else none
    | _ => none)
  | .if_acmp c off => gg_q n 3 (match st with
    | (7, y) :: (7, z) :: r => if y = z ∧ 1 ≤ y then (match c with
      | .eq => gg_tgt pc off fun t => ex d k t L r w
      | .ne => ex d k (pc + 3) L r w) else none
    | _ => none)
  | .ifnonnull off => gg_q n 3 (match st with
    | (4, _) :: r => gg_tgt pc off fun t => ex d k t L r w
    | _ => none)
  | .checkcast ix => gg_q n 3 (match st with
    | v :: r => match gg_lc (gg_mt k).1 ix with
      | some c => if gy_cst c v w = true then ex d k (pc + 3) L (v :: r) w else none
      | none => none
    | _ => none)
  | .ldc ix => gg_q n 2 (match gg_lk (gg_mt k).1 ix with
    | some v => ex d k (pc + 2) L ((0, v) :: st) w
    | none => match gg_ls (gg_mt k).1 ix with
      | some i => ex d k (pc + 2) L ((4, Int.ofNat i) :: st) w
      | none => if (gg_mt k).1 = 19 ∧ ix = 110 then ex d k (pc + 2) L ((7, 5) :: st) w else none)
  | .getstatic ix => gg_q n 3 (match gy_gs (gg_mt k).1 ix with
    | some v => ex d k (pc + 3) L (v :: st) w
    | none => none)
  | .getfield ix => gg_q n 3 (gy_get (gg_mt k).1 ix st w fun st => ex d k (pc + 3) L st w)
  | .putfield ix => gg_q n 3 (gy_put (gg_mt k).1 (gg_mt k).2.1 ix st w fun st w => ex d k (pc + 3) L st w)
  | .iaload => gg_q n 1 (gy_ald N xs 1 0 st w fun st => ex d k (pc + 1) L st w)
  | .baload => gg_q n 1 (match st with
    | _ :: (2, Int.ofNat a) :: _ => if (w.1 a).1 = 2 then gy_ald N xs 2 0 st w fun st => ex d k (pc + 1) L st w else gy_ald N xs 3 0 st w fun st => ex d k (pc + 1) L st w
    | _ => gy_ald N xs 3 0 st w fun st => ex d k (pc + 1) L st w)
  | .laload => gg_q n 1 (gy_ald N xs 4 1 st w fun st => ex d k (pc + 1) L st w)
  | .aaload => gg_q n 1 (gy_aal st w fun st => ex d k (pc + 1) L st w)
  | .iastore => gg_q n 1 (gy_ast 1 0 st w fun st w => ex d k (pc + 1) L st w)
  | .bastore => gg_q n 1 (match st with
    | _ :: _ :: (2, Int.ofNat a) :: _ => if (w.1 a).1 = 2 then gy_ast 2 0 st w fun st w => ex d k (pc + 1) L st w else gy_ast 3 0 st w fun st w => ex d k (pc + 1) L st w
    | _ => none)
  | .lastore => gg_q n 1 (gy_ast 4 1 st w fun st w => ex d k (pc + 1) L st w)
  | .aastore => gg_q n 1 (gy_aas st w fun st w => ex d k (pc + 1) L st w)
  | .arraylength => gg_q n 1 (match st with
    | (2, Int.ofNat a) :: r => if a = 0 then ex d k (pc + 1) L ((0, (N : Int)) :: r) w else if 1 ≤ (w.1 a).1 ∧ (w.1 a).1 ≤ 5 ∧ ((w.1 a).1 = 5 → gy_ec (w.1 a).2.2 = true) then ex d k (pc + 1) L ((0, ((w.1 a).2.1 : Int)) :: r) w else none
    | (8, Int.ofNat s) :: r => if s < 7 then ex d k (pc + 1) L ((0, ((gg_tx s).length : Int)) :: r) w else none
    | (7, z) :: r => if z = 1 then ex d k (pc + 1) L ((0, 0) :: r) w else none
    | _ => none)
  | .newarray t => gg_q n 2 (gy_newa (gg_akd t) 0 st w fun st w => ex d k (pc + 2) L st w)
  | .anewarray ix => gg_q n 3 (match gg_lc (gg_mt k).1 ix with
    | some c => gy_newa 5 c st w fun st w => ex d k (pc + 3) L st w
    | none => none)
  | .multianewarray ix dm => gg_q n 4 (if (gg_mt k).1 = 14 ∧ ix = 89 ∧ dm = 2 then gy_mna st w fun st w => ex d k (pc + 4) L st w else none)
  | .new ix => gg_q n 3 (match gg_thr k pc i with
    | some E => if (st.map gg_cat).sum ≤ 8 then some ((E, (3, 0)), (w.1, w.2.1, w.2.2.1 + 1, w.2.2.2 + 6)) else none
    | none => match gg_lc (gg_mt k).1 ix with
      | some c => gy_new c w fun v w => ex d k (pc + 3) L (v :: st) w
      | none => none)
  | .invokespecial ix => gg_q n 3 (match gg_lm (gg_mt k).1 ix with
    | some (y, _) => if y = 1003 then (match st with
        | (2, Int.ofNat _) :: r => if (r.map gg_cat).sum ≤ 8 then ex d k (pc + 3) L r w else none
        | _ => none) else if (gg_mt y).2.1 = 2 ∧ gy_ir (gy_rc st (gg_mt y).2.2.2.1.length) = true then gy_call ex 2 d k pc 3 L st w y else if ((gg_mt k).1 = 17 ∧ (y = 401 ∨ y = 402 ∨ y = 403 ∨ y = 408)) ∧ gy_cl (gy_rc st (gg_mt y).2.2.2.1.length) w = some 17 then gy_call ex 3 d k pc 3 L st w y else none
    | none => none)
  | .invokevirtual ix => gg_q n 3 (match gg_lm (gg_mt k).1 ix with
    | some (y, _) => if y = 1004 then gy_cln 1 st w fun st w => ex d k (pc + 3) L st w
      else if y = 1005 then gy_cln 3 st w fun st w => ex d k (pc + 3) L st w
      else if y = 1006 then (match st with
        | (2, Int.ofNat a) :: r => if (w.1 a).1 = 5 ∧ (w.1 a).2.2 = 24 ∧ (r.map gg_cat).sum ≤ 8 then ex d k (pc + 3) L ((7, 5) :: r) w else none
        | _ => none)
      else match gy_cl (gy_rc st (gg_mt y).2.2.2.1.length) w with
        | some c => match gy_sel c y with
          | some y' => gy_call ex 0 d k pc 3 L st w y'
          | none => none
        | none => none
    | none => none)
  | .invokeinterface ix _ => gg_q n 5 (match gy_li (gg_mt k).1 ix with
    | some y => match gy_cl (gy_rc st (gg_mt y).2.2.2.1.length) w with
      | some c => if c = (gg_mt y).1 then gy_call ex 4 d k pc 5 L st w y else none
      | none => none
    | none => none)
  | .invokestatic ix => gg_q n 3 (match gg_lm (gg_mt k).1 ix with
    | some (y, _) => if y = 1000 then (gg_pI st fun b st => gg_pI st fun a st => if (st.map gg_cat).sum ≤ 8 then ex d k (pc + 3) L ((0, if gg_i a ≤ gg_i b then a else b) :: st) w else none)
      else if y = 1001 then (gg_pI st fun b st => gg_pI st fun a st => if (st.map gg_cat).sum ≤ 8 then ex d k (pc + 3) L ((0, if gg_i a ≤ gg_i b then b else a) :: st) w else none)
      else if y = 1002 then (gy_copy st w fun st w => ex d k (pc + 3) L st w)
      else if (gg_mt y).2.1 = 1 then gy_call ex 1 d k pc 3 L st w y else none
    | none => none)
  | .areturn => gg_q n 1 (match st with
    | [v] => if gy_rr v = true ∧ (gg_mt k).2.2.2.2 = 4 then some ((1, v), w) else none
    | _ => none)
  | _ => none
/-- f: fuel; N, xs: the script's length and ints; d: how many calls may stand open yet; k: the method; pc, L, st: where it stands; w: the world -/
def gy_ex (N : Nat) (xs : Nat → Int32) : Nat → gy_X
  | 0 => fun _ _ _ _ _ _ => none
  | f + 1 => fun d k pc L st w => match gg_dt k pc with
    | some (i, n) => gy_step (gy_ex N xs f) N xs d k pc L st w i n
    | none => none
