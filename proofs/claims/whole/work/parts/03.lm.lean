/-! LM: a small machine over the decoded instructions of the program. Addresses below 64 are old cells (0 the script, 1.. the texts, 31.. their bytes, 60 RULE_ABOVE); from 64 on the cells that the run makes.
A heap: ints, longs, references (address, slot); kind of a cell (0 none, 1 int[], 2 long[], 4 Shelf[], 5 int[][], 6 long[][], 8 byte[], 10 + number of its class); length; next address; cells, slots made. -/
abbrev lm_X : Type := (Nat → Nat → Option Nat) × (Nat → Nat) × (Nat → Nat) × Nat × Nat × Nat
abbrev lm_H : Type := (Nat → Nat → Int32) × (Nat → Nat → Int64) × lm_X
abbrev lm_R : Type := (Nat × List Value × List Value × lm_H) ⊕ ((Option Value × lm_H) ⊕ (Nat × List Value × Nat × List Value × lm_H))
def lm_up {α : Type} (f : Nat → Nat → α) (a k : Nat) (v : α) : Nat → Nat → α := fun b j => if b = a then (if j = k then v else f b j) else f b j
def lm_row {α : Type} (f : Nat → Nat → α) (a : Nat) (g : Nat → α) : Nat → Nat → α := fun b => if b = a then g else f b
abbrev lm_nx (pc : Nat) (ls st : List Value) (h : lm_H) : Option lm_R := some (.inl (pc, ls, st, h))
def lm_jk : Value := .retAddr 0
/-- a value of one slot into a local: a long whose second half it takes is gone -/
def lm_s1 (ls : List Value) (i : Nat) (v : Value) : List Value := match i with
  | 0 => ls.set 0 v
  | j + 1 => match ls[j]? with
    | some w => if w.category = 2 then (ls.set j lm_jk).set (j + 1) v else ls.set (j + 1) v
    | none => ls.set (j + 1) v
def lm_s2 (ls : List Value) (i : Nat) (v : Value) : List Value := (lm_s1 ls i v).set (i + 1) lm_jk
def lm_tg (pc : Nat) (off : Int) : Option Nat := match (pc : Int) + off with
  | .ofNat t => some t
  | .negSucc _ => none
def lm_br {α : Type} (c : ClassFile.Cond) (x y : Int32) (A B : α) : α := match c with
  | .eq => if x = y then A else B
  | .ne => if x = y then B else A
  | .lt => if x < y then A else B
  | .ge => if x < y then B else A
  | .gt => if y < x then A else B
  | .le => if y < x then B else A
def lm_sw (x : Int32) : Int → List Int → Int → Int
  | _, [], d => d
  | lo, o :: os, d => if x = Int32.ofInt lo then o else lm_sw x (lo + 1) os d
def lm_lk (x : Int32) : List (Int × Int) → Int → Int
  | [], d => d
  | q :: qs, d => if x = Int32.ofInt q.1 then q.2 else lm_lk x qs d
def lm_fk (ci k : Nat) : Nat := if ci = 30 then (if k = 0 then 1 else 0) else lm_ft ci k
def lm_fv (h : lm_H) (ci a k : Nat) : Value := if lm_fk ci k = 1 then va_rf (h.2.2.1 a k) else .int (h.1 a k)
def lm_pok (f c ci k : Nat) : Bool := decide (ci < 8) && (!(lm_fin ci k) || (lm_inits.contains f && decide (lm_cis.getD c 99 = ci)))
def lm_u1 {α : Type} (f : Nat → α) (a : Nat) (v : α) : Nat → α := fun b => if b = a then v else f b
/-- cells a .. a + n - 1 -/
def lm_us {α : Type} (f : Nat → α) (a n : Nat) (v : α) : Nat → α := fun b => if a ≤ b ∧ b < a + n then v else f b
def lm_put (h : lm_H) (ty a k : Nat) (v : Value) : Option lm_H := match v with
  | .int x => if ty = 0 then some (lm_up h.1 a k x, h.2) else if ty = 2 ∧ (x = 0 ∨ x = 1) then some (lm_up h.1 a k x, h.2) else none
  | .ref b => if ty = 1 then some (h.1, h.2.1, lm_up h.2.2.1 a k (some b), h.2.2.2) else none
  | _ => none
def lm_new (h : lm_H) (a ci N : Nat) : lm_H := (lm_row h.1 a (fun _ => 0), h.2.1, lm_row h.2.2.1 a (fun _ => none), lm_u1 h.2.2.2.1 a (10 + ci), h.2.2.2.2.1, a + 1, h.2.2.2.2.2.2.1 + 1, h.2.2.2.2.2.2.2 + N)
def lm_arr (h : lm_H) (a kd n : Nat) : lm_H := (lm_row h.1 a (fun _ => 0), lm_row h.2.1 a (fun _ => 0), lm_row h.2.2.1 a (fun _ => none), lm_u1 h.2.2.2.1 a kd, lm_u1 h.2.2.2.2.1 a n, a + 1, h.2.2.2.2.2.2.1 + 1, h.2.2.2.2.2.2.2 + n)
/-- new T[n][m]: the outer one at a, the inner ones behind it -/
def lm_mul (h : lm_H) (a kd ki n m : Nat) : lm_H := (lm_us h.1 a (n + 1) (fun _ => 0), lm_us h.2.1 a (n + 1) (fun _ => 0), lm_row (lm_us h.2.2.1 a (n + 1) (fun _ => none)) a (fun j => if j < n then some (a + 1 + j) else none),
  lm_u1 (lm_us h.2.2.2.1 a (n + 1) ki) a kd, lm_u1 (lm_us h.2.2.2.2.1 a (n + 1) m) a n, a + n + 1, h.2.2.2.2.2.2.1 + 1 + n, h.2.2.2.2.2.2.2 + n + n * m)
noncomputable def lm_iv (w : Option (Nat × Nat × Nat × Nat)) (op pc : Nat) (ls st : List Value) (h : lm_H) : Option lm_R := match w with
  | none => none
  | some (kind, g, n, _) =>
    if kind = 0 then (match st.drop n with
      | .ref a :: r => if op = 0 ∧ n ≤ st.length ∧ (r.map Value.category).sum ≤ 8 ∧ h.2.2.2.1 a = 10 + lm_cis.getD (lm_m g).1 99 then some (.inr (.inr (g, .ref a :: (st.take n).reverse, pc + 3, r, h))) else none
      | _ => none)
    else if kind = 1 ∨ kind = 3 then (if op = 1 ∧ n ≤ st.length ∧ ((st.drop n).map Value.category).sum ≤ 8 then some (.inr (.inr (g, (st.take n).reverse, pc + 3, st.drop n, h))) else none)
    else if kind = 2 ∨ kind = 4 then (match st.drop n with
      | .ref a :: r => if op = 2 ∧ n ≤ st.length ∧ (r.map Value.category).sum ≤ 8 then some (.inr (.inr (g, .ref a :: (st.take n).reverse, pc + 3, r, h))) else none
      | _ => none)
    else if kind = 5 then (match st with
      | .ref _ :: r => if op = 2 ∧ (r.map Value.category).sum ≤ 8 then lm_nx (pc + 3) ls r h else none
      | _ => none)
    else if kind = 6 then (match st with
      | .int n :: .int dp :: .ref a1 :: .int sp :: .ref a0 :: r => if op = 1 ∧ (r.map Value.category).sum ≤ 8 ∧ h.2.2.2.1 a0 = 2 ∧ h.2.2.2.1 a1 = 2 ∧ 64 ≤ a0 ∧ 64 ≤ a1 ∧ ¬ sp < 0 ∧ ¬ dp < 0 ∧ ¬ n < 0 ∧ sp.toNatClampNeg + n.toNatClampNeg ≤ h.2.2.2.2.1 a0 ∧ dp.toNatClampNeg + n.toNatClampNeg ≤ h.2.2.2.2.1 a1 then
          lm_nx (pc + 3) ls r (h.1, lm_row h.2.1 a1 (va_cpy (h.2.1 a0) (h.2.1 a1) sp.toNatClampNeg dp.toNatClampNeg n.toNatClampNeg), h.2.2)
        else if op = 1 ∧ (r.map Value.category).sum ≤ 8 ∧ h.2.2.2.1 a0 = 1 ∧ h.2.2.2.1 a1 = 1 ∧ 64 ≤ a0 ∧ 64 ≤ a1 ∧ ¬ sp < 0 ∧ ¬ dp < 0 ∧ ¬ n < 0 ∧ sp.toNatClampNeg + n.toNatClampNeg ≤ h.2.2.2.2.1 a0 ∧ dp.toNatClampNeg + n.toNatClampNeg ≤ h.2.2.2.2.1 a1 then
          lm_nx (pc + 3) ls r (lm_row h.1 a1 (va_cpy (h.1 a0) (h.1 a1) sp.toNatClampNeg dp.toNatClampNeg n.toNatClampNeg), h.2) else none
      | _ => none)
    else if kind = 7 then (match st with
      | .int n :: .int i :: r => if op = 1 ∧ (r.map Value.category).sum ≤ 8 ∧ ¬ i < 0 ∧ i < n then lm_nx (pc + 3) ls r h else none
      | _ => none)
    else if kind = 8 then (match st with
      | .int y :: .int x :: r => if op = 1 ∧ (r.map Value.category).sum ≤ 8 then lm_nx (pc + 3) ls (.int (if x < y then y else x) :: r) h else none
      | _ => none)
    else if kind = 9 then (match st with
      | .int y :: .int x :: r => if op = 1 ∧ (r.map Value.category).sum ≤ 8 then lm_nx (pc + 3) ls (.int (if y < x then y else x) :: r) h else none
      | _ => none)
    else none
def lm_i1 (pc : Nat) (ls st : List Value) (h : lm_H) (g : Int32 → Value) : Option lm_R := match st with
  | .int x :: r => lm_nx (pc + 1) ls (g x :: r) h
  | _ => none
def lm_i2 (pc : Nat) (ls st : List Value) (h : lm_H) (g : Int32 → Int32 → Int32) : Option lm_R := match st with
  | .int y :: .int x :: r => lm_nx (pc + 1) ls (.int (g x y) :: r) h
  | _ => none
def lm_l2 (pc : Nat) (ls st : List Value) (h : lm_H) (g : Int64 → Int64 → Int64) : Option lm_R := match st with
  | .long y :: .long x :: r => lm_nx (pc + 1) ls (.long (g x y) :: r) h
  | _ => none
def lm_ls (pc : Nat) (ls st : List Value) (h : lm_H) (g : Int64 → Int32 → Int64) : Option lm_R := match st with
  | .int y :: .long x :: r => lm_nx (pc + 1) ls (.long (g x y) :: r) h
  | _ => none
def lm_li (pc : Nat) (ls st : List Value) (h : lm_H) (i : Nat) : Option lm_R := match ls[i]? with
  | some (.int x) => lm_nx pc ls (.int x :: st) h
  | _ => none
def lm_ll (pc : Nat) (ls st : List Value) (h : lm_H) (i : Nat) : Option lm_R := match ls[i]? with
  | some (.long x) => lm_nx pc ls (.long x :: st) h
  | _ => none
def lm_la (pc : Nat) (ls st : List Value) (h : lm_H) (i : Nat) : Option lm_R := match ls[i]? with
  | some (.ref x) => lm_nx pc ls (.ref x :: st) h
  | _ => none
def lm_si (pc : Nat) (ls st : List Value) (h : lm_H) (i : Nat) : Option lm_R := match st with
  | .int x :: r => if i < ls.length then lm_nx pc (lm_s1 ls i (.int x)) r h else none
  | _ => none
def lm_sl (pc : Nat) (ls st : List Value) (h : lm_H) (i : Nat) : Option lm_R := match st with
  | .long x :: r => if i + 1 < ls.length then lm_nx pc (lm_s2 ls i (.long x)) r h else none
  | _ => none
def lm_sa (pc : Nat) (ls st : List Value) (h : lm_H) (i : Nat) : Option lm_R := match st with
  | .ref x :: r => if i < ls.length then lm_nx pc (lm_s1 ls i (.ref x)) r h else none
  | _ => none
def lm_go (pc : Nat) (off : Int) (ls st : List Value) (h : lm_H) : Option lm_R := match lm_tg pc off with
  | some t => lm_nx t ls st h
  | none => none
def lm_bt (pc : Nat) (off : Int) (co : ClassFile.Cond) (x y : Int32) (ls st : List Value) (h : lm_H) : Option lm_R := match lm_tg pc off with
  | some t => lm_br co x y (lm_nx t ls st h) (lm_nx (pc + 3) ls st h)
  | none => none
def lm_ir (pc : Nat) (a : Nat) (i : Int32) (ls st : List Value) (h : lm_H) (ok : Bool) (v : Value) : Option lm_R :=
  if ok = true ∧ ¬ (i < 0 ∨ h.2.2.2.2.1 a ≤ i.toNatClampNeg) then lm_nx (pc + 1) ls (v :: st) h else none
noncomputable def lm_i (f c pc : Nat) (i : Instr) (ls st : List Value) (h : lm_H) : Option lm_R := match i with
  | .iconst n => lm_nx (pc + 1) ls (.int (Int32.ofInt n) :: st) h
  | .bipush n => lm_nx (pc + 2) ls (.int (Int8.ofInt n).toInt32 :: st) h
  | .sipush n => lm_nx (pc + 3) ls (.int (Int16.ofInt n).toInt32 :: st) h
  | .lconst n => lm_nx (pc + 1) ls (.long (Int64.ofNat n) :: st) h
  | .ldc idx => match (lm_kV c).lookup idx with
    | some (v, _) => lm_nx (pc + 2) ls (v :: st) h
    | none => none
  | .ldc_w idx => match (lm_kV c).lookup idx with
    | some (.int v, _) => lm_nx (pc + 3) ls (.int v :: st) h
    | _ => none
  | .ldc2_w idx => match (lm_kL c).lookup idx with
    | some (v, _) => lm_nx (pc + 3) ls (.long v :: st) h
    | none => none
  | .getstatic idx => match (lm_kS c).lookup idx with
    | some (v, _) => lm_nx (pc + 3) ls (v :: st) h
    | none => none
  | .iload k => lm_li (pc + 2) ls st h k
  | .iload_n k => lm_li (pc + 1) ls st h k
  | .lload k => lm_ll (pc + 2) ls st h k
  | .lload_n k => lm_ll (pc + 1) ls st h k
  | .aload k => lm_la (pc + 2) ls st h k
  | .aload_n k => lm_la (pc + 1) ls st h k
  | .istore k => lm_si (pc + 2) ls st h k
  | .istore_n k => lm_si (pc + 1) ls st h k
  | .lstore k => lm_sl (pc + 2) ls st h k
  | .lstore_n k => lm_sl (pc + 1) ls st h k
  | .astore k => lm_sa (pc + 2) ls st h k
  | .astore_n k => lm_sa (pc + 1) ls st h k
  | .iinc k n => match ls[k]? with
    | some (.int x) => lm_nx (pc + 3) (lm_s1 ls k (.int (x + Int32.ofInt n))) st h
    | _ => none
  | .iadd => lm_i2 pc ls st h (fun x y => x + y)
  | .isub => lm_i2 pc ls st h (fun x y => x - y)
  | .imul => lm_i2 pc ls st h (fun x y => x * y)
  | .iand => lm_i2 pc ls st h (fun x y => x &&& y)
  | .ior => lm_i2 pc ls st h (fun x y => x ||| y)
  | .ixor => lm_i2 pc ls st h (fun x y => x ^^^ y)
  | .ishl => lm_i2 pc ls st h (fun x y => x <<< (y &&& 31))
  | .ishr => lm_i2 pc ls st h (fun x y => x >>> (y &&& 31))
  | .iushr => lm_i2 pc ls st h (fun x y => (x.toUInt32 >>> (y.toUInt32 &&& Int32.toUInt32 31)).toInt32)
  | .irem => match st with
    | .int y :: .int x :: r => if y = 0 then none else lm_nx (pc + 1) ls (.int (x - x / y * y) :: r) h
    | _ => none
  | .ineg => lm_i1 pc ls st h (fun x => .int (-x))
  | .i2l => lm_i1 pc ls st h (fun x => .long x.toInt64)
  | .i2b => lm_i1 pc ls st h (fun x => .int x.toInt8.toInt32)
  | .i2s => lm_i1 pc ls st h (fun x => .int x.toInt16.toInt32)
  | .i2c => lm_i1 pc ls st h (fun x => .int (x.toUInt32 % 65536).toInt32)
  | .l2i => match st with
    | .long x :: r => lm_nx (pc + 1) ls (.int x.toInt32 :: r) h
    | _ => none
  | .ladd => lm_l2 pc ls st h (fun x y => x + y)
  | .lmul => lm_l2 pc ls st h (fun x y => x * y)
  | .land => lm_l2 pc ls st h (fun x y => x &&& y)
  | .lor => lm_l2 pc ls st h (fun x y => x ||| y)
  | .lxor => lm_l2 pc ls st h (fun x y => x ^^^ y)
  | .ldiv => match st with
    | .long y :: .long x :: r => if y = 0 then none else lm_nx (pc + 1) ls (.long (x / y) :: r) h
    | _ => none
  | .lrem => match st with
    | .long y :: .long x :: r => if y = 0 then none else lm_nx (pc + 1) ls (.long (x - x / y * y) :: r) h
    | _ => none
  | .lshl => lm_ls pc ls st h (fun x y => x <<< (y.toInt64 &&& 63))
  | .lshr => lm_ls pc ls st h (fun x y => x >>> (y.toInt64 &&& 63))
  | .lcmp => match st with
    | .long y :: .long x :: r => lm_nx (pc + 1) ls (.int (lg_cmp x y) :: r) h
    | _ => none
  | .dup => match st with
    | .int x :: r => lm_nx (pc + 1) ls (.int x :: .int x :: r) h
    | .ref x :: r => lm_nx (pc + 1) ls (.ref x :: .ref x :: r) h
    | _ => none
  | .dup_x1 => match st with
    | .int x :: .ref y :: r => lm_nx (pc + 1) ls (.int x :: .ref y :: .int x :: r) h
    | _ => none
  | .dup2 => match st with
    | .int x :: .ref y :: r => lm_nx (pc + 1) ls (.int x :: .ref y :: .int x :: .ref y :: r) h
    | _ => none
  | .pop => match st with
    | .int _ :: r => lm_nx (pc + 1) ls r h
    | _ => none
  | .goto off => lm_go pc off ls st h
  | .if_icmp co off => match st with
    | .int y :: .int x :: r => lm_bt pc off co x y ls r h
    | _ => none
  | .ifCond co off => match st with
    | .int x :: r => lm_bt pc off co x 0 ls r h
    | _ => none
  | .ifnonnull off => match st with
    | .ref _ :: r => lm_go pc off ls r h
    | .null :: r => lm_nx (pc + 3) ls r h
    | _ => none
  | .tableswitch d lo hi os => match st with
    | .int x :: r => if hi - lo + 1 = (os.size : Int) ∧ -2147483648 ≤ lo ∧ hi ≤ 2147483647 then lm_go pc (lm_sw x lo os.toList d) ls r h else none
    | _ => none
  | .lookupswitch d ps => match st with
    | .int x :: r => if (ps.toList.zip (ps.toList.drop 1)).all (fun (a, next) => a.1 < next.1) = true ∧ ps.toList.all (fun q => decide (-2147483648 ≤ q.1 ∧ q.1 ≤ 2147483647)) = true then lm_go pc (lm_lk x ps.toList d) ls r h else none
    | _ => none
  | .getfield idx => match (lm_kF c).lookup idx with
    | some (ci, k, _) => (match st with
      | .ref a :: r => if h.2.2.2.1 a = 10 + ci then lm_nx (pc + 3) ls (lm_fv h ci a k :: r) h else none
      | _ => none)
    | none => none
  | .putfield idx => match (lm_kF c).lookup idx with
    | some (ci, k, _) => (match st with
      | v :: .ref a :: r => if h.2.2.2.1 a = 10 + ci ∧ 64 ≤ a ∧ lm_pok f c ci k = true then (match lm_put h (lm_ft ci k) a k v with
          | some h1 => lm_nx (pc + 3) ls r h1
          | none => none) else none
      | _ => none)
    | none => none
  | .iaload => match st with
    | .int i :: .ref a :: r => lm_ir pc a i ls r h (decide (h.2.2.2.1 a = 1)) (.int (h.1 a i.toNatClampNeg))
    | _ => none
  | .laload => match st with
    | .int i :: .ref a :: r => lm_ir pc a i ls r h (decide (h.2.2.2.1 a = 2)) (.long (h.2.1 a i.toNatClampNeg))
    | _ => none
  | .baload => match st with
    | .int i :: .ref a :: r => lm_ir pc a i ls r h (decide (h.2.2.2.1 a = 8)) (.int (h.1 a i.toNatClampNeg))
    | _ => none
  | .aaload => match st with
    | .int i :: .ref a :: r => lm_ir pc a i ls r h (decide (4 ≤ h.2.2.2.1 a ∧ h.2.2.2.1 a ≤ 6)) (va_rf (h.2.2.1 a i.toNatClampNeg))
    | _ => none
  | .iastore => match st with
    | .int x :: .int i :: .ref a :: r => if h.2.2.2.1 a = 1 ∧ 64 ≤ a ∧ ¬ (i < 0 ∨ h.2.2.2.2.1 a ≤ i.toNatClampNeg) then lm_nx (pc + 1) ls r (lm_up h.1 a i.toNatClampNeg x, h.2) else none
    | _ => none
  | .lastore => match st with
    | .long x :: .int i :: .ref a :: r => if h.2.2.2.1 a = 2 ∧ 64 ≤ a ∧ ¬ (i < 0 ∨ h.2.2.2.2.1 a ≤ i.toNatClampNeg) then lm_nx (pc + 1) ls r (h.1, lm_up h.2.1 a i.toNatClampNeg x, h.2.2) else none
    | _ => none
  | .aastore => match st with
    | .ref b :: .int i :: .ref a :: r => if h.2.2.2.1 a = 4 ∧ 64 ≤ a ∧ 64 ≤ b ∧ h.2.2.2.1 b = 12 ∧ ¬ (i < 0 ∨ h.2.2.2.2.1 a ≤ i.toNatClampNeg) then lm_nx (pc + 1) ls r (h.1, h.2.1, lm_up h.2.2.1 a i.toNatClampNeg (some b), h.2.2.2) else none
    | _ => none
  | .arraylength => match st with
    | .ref a :: r => if h.2.2.2.1 a ≠ 0 ∧ h.2.2.2.1 a < 10 then lm_nx (pc + 1) ls (.int (Int32.ofNat (h.2.2.2.2.1 a)) :: r) h else none
    | _ => none
  | .new idx => match (lm_kC c).lookup idx with
    | some (ci, N, _) => if h.2.2.2.1 ((lm_at f pc).getD h.2.2.2.2.2.1) = 0 ∧ 64 ≤ (lm_at f pc).getD h.2.2.2.2.2.1 ∧ ci < 8 then lm_nx (pc + 3) ls (.ref ((lm_at f pc).getD h.2.2.2.2.2.1) :: st) (lm_new h ((lm_at f pc).getD h.2.2.2.2.2.1) ci N) else none
    | none => none
  | .newarray ty => match st with
    | .int n :: r => if h.2.2.2.1 h.2.2.2.2.2.1 = 0 ∧ 64 ≤ h.2.2.2.2.2.1 ∧ ¬ n < 0 ∧ n.toNatClampNeg ≤ 100000 ∧ (ty = .int ∨ ty = .long) then lm_nx (pc + 2) ls (.ref h.2.2.2.2.2.1 :: r) (lm_arr h h.2.2.2.2.2.1 (if ty = .int then 1 else 2) n.toNatClampNeg) else none
    | _ => none
  | .anewarray idx => match (lm_kC c).lookup idx with
    | some (ci, _, _) => (match st with
      | .int n :: r => if h.2.2.2.1 h.2.2.2.2.2.1 = 0 ∧ 64 ≤ h.2.2.2.2.2.1 ∧ ¬ n < 0 ∧ n.toNatClampNeg ≤ 100000 ∧ ci = 2 then lm_nx (pc + 3) ls (.ref h.2.2.2.2.2.1 :: r) (lm_arr h h.2.2.2.2.2.1 4 n.toNatClampNeg) else none
      | _ => none)
    | none => none
  | .multianewarray idx dm => match (lm_kC c).lookup idx with
    | some (ci, _, _) => (match st with
      | .int m :: .int n :: r => if dm = 2 ∧ (ci = 105 ∨ ci = 106) ∧ 64 ≤ h.2.2.2.2.2.1 ∧ ¬ n < 0 ∧ ¬ m < 0 ∧ n.toNatClampNeg ≤ 1000 ∧ m.toNatClampNeg ≤ 1000 ∧ (List.range (n.toNatClampNeg + 1)).all (fun j => h.2.2.2.1 (h.2.2.2.2.2.1 + j) == 0) = true then
          lm_nx (pc + 4) ls (.ref h.2.2.2.2.2.1 :: r) (lm_mul h h.2.2.2.2.2.1 (if ci = 105 then 5 else 6) (if ci = 105 then 1 else 2) n.toNatClampNeg m.toNatClampNeg) else none
      | _ => none)
    | none => none
  | .invokevirtual idx => lm_iv ((lm_kM c).lookup idx) 0 pc ls st h
  | .invokestatic idx => lm_iv ((lm_kM c).lookup idx) 1 pc ls st h
  | .invokespecial idx => lm_iv ((lm_kM c).lookup idx) 2 pc ls st h
  | .ireturn => match st with
    | [.int v] => match (lm_m f).2.2.2.2.1 with
      | some .int => some (.inr (.inl (some (.int v), h)))
      | some ty => if narrow ty (.int v) = .int v then some (.inr (.inl (some (.int v), h))) else none
      | none => none
    | _ => none
  | .lreturn => match st with
    | [.long v] => match (lm_m f).2.2.2.2.1 with
      | some .long => some (.inr (.inl (some (.long v), h)))
      | _ => none
    | _ => none
  | .areturn => match st with
    | [.ref v] => match (lm_m f).2.2.2.2.1 with
      | some (.object _) => some (.inr (.inl (some (.ref v), h)))
      | _ => none
    | _ => none
  | .return_ => match st with
    | [] => match (lm_m f).2.2.2.2.1 with
      | none => some (.inr (.inl (none, h)))
      | some _ => none
    | _ => none
  | _ => none
noncomputable def lm_st (f pc : Nat) (ls st : List Value) (h : lm_H) : Option lm_R := match (lm_m f).2.2.2.2.2.1.lookup pc with
  | some (i, _) => lm_i f (lm_m f).1 pc i ls st h
  | none => none
def lm_exp : List Value → List Value
  | [] => []
  | v :: r => if v.category = 2 then v :: lm_jk :: lm_exp r else v :: lm_exp r
def lm_ini (n : Nat) (as : List Value) : List Value := lm_exp as ++ List.replicate (n - (lm_exp as).length) lm_jk
/-- n: steps, d: how deep calls may go -/
noncomputable def lm_ex : Nat → Nat → Nat → Nat → List Value → List Value → lm_H → Option (Option Value × lm_H)
  | 0, _, _, _, _, _, _ => none
  | n + 1, d, f, pc, ls, st, h => match lm_st f pc ls st h with
    | none => none
    | some (.inl q) => lm_ex n d f q.1 q.2.1 q.2.2.1 q.2.2.2
    | some (.inr (.inl r)) => some r
    | some (.inr (.inr q)) => match d with
      | 0 => none
      | e + 1 => if (lm_exp q.2.1).length ≤ (lm_m q.1).2.2.2.1 then (match lm_ex n e q.1 0 (lm_ini (lm_m q.1).2.2.2.1 q.2.1) [] q.2.2.2.2 with
        | some r => lm_ex n (e + 1) f q.2.2.1 ls (r.1.toList ++ q.2.2.2.1) r.2
        | none => none) else none
/-- the instructions' own lengths -/
def lm_len (i : Instr) : Nat := match i with
  | .bipush _ | .ldc _ | .iload _ | .lload _ | .aload _ | .istore _ | .lstore _ | .astore _ | .newarray _ => 2
  | .sipush _ | .ldc_w _ | .ldc2_w _ | .getstatic _ | .iinc _ _ | .goto _ | .if_icmp _ _ | .ifCond _ _ | .ifnonnull _ | .getfield _ | .putfield _ | .new _ | .anewarray _ | .invokevirtual _ | .invokestatic _ | .invokespecial _ => 3
  | .multianewarray _ _ => 4
  | _ => 1
def lm_lok (q : Nat × Instr × Nat) : Bool := match q.2.1 with
  | .tableswitch .. | .lookupswitch .. => true
  | i => q.2.2 == lm_len i
