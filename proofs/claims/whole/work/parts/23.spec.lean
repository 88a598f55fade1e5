/-! small numbers as ints; updates; what the town's data say -/
theorem nI_add' (a b : Nat) : nI a + nI b = nI (a + b) := (Int32.ofNat_add a b).symm
theorem nI_mul' (a b : Nat) : nI a * nI b = nI (a * b) := (Int32.ofNat_mul a b).symm
theorem nI_ti {a : Nat} (h : a < 2147483648) : (nI a).toInt = (a : Int) := Int32.toInt_ofNat_of_lt (by omega)
theorem nI_lt_iff {a b : Nat} (ha : a < 2147483648) (hb : b < 2147483648) : nI a < nI b ↔ a < b := by
  rw [Int32.lt_iff_toInt_lt, nI_ti ha, nI_ti hb]
  omega
theorem nI_inj {a b : Nat} (ha : a < 2147483648) (hb : b < 2147483648) : nI a = nI b ↔ a = b := by
  constructor
  · intro h
    have h1 := congrArg Int32.toInt h
    rw [nI_ti ha, nI_ti hb] at h1
    omega
  · intro h; rw [h]
theorem nI_nat {x : Int32} (h0 : ¬ x < 0) : x = nI x.toNatClampNeg ∧ x.toNatClampNeg < 2147483648 := by
  rw [Int32.lt_iff_toInt_lt] at h0
  have h1 : x.toInt < 2147483648 := by have := Int32.toInt_lt x; simpa using this
  have h2 : (0 : Int32).toInt = 0 := rfl
  rw [h2] at h0
  have h3 : (x.toNatClampNeg : Int) = x.toInt := by
    show ((x.toInt.toNat : Nat) : Int) = x.toInt
    omega
  refine ⟨?_, by omega⟩
  apply Int32.toInt_inj.mp
  rw [nI_ti (by omega)]
  omega
/-- an int between 0 and n -/
theorem nI_mk {x : Int32} {n : Nat} (h0 : ¬ x < 0) (h1 : ¬ nI n < x) (hn : n < 2147483648) : ∃ j, x = nI j ∧ j ≤ n := by
  obtain ⟨e, hlt⟩ := nI_nat h0
  refine ⟨_, e, ?_⟩
  rw [e, nI_lt_iff hn hlt] at h1
  omega
def aI : Nat → Int32
  | 0 => -1
  | a + 1 => nI a
theorem aI_succ (i : Nat) : aI i + 1 = aI (i + 1) := by
  cases i with
  | zero => rfl
  | succ a => exact (nI_succ a).symm
theorem aI_toInt {i : Nat} (h : i < 2147483648) : (aI i).toInt = (i : Int) - 1 := by
  cases i with
  | zero => rfl
  | succ a =>
    show (nI a).toInt = _
    rw [nI_ti (by omega)]
    omega
theorem aI_lt {i n : Nat} (hi : i < 2147483648) (hn : n < 2147483648) : aI i < nI n ↔ i < n + 1 := by
  rw [Int32.lt_iff_toInt_lt, nI_ti hn, aI_toInt hi]
  omega
theorem aI_none {i : Nat} (hi : i < 2147483648) : aI i = -1 ↔ i = 0 := by
  constructor
  · intro h
    have h1 := congrArg Int32.toInt h
    rw [aI_toInt hi, show (-1 : Int32).toInt = -1 from rfl] at h1
    omega
  · rintro rfl; rfl
theorem lm_up_eq {α : Type} {f : Nat → Nat → α} {a k : Nat} {v : α} : lm_up f a k v a k = v := by simp [lm_up]
theorem lm_up_na {α : Type} {f : Nat → Nat → α} {a b k j : Nat} {v : α} (h : b ≠ a) : lm_up f a k v b j = f b j := by simp [lm_up, h]
theorem lm_up_nk {α : Type} {f : Nat → Nat → α} {a b k j : Nat} {v : α} (h : j ≠ k) : lm_up f a k v b j = f b j := by simp [lm_up, h]
theorem lm_up_rw {α : Type} {f : Nat → Nat → α} {a b k : Nat} {v : α} (h : b ≠ a) : lm_up f a k v b = f b := by funext j; exact lm_up_na h
theorem lm_rw_eq {α : Type} {f : Nat → Nat → α} {a : Nat} {g : Nat → α} : lm_row f a g a = g := by simp [lm_row]
theorem lm_rw_na {α : Type} {f : Nat → Nat → α} {a b : Nat} {g : Nat → α} (h : b ≠ a) : lm_row f a g b = f b := by simp [lm_row, h]
/-- a town's data: 0 kinds, 1 marks, 2 counts, 3 numbers, 4 needs, 5 bars, 6 locks (of acts), 7 worths -/
abbrev lm_T : Type := Nat → Nat → Int32
def lkd (l : Int32) (hf : Nat) : Bool := !decide ((l >>> (nI hf &&& 31)) &&& 1 = 0)
/-- whether act i - 1 (0: none) can be done -/
def alw (T : lm_T) (i hf : Nat) (s : Int32) : Bool := match i with
  | 0 => true
  | a + 1 => if lkd (T 6 a) hf = true then false else if ¬ s &&& T 4 a = T 4 a then false else if ¬ s &&& T 5 a = 0 then false
    else if T 0 a = 1 then !s_std s (T 1 a) else if T 0 a = 2 then s_std s (T 1 a)
    else if T 0 a = 4 then (!s_std s (T 1 a) && !decide (s_count s (T 2 a) < T 3 a)) else if T 0 a = 5 then (s_std s (T 1 a) && !decide (23 < s_count s (T 2 a) + T 3 a)) else true
def aft (T : lm_T) (i : Nat) (s : Int32) : Int32 := match i with
  | 0 => s
  | a + 1 => if T 0 a = 1 then s_turn s (T 1 a) else if T 0 a = 2 then s_turn s (T 1 a) else if T 0 a = 3 then s_turn s (T 1 a)
    else if T 0 a = 4 then s_with (s_turn s (T 1 a)) (T 2 a) (s_count s (T 2 a) - T 3 a) else if T 0 a = 5 then s_with (s_turn s (T 1 a)) (T 2 a) (s_count s (T 2 a) + T 3 a)
    else s_with s (T 2 a) (if s_count s (T 2 a) + T 3 a < 23 then s_count s (T 2 a) + T 3 a else 23)
def val_m (T : lm_T) (hf : Nat) (s : Int32) : Nat → Int32
  | 0 => 0
  | m + 1 => if s_std s (nI m) = true then val_m T hf s m + T 7 (12 * hf + m) else val_m T hf s m
def val_c (T : lm_T) (hf : Nat) (s : Int32) : Nat → Int32
  | 0 => val_m T hf s 8
  | c + 1 => val_c T hf s c + s_count s (nI c) * T 7 (12 * hf + 8 + c)
def val (T : lm_T) (hf : Nat) (s : Int32) : Int32 := val_c T hf s 4
/-- the class's town at b has the data T, n acts -/
def isT (hi : Nat → Nat → Int32) (b : Nat) (T : lm_T) (n : Nat) : Prop := (∀ k, k < 7 → ∀ a, a < 10 → hi (b + (1 + k)) a = T k a) ∧ (∀ a, a < 24 → hi (b + 8) a = T 7 a) ∧ hi b 9 = nI n ∧ n ≤ 10
section
variable {hi : Nat → Nat → Int32} {b n : Nat} {T : lm_T}
theorem isT0 (H : isT hi b T n) {a : Nat} (h : a < 10) : hi (b + 1) a = T 0 a := H.1 0 (by decide) a h
theorem isT1 (H : isT hi b T n) {a : Nat} (h : a < 10) : hi (b + 2) a = T 1 a := H.1 1 (by decide) a h
theorem isT2 (H : isT hi b T n) {a : Nat} (h : a < 10) : hi (b + 3) a = T 2 a := H.1 2 (by decide) a h
theorem isT3 (H : isT hi b T n) {a : Nat} (h : a < 10) : hi (b + 4) a = T 3 a := H.1 3 (by decide) a h
theorem isT4 (H : isT hi b T n) {a : Nat} (h : a < 10) : hi (b + 5) a = T 4 a := H.1 4 (by decide) a h
theorem isT5 (H : isT hi b T n) {a : Nat} (h : a < 10) : hi (b + 6) a = T 5 a := H.1 5 (by decide) a h
theorem isT6 (H : isT hi b T n) {a : Nat} (h : a < 10) : hi (b + 7) a = T 6 a := H.1 6 (by decide) a h
theorem isT7 (H : isT hi b T n) {a : Nat} (h : a < 24) : hi (b + 8) a = T 7 a := H.2.1 a h
theorem isTn (H : isT hi b T n) : hi b 9 = nI n := H.2.2.1
theorem isTle (H : isT hi b T n) : n ≤ 10 := H.2.2.2
end
theorem and1_or (x : Int32) : x &&& 1 = 0 ∨ x &&& 1 = 1 := by
  have h : ∀ y : BitVec 32, y &&& 1#32 = 0#32 ∨ y &&& 1#32 = 1#32 := by
    intro y
    have h1 : (y &&& 1#32).toNat = y.toNat % 2 := by
      rw [BitVec.toNat_and]
      exact Nat.and_one_is_mod _
    rcases Nat.mod_two_eq_zero_or_one y.toNat with h2 | h2
    · left; apply BitVec.eq_of_toNat_eq; rw [h1, h2]; rfl
    · right; apply BitVec.eq_of_toNat_eq; rw [h1, h2]; rfl
  rcases h x.toBitVec with h1 | h1
  · left; apply Int32.toBitVec_inj.mp; exact h1
  · right; apply Int32.toBitVec_inj.mp; exact h1
def awk (s : Int32) : Nat := (s_awake s).toNatClampNeg
theorem awk_or (s : Int32) : s_awake s = 0 ∨ s_awake s = 1 := by
  unfold s_awake
  generalize s >>> (28 &&& 31) = x
  exact and1_or x
theorem awk_lt (s : Int32) : awk s < 2 := by
  unfold awk
  rcases awk_or s with h | h <;> rw [h] <;> decide
theorem awk_eq (s : Int32) : s_awake s = nI (awk s) := by
  unfold awk
  rcases awk_or s with h | h <;> rw [h] <;> decide
/-! frames: nothing is changed outside of the cells lo .. up - 1 -/
def fr (lo up : Nat) (hi hi' : Nat → Nat → Int32) : Prop := ∀ a, (a < lo ∨ up ≤ a) → hi' a = hi a
theorem fr_rfl {lo up : Nat} {hi : Nat → Nat → Int32} : fr lo up hi hi := fun _ _ => rfl
theorem fr_trans {lo up : Nat} {h0 h1 h2 : Nat → Nat → Int32} (f : fr lo up h0 h1) (g : fr lo up h1 h2) : fr lo up h0 h2 := fun a ha => (g a ha).trans (f a ha)
theorem fr_mono {lo up lo' up' : Nat} {h0 h1 : Nat → Nat → Int32} (f : fr lo up h0 h1) (h : lo' ≤ lo ∧ up ≤ up') : fr lo' up' h0 h1 := fun a ha => f a (by omega)
theorem fr_up {lo up a k : Nat} {v : Int32} {h0 h1 : Nat → Nat → Int32} (f : fr lo up h0 h1) (h : lo ≤ a ∧ a < up) : fr lo up h0 (lm_up h1 a k v) := fun c hc => (lm_up_rw (by omega)).trans (f c hc)
theorem fr_row {lo up a : Nat} {g : Nat → Int32} {h0 h1 : Nat → Nat → Int32} (f : fr lo up h0 h1) (h : lo ≤ a ∧ a < up) : fr lo up h0 (lm_row h1 a g) := fun c hc => (lm_rw_na (by omega)).trans (f c hc)
theorem isT_fr {hi hi' : Nat → Nat → Int32} {b n lo up : Nat} {T : lm_T} (f : fr lo up hi hi') (hd : b + 10 ≤ lo ∨ up ≤ b) (H : isT hi b T n) : isT hi' b T n := by
  refine ⟨fun k hk a ha => ?_, fun a ha => ?_, ?_, H.2.2.2⟩
  · rw [f _ (by omega)]; exact H.1 k hk a ha
  · rw [f _ (by omega)]; exact H.2.1 a ha
  · rw [f _ (by omega)]; exact H.2.2.1
theorem isT_f {hi : Nat → Nat → Int32} {b n k : Nat} {T : lm_T} {v : Int32} (hk : k ≠ 9) (H : isT hi b T n) : isT (lm_up hi b k v) b T n := by
  refine ⟨fun j hj a ha => ?_, fun a ha => ?_, ?_, H.2.2.2⟩
  · rw [lm_up_na (by omega)]; exact H.1 j hj a ha
  · rw [lm_up_na (by omega)]; exact H.2.1 a ha
  · rw [lm_up_nk (Ne.symm hk)]; exact H.2.2.1
theorem isT_g {hi : Nat → Nat → Int32} {b n k : Nat} {T : lm_T} {v : Int32} (H : isT hi b T n) : isT (lm_up hi (b + 9) k v) b T n := by
  refine ⟨fun j hj a ha => ?_, fun a ha => ?_, ?_, H.2.2.2⟩
  · rw [lm_up_na (by omega)]; exact H.1 j hj a ha
  · rw [lm_up_na (by omega)]; exact H.2.1 a ha
  · rw [lm_up_na (by omega)]; exact H.2.2.1
theorem isT_o {hi : Nat → Nat → Int32} {a b n k : Nat} {T : lm_T} {v : Int32} (ha : a < b ∨ b + 10 ≤ a) (H : isT hi b T n) : isT (lm_up hi a k v) b T n :=
  isT_fr (lo := a) (up := a + 1) (fr_up fr_rfl (by omega)) (by omega) H
/-- the rest of a town: 10 state, 11 hidden, 12 days, 13 seed, 14 before, 15 whether it is known, 20 and 21 gains -/
def isR (hi : Nat → Nat → Int32) (b : Nat) (R : Nat → Int32) : Prop := hi b 10 = R 10 ∧ hi b 11 = R 11 ∧ hi b 12 = R 12 ∧ hi b 13 = R 13 ∧ hi b 14 = R 14 ∧ hi b 15 = R 15 ∧ hi (b + 9) 0 = R 20 ∧ hi (b + 9) 1 = R 21
theorem isR_fr {hi hi' : Nat → Nat → Int32} {b lo up : Nat} {R : Nat → Int32} (f : fr lo up hi hi') (hd : b + 10 ≤ lo ∨ up ≤ b) (H : isR hi b R) : isR hi' b R := by
  unfold isR
  rw [f b (by omega), f (b + 9) (by omega)]
  exact H
/-- a day in truth -/
def lvR (T : lm_T) (i : Nat) (R : Nat → Int32) : Nat → Int32 := fun k => if k = 10 then s_next (aft T i (R 10)) else if k = 12 then R 12 + 1 else if k = 14 then R 10 else if k = 15 then 1 else if k = 20 + awk (R 10) then R k + val T (awk (R 10)) (aft T i (R 10)) else R k
