set_option maxRecDepth 16384
/-! the reference: over, bits, foundBy, goes; Integer.bitCount -/
def ovr {α : Type} (f h : Nat → α) (n : Nat) : Nat → α := fun j => if j < n then f j else h j
theorem ovr_up {hi : Nat → Nat → Int32} {p q m : Nat} : lm_up (lm_row hi q (ovr (hi p) (hi q) m)) q m (hi p m) = lm_row hi q (ovr (hi p) (hi q) (m + 1)) := by
  funext a j
  unfold lm_up lm_row ovr
  by_cases h : a = q
  · subst h
    by_cases h2 : j = m
    · subst h2; simp
    · simp [h2]
      by_cases h3 : j < m
      · simp [h3, show j < m + 1 by omega]
      · simp [h3, show ¬ j < m + 1 by omega]
  · simp [h]
theorem ovr_0 {hi : Nat → Nat → Int32} {p q : Nat} : lm_row hi q (ovr (hi p) (hi q) 0) = hi := by
  funext a j
  unfold lm_row ovr
  by_cases h : a = q <;> simp [h]
theorem m_ov1 {d : Nat} {hi : Nat → Nat → Int32} {hl : Nat → Nat → Int64} {X : lm_X} {p q N : Nat} (k0 : X.2.1 p = 1) (k1 : X.2.1 q = 1) (l0 : X.2.2.1 p = N) (l1 : X.2.2.1 q = N) (g1 : 64 ≤ q) (hpq : p ≠ q) (hN : N < 1000) {P : Option Value → lm_H → Prop} (k : ∀ mk : Int32, lm_wp d 221 20 [.ref p, .ref q, .int mk] [] (lm_row hi q (ovr (hi p) (hi q) N), hl, X) P) : ∀ (j m : Nat) (hf : Nat → Nat → Int32) (mk : Int32), m + j = N → (hf = lm_row hi q (ovr (hi p) (hi q) m)) → (mk = nI m) → lm_wp d 221 2 [.ref p, .ref q, .int mk] [] (hf, hl, X) P := by
  intro j
  induction j with
  | zero =>
    intro m hf mk hm e1 e2
    refine w_N 2 4 [.ref p, .ref q, .int mk] [.ref p, .int mk] rfl ?_
    refine w_al N rfl ⟨by rw [k0]; decide, by rw [k0]; decide⟩ l0 ?_
    refine w_icmp_ge_t (t := 20) rfl rfl (by rw [e2, show m = N by omega]; exact fun z => Int32.lt_irrefl z) ?_
    obtain rfl : m = N := by omega
    rw [e1]
    exact k _
  | succ j ih =>
    intro m hf mk hm e1 e2
    refine w_N 2 4 [.ref p, .ref q, .int mk] [.ref p, .int mk] rfl ?_
    refine w_al N rfl ⟨by rw [k0]; decide, by rw [k0]; decide⟩ l0 ?_
    refine w_icmp_ge_f (t := 20) rfl rfl (by rw [e2]; exact nI_lt (by omega) (by omega)) ?_
    refine w_N 4 12 [.ref p, .ref q, .int mk] [.int mk, .ref p, .int mk, .ref q] rfl ?_
    refine w_ia m (v := hi p m) rfl k0 l0 e2 (by omega) (by omega) ((by rw [e1]; exact congrFun (lm_rw_na hpq) _)) ?_
    refine w_is m rfl k1 g1 l1 e2 (by omega) (by omega) ?_
    refine w_N 2 2 [.ref p, .ref q, .int (mk + 1)] [] rfl ?_
    exact ih (m + 1) _ _ (by omega) (by rw [e1]; exact ovr_up) (by rw [e2, nI_succ])
theorem m_over {d : Nat} {hi : Nat → Nat → Int32} {hl : Nat → Nat → Int64} {X : lm_X} {p q N : Nat} (k0 : X.2.1 p = 1) (k1 : X.2.1 q = 1) (l0 : X.2.2.1 p = N) (l1 : X.2.2.1 q = N) (g1 : 64 ≤ q) (hpq : p ≠ q) (hN : N < 1000) : lm_c d 221 [.ref p, .ref q] (hi, hl, X) (none, (lm_row hi q (ovr (hi p) (hi q) N), hl, X)) := by
  refine lm_c_of (lm_w_in (Nat.le_of_ble_eq_true rfl) ?_)
  show lm_wp d 221 0 [.ref p, .ref q, lm_jk] [] (hi, hl, X) _
  refine w_N 2 2 [.ref p, .ref q, .int 0] [] rfl ?_
  refine m_ov1 k0 k1 l0 l1 g1 hpq hN (fun mk => ?_) N 0 _ _ (by omega) ovr_0.symm rfl
  exact w_rv rfl rfl rfl
def bsm (x : Int32) : Nat → Int32
  | 0 => 0
  | k + 1 => bsm x k + ((x >>> (nI k &&& 31)) &&& 1)
theorem m_bi1 {d : Nat} {hi : Nat → Nat → Int32} {hl : Nat → Nat → Int64} {X : lm_X} {x : Int32} {P : Option Value → lm_H → Prop} (k : ∀ mk : Int32, lm_wp d 136 24 [.int x, .int (bsm x 11), .int mk] [] (hi, hl, X) P) : ∀ (j m : Nat) (sm : Int32) (mk : Int32), m + j = 11 → (sm = bsm x m) → (mk = nI m) → lm_wp d 136 4 [.int x, .int sm, .int mk] [] (hi, hl, X) P := by
  intro j
  induction j with
  | zero =>
    intro m sm mk hm e1 e2
    refine w_N 2 7 [.int x, .int sm, .int mk] [.int 10, .int mk] rfl ?_
    refine w_icmp_gt_t (t := 24) rfl rfl (by rw [e2, show m = 11 by omega]; decide) ?_
    obtain rfl : m = 11 := by omega
    rw [e1]
    exact k _
  | succ j ih =>
    intro m sm mk hm e1 e2
    refine w_N 2 7 [.int x, .int sm, .int mk] [.int 10, .int mk] rfl ?_
    refine w_icmp_gt_f (t := 24) rfl rfl (by rw [e2, show (10 : Int32) = nI 10 from rfl, nI_lt_iff (by omega) (by omega)]; omega) ?_
    refine w_N 10 4 [.int x, .int (sm + ((x >>> (mk &&& 31)) &&& 1)), .int (mk + 1)] [] rfl ?_
    exact ih (m + 1) _ _ (by omega) (by rw [e1, e2]; rfl) (by rw [e2, nI_succ])
theorem m_bits {d : Nat} {hi : Nat → Nat → Int32} {hl : Nat → Nat → Int64} {X : lm_X} {x : Int32} : lm_c d 136 [.int x] (hi, hl, X) (some (.int (bsm x 11)), (hi, hl, X)) := by
  refine lm_c_of (lm_w_in (Nat.le_of_ble_eq_true rfl) ?_)
  show lm_wp d 136 0 [.int x, lm_jk, lm_jk] [] (hi, hl, X) _
  refine w_N 4 4 [.int x, .int 0, .int 0] [] rfl ?_
  refine m_bi1 (fun mk => ?_) 11 0 _ _ (by omega) rfl rfl
  refine w_N 1 25 _ [.int (bsm x 11)] rfl ?_
  exact w_ri rfl rfl rfl
def ius (x k : Int32) : Int32 := (x.toUInt32 >>> (Int32.toUInt32 k &&& Int32.toUInt32 31)).toInt32
def bc1 (x : Int32) : Int32 := x - (ius x 1 &&& 1431655765)
def bc2 (x : Int32) : Int32 := (x &&& 858993459) + (ius x 2 &&& 858993459)
def bc3 (x : Int32) : Int32 := (x + ius x 4) &&& 252645135
def bc4 (x : Int32) : Int32 := x + ius x 8
def bc5 (x : Int32) : Int32 := x + ius x 16
def bcn (x : Int32) : Int32 := bc5 (bc4 (bc3 (bc2 (bc1 x)))) &&& 63
theorem j_bitCount {d : Nat} {hi : Nat → Nat → Int32} {hl : Nat → Nat → Int64} {X : lm_X} {x : Int32} : lm_c d 226 [.int x] (hi, hl, X) (some (.int (bcn x)), (hi, hl, X)) := by
  refine lm_c_of (lm_w_in (Nat.le_of_ble_eq_true rfl) ?_)
  show lm_wp d 226 0 [.int x] [] (hi, hl, X) _
  refine w_N 8 10 [.int (bc1 x)] [] rfl ?_
  refine w_N 10 24 [.int (bc2 (bc1 x))] [] rfl ?_
  refine w_N 8 34 [.int (bc3 (bc2 (bc1 x)))] [] rfl ?_
  refine w_N 6 41 [.int (bc4 (bc3 (bc2 (bc1 x))))] [] rfl ?_
  refine w_N 6 48 [.int (bc5 (bc4 (bc3 (bc2 (bc1 x)))))] [] rfl ?_
  refine w_N 3 52 _ [.int (bcn x)] rfl ?_
  exact w_ri rfl rfl rfl
theorem bcn_bsm : ∀ v, v < 2048 → bcn (nI v) = bsm (nI v) 11 := by decide +kernel
/-! states as longs, compared -/
def cnN (s : Int32) : Nat := ((ctN s 0 * 32 + ctN s 1) * 32 + ctN s 2) * 32 + ctN s 3
theorem cnN_lt (s : Int32) : cnN s < 1048576 ∧ stN s 4 = mkN s * 1048576 + cnN s := by
  have h0 := (ctN_e s (c := 0) (by decide)).1
  have h1 := (ctN_e s (c := 1) (by decide)).1
  have h2 := (ctN_e s (c := 2) (by decide)).1
  have h3 := (ctN_e s (c := 3) (by decide)).1
  have e : stN s 4 = (((mkN s * 32 + ctN s 0) * 32 + ctN s 1) * 32 + ctN s 2) * 32 + ctN s 3 := rfl
  rw [e]
  unfold cnN
  omega
theorem stg_rem (s : Int32) : stg s - stg s / 1048576 * 1048576 = nL (cnN s) := by
  have h := cnN_lt s
  have hm := (mkN_e s).1
  unfold stg
  rw [show (1048576 : Int64) = nL 1048576 from rfl, nL_rem (by omega) (by decide)]
  congr 1
  omega
theorem nL_shr {n : Nat} (h : n < 9223372036854775808) : nL n >>> (Int32.toInt64 20 &&& 63) = nL (n / 1048576) := by
  apply Int64.toInt_inj.mp
  rw [nL_ti (by omega)]
  have e : (Int32.toInt64 20 &&& 63 : Int64) = 20 := by decide
  rw [e]
  show (nL n >>> (20 : Int64)).toBitVec.toInt = _
  rw [Int64.toBitVec_shiftRight, BitVec.sshiftRight_eq', show (BitVec.smod (Int64.toBitVec 20) 64).toNat = 20 by decide, BitVec.toInt_sshiftRight]
  rw [show (nL n).toBitVec.toInt = (n : Int) from nL_ti h]
  rw [Int.shiftRight_eq_div_pow]
  rfl
theorem stg_shr (s : Int32) : stg s >>> (Int32.toInt64 20 &&& 63) = nL (mkN s) := by
  have h := cnN_lt s
  have hm := (mkN_e s).1
  unfold stg
  rw [nL_shr (by omega)]
  congr 1
  omega
theorem lgc_eq (x y : Int64) : lg_cmp x y = 0 ↔ x = y := by
  unfold lg_cmp
  split
  · rename_i h
    have h := Int64.lt_iff_toInt_lt.mp h
    constructor
    · intro z; exact absurd z (by decide)
    · intro z; subst z; omega
  · split
    · rename_i h; exact ⟨fun _ => h, fun _ => rfl⟩
    · rename_i h; exact ⟨fun z => absurd z (by decide), fun z => absurd z h⟩
theorem nL_inj {a b : Nat} (ha : a < 9223372036854775808) (hb : b < 9223372036854775808) : nL a = nL b ↔ a = b := by
  constructor
  · intro h
    have h1 := congrArg Int64.toInt h
    rw [nL_ti ha, nL_ti hb] at h1
    omega
  · intro h; rw [h]
theorem msk_iff {a b u : Nat} (ha : a < 256) (hb : b < 256) (hu : u < 256) : ((nL a ^^^ nL b) &&& Int32.toInt64 (nI u ^^^ (-1)) = 0) ↔ ∀ i, i < 8 → ((a.testBit i ^^ b.testBit i) && !(u.testBit i)) = false := by
  have hl : ∀ v i, v < 256 → (nL v).toBitVec.getLsbD i = v.testBit i := fun v i hv => by
    unfold nL
    rw [show (Int64.ofNat v).toBitVec = BitVec.ofNat 64 v from rfl, BitVec.getLsbD_ofNat]
    by_cases h : i < 64
    · simp [h]
    · simp [h]
      exact Nat.testBit_lt_two_pow (Nat.lt_of_lt_of_le hv (Nat.pow_le_pow_right (n := 2) (by decide) (show 8 ≤ i by omega)))
  have hm : ∀ i, i < 32 → (Int32.toInt64 (nI u ^^^ (-1))).toBitVec.getLsbD i = !(u.testBit i) := fun i hi => by
    rw [show (Int32.toInt64 (nI u ^^^ (-1))).toBitVec = (nI u ^^^ (-1)).toBitVec.signExtend 64 from rfl, BitVec.getLsbD_signExtend]
    simp only [show i < 64 by omega, hi, decide_true, Bool.true_and, if_true]
    show bt (nI u ^^^ (-1)) i = _
    rw [bt_xor, bt_nI hi, bt_m1 hi, Bool.xor_true]
  constructor
  · intro h i hi
    have h1 := congrArg (fun z : Int64 => z.toBitVec.getLsbD i) h
    simp only [Int64.toBitVec_and, Int64.toBitVec_xor, BitVec.getLsbD_and, BitVec.getLsbD_xor, hl a i ha, hl b i hb, hm i (by omega)] at h1
    rw [h1]
    have z : ∀ i, i < 8 → (Int64.toBitVec 0).getLsbD i = false := by decide
    exact z i hi
  · intro h
    apply Int64.toBitVec_inj.mp
    apply BitVec.eq_of_getLsbD_eq
    intro i hi
    rw [Int64.toBitVec_and, Int64.toBitVec_xor, BitVec.getLsbD_and, BitVec.getLsbD_xor, hl a i ha, hl b i hb, show (Int64.toBitVec 0).getLsbD i = false from BitVec.getLsbD_zero]
    by_cases h8 : i < 8
    · rw [hm i (by omega)]; exact h i h8
    · have q : ∀ v, v < 256 → v.testBit i = false := fun v hv => Nat.testBit_lt_two_pow (Nat.lt_of_lt_of_le hv (Nat.pow_le_pow_right (n := 2) (by decide) (show 8 ≤ i by omega)))
      rw [q a ha, q b hb]; rfl
theorem mkN_bt (s : Int32) {i : Nat} (hi : i < 8) : (mkN s).testBit i = bt s i := by
  rw [← bt_nI (by omega), ← (mkN_e s).2, bt_marks (by omega)]
  simp [hi]
theorem ctN_bt (s : Int32) {c i : Nat} (hc : c < 4) (hi : i < 5) : (ctN s c).testBit i = bt s (i + (8 + 5 * c)) := by
  rw [← bt_nI (by omega), ← (ctN_e s hc).2, bt_count hc (by omega)]
  simp [hi]
theorem cnN_inj {s t : Int32} (h : cnN s = cnN t) : ∀ c, c < 4 → ctN s c = ctN t c := by
  have h0 := (ctN_e s (c := 0) (by decide)).1
  have h1 := (ctN_e s (c := 1) (by decide)).1
  have h2 := (ctN_e s (c := 2) (by decide)).1
  have h3 := (ctN_e s (c := 3) (by decide)).1
  have k0 := (ctN_e t (c := 0) (by decide)).1
  have k1 := (ctN_e t (c := 1) (by decide)).1
  have k2 := (ctN_e t (c := 2) (by decide)).1
  have k3 := (ctN_e t (c := 3) (by decide)).1
  unfold cnN at h
  intro c hc
  rcases (by omega : c = 0 ∨ c = 1 ∨ c = 2 ∨ c = 3) with rfl | rfl | rfl | rfl <;> omega
theorem alike_iff {t s : Int32} {u : Nat} (ht : okS t) (hs : okS s) (hw : awk (s_next t) = awk s) (hu : u < 256) : (cnN t = cnN s ∧ ∀ i, i < 8 → (((mkN t).testBit i ^^ (mkN s).testBit i) && !(u.testBit i)) = false) ↔ (s_next t &&& (nI u ^^^ (-1)) = s &&& (nI u ^^^ (-1))) := by
  have hub : ∀ i, i < 32 → 8 ≤ i → u.testBit i = false := fun i _ h8 => Nat.testBit_lt_two_pow (Nat.lt_of_lt_of_le hu (Nat.pow_le_pow_right (n := 2) (by decide) h8))
  constructor
  · rintro ⟨h1, h2⟩
    have hc := cnN_inj h1
    apply bt_ext
    intro i hi
    rw [bt_and, bt_and, bt_xor, bt_nI hi, bt_m1 hi, Bool.xor_true, bt_next hi]
    by_cases h8 : i < 8
    · have := h2 i h8
      rw [mkN_bt t h8, mkN_bt s h8] at this
      rw [show decide (28 = i) = false from decide_eq_false (by omega), Bool.xor_false]
      revert this
      cases bt t i <;> cases bt s i <;> cases u.testBit i <;> decide
    · rw [hub i hi (by omega)]
      simp only [Bool.not_false, Bool.and_true]
      by_cases h28 : i < 28
      · have hcc : (i - 8) / 5 < 4 := by omega
        have e1 := ctN_bt t hcc (show (i - 8) % 5 < 5 by omega)
        have e2 := ctN_bt s hcc (show (i - 8) % 5 < 5 by omega)
        rw [show (i - 8) % 5 + (8 + 5 * ((i - 8) / 5)) = i by omega] at e1 e2
        rw [← e1, ← e2, hc _ hcc, show decide (28 = i) = false from decide_eq_false (by omega), Bool.xor_false]
      · by_cases e : i = 28
        · subst e
          rw [awk_bt, awk_bt, bt_next (by decide)] at hw
          revert hw
          cases bt t 28 <;> cases bt s 28 <;> decide
        · rw [okS_bt ht (by omega), okS_bt hs (by omega), show decide (28 = i) = false from decide_eq_false (by omega)]; rfl
  · intro h
    have hb : ∀ i, i < 32 → (bt t i ^^ decide (28 = i) && !(u.testBit i)) = (bt s i && !(u.testBit i)) ∨ True := fun _ _ => Or.inr trivial
    have hb : ∀ i, i < 32 → ((bt t i ^^ decide (28 = i)) && !(u.testBit i)) = (bt s i && !(u.testBit i)) := fun i hi => by
      have := congrArg (fun z => bt z i) h
      simp only [bt_and, bt_xor, bt_nI hi, bt_m1 hi, Bool.xor_true, bt_next hi] at this
      exact this
    constructor
    · have hc : ∀ c, c < 4 → ctN t c = ctN s c := by
        intro c hc
        apply nI_bt (ctN_e t hc).1 (ctN_e s hc).1
        intro i hi
        rw [ctN_bt t hc hi, ctN_bt s hc hi]
        have := hb (i + (8 + 5 * c)) (by omega)
        rw [hub _ (by omega) (by omega), show decide (28 = i + (8 + 5 * c)) = false from decide_eq_false (by omega), Bool.xor_false] at this
        simpa using this
      unfold cnN
      rw [hc 0 (by decide), hc 1 (by decide), hc 2 (by decide), hc 3 (by decide)]
    · intro i hi
      have := hb i (by omega)
      rw [mkN_bt t hi, mkN_bt s hi]
      rw [show decide (28 = i) = false from decide_eq_false (by omega), Bool.xor_false] at this
      revert this
      cases bt t i <;> cases bt s i <;> cases u.testBit i <;> decide
theorem m_fd1 {d : Nat} {hi : Nat → Nat → Int32} {hl : Nat → Nat → Int64} {X : lm_X} {b n D u : Nat} {T : lm_T} {s s0 : Int32} (S : sh_M X b) (H : rT hi b T n) (hT : okT T n) (HS0 : rS hi b s0) (HD : hi b 14 = nI D) (hw0 : awk s0 = (D + 1) % 2) (hD : D + 4 < 2147483648) (hs : okS s) (hs0 : okS s0) (hw : awk s = D % 2) (hu : u < 256) {P : Option Value → lm_H → Prop} (k : ∀ (c : Int32) (x8 x9 x10 : Value), lm_wp (d + 2) 209 163 [.ref b, .int (nI u), .long (stg s), lm_jk, .int (lky T (awk s0) s0 s (nI u ^^^ (-1)) (n + 1)), .long (stg s0), lm_jk, .int c, x8, x9, x10] [] (hi, hl, X) P) : ∀ (j m : Nat) (sm : Int32) (mk : Int32) (x8 : Value) (x9 : Value) (x10 : Value), m + j = n + 1 → (sm = lky T (awk s0) s0 s (nI u ^^^ (-1)) m) → (mk = aI m) → lm_wp (d + 2) 209 36 [.ref b, .int (nI u), .long (stg s), lm_jk, .int sm, .long (stg s0), lm_jk, .int mk, x8, x9, x10] [] (hi, hl, X) P := by
  intro j
  induction j with
  | zero =>
    intro m sm mk x8 x9 x10 hm e1 e4
    have hn10 := rTle H
    refine w_N 2 39 [.ref b, .int (nI u), .long (stg s), lm_jk, .int sm, .long (stg s0), lm_jk, .int mk, x8, x9, x10] [.ref b, .int mk] rfl ?_
    refine w_gi (v := nI n) rfl rfl rfl (M_kd S) (rTn H) ?_
    refine w_icmp_ge_t (t := 163) rfl rfl (by rw [e4, aI_lt (by omega) (by omega)]; omega) ?_
    obtain rfl : m = n + 1 := by omega
    rw [e1]
    exact k _ _ _ _
  | succ j ih =>
    intro m sm mk x8 x9 x10 hm e1 e4
    have hn10 := rTle H
    have hz : mk = -1 ↔ m = 0 := by rw [e4]; exact aI_none (by omega)
    have hrem0 : (nI D + 1) - (nI D + 1) / 2 * 2 = nI (awk s0) := by rw [← nI_succ, rem2 (by omega), hw0]
    refine w_N 2 39 [.ref b, .int (nI u), .long (stg s), lm_jk, .int sm, .long (stg s0), lm_jk, .int mk, x8, x9, x10] [.ref b, .int mk] rfl ?_
    refine w_gi (v := nI n) rfl rfl rfl (M_kd S) (rTn H) ?_
    refine w_icmp_ge_f (t := 163) rfl rfl (by rw [e4, aI_lt (by omega) (by omega)]; omega) ?_
    refine w_N 2 48 [.ref b, .int (nI u), .long (stg s), lm_jk, .int sm, .long (stg s0), lm_jk, .int mk, x8, x9, x10] [.int (-1), .int mk] rfl ?_
    refine w_icmp_eq (t := 68) rfl rfl (fun c1 => ?_) (fun c1 => ?_)
    · refine w_N 2 71 [.ref b, .int (nI u), .long (stg s), lm_jk, .int sm, .long (stg s0), lm_jk, .int mk, x8, x9, x10] [.int mk, .ref b] rfl ?_
      have hal : alw T m (awk s0) s0 = true := by rw [hz.mp c1]; rfl
      refine w_ca (w_vst rfl rfl rfl (Nat.le_of_ble_eq_true rfl) (Nat.le_of_ble_eq_true rfl) (M_kd S)) (m_doIt (hf := awk s0) (i := m) S H HS0 hT e4 (by omega) hal) ?_
      rintro _ _ ⟨hi1, rfl, rfl, HS1, X1, D1⟩
      show lm_wp _ 209 74 [.ref b, .int (nI u), .long (stg s), lm_jk, .int sm, .long (stg s0), lm_jk, .int mk, x8, x9, x10] [] (hi1, hl, X) _
      refine w_N 1 75 [.ref b, .int (nI u), .long (stg s), lm_jk, .int sm, .long (stg s0), lm_jk, .int mk, x8, x9, x10] [.ref b] rfl ?_
      refine w_cc (w_vst rfl rfl rfl (Nat.le_of_ble_eq_true rfl) (Nat.le_of_ble_eq_true rfl) (M_kd S)) (m_standing S HS1) ?_
      show lm_wp _ 209 78 [.ref b, .int (nI u), .long (stg s), lm_jk, .int sm, .long (stg s0), lm_jk, .int mk, x8, x9, x10] [.long (stg (aft T m s0))] (hi1, hl, X) _
      refine w_N 3 83 [.ref b, .int (nI u), .long (stg s), lm_jk, .int sm, .long (stg s0), lm_jk, .int mk, .long (stg (aft T m s0)), lm_jk, x10] [.long (stg s0), .ref b] rfl ?_
      refine w_ca (w_vst rfl rfl rfl (Nat.le_of_ble_eq_true rfl) (Nat.le_of_ble_eq_true rfl) (M_kd S)) (lm_w_dep (d := 0) (by omega) (m_putBack (s := s0) S)) ?_
      rintro _ _ ⟨hi3, rfl, rfl, HS3, X3, D3⟩
      have e9 : hi3 = hi := fr_emp (rX_back (lo := 0) (up := 0) X1 fr_rfl X3 (by omega) HS0 HS3 (by rw [D3, D1]))
      subst e9
      have hok := aft_ok hT (show m ≤ n by omega) hal
      have hai := alike_iff (t := aft T m s0) (s := s) (hok.1 hs0) hs (by rw [awk_next, hok.2, hw0, hw]; omega) hu
      show lm_wp _ 209 86 [.ref b, .int (nI u), .long (stg s), lm_jk, .int sm, .long (stg s0), lm_jk, .int mk, .long (stg (aft T m s0)), lm_jk, x10] [] (hi3, hl, X) _
      refine w_N 2 91 [.ref b, .int (nI u), .long (stg s), lm_jk, .int sm, .long (stg s0), lm_jk, .int mk, .long (stg (aft T m s0)), lm_jk, x10] [.long 1048576, .long (stg (aft T m s0))] rfl ?_
      refine w_lrem rfl (by decide) ?_
      rw [stg_rem]
      refine w_N 2 96 [.ref b, .int (nI u), .long (stg s), lm_jk, .int sm, .long (stg s0), lm_jk, .int mk, .long (stg (aft T m s0)), lm_jk, x10] [.long 1048576, .long (stg s), .long (nL (cnN (aft T m s0)))] rfl ?_
      refine w_lrem rfl (by decide) ?_
      rw [stg_rem]
      refine w_N 1 98 [.ref b, .int (nI u), .long (stg s), lm_jk, .int sm, .long (stg s0), lm_jk, .int mk, .long (stg (aft T m s0)), lm_jk, x10] [.int (lg_cmp (nL (cnN (aft T m s0))) (nL (cnN s)))] rfl ?_
      refine w_if_ne (t := 125) rfl rfl (fun c2 => ?_) (fun c2 => ?_)
      · refine w_N 4 132 [.ref b, .int (nI u), .long (stg s), lm_jk, .int sm, .long (stg s0), lm_jk, .int mk, .long (stg (aft T m s0)), lm_jk, .int 0] [.int 0, .int sm] rfl ?_
        refine w_if_eq_t (t := 153) rfl rfl (by decide) ?_
        refine w_N 5 36 [.ref b, .int (nI u), .long (stg s), lm_jk, .int (sm ||| 0), .long (stg s0), lm_jk, .int (mk + 1), .long (stg (aft T m s0)), lm_jk, .int 0] [] rfl ?_
        have q1 := lgc_eq (nL (cnN (aft T m s0))) (nL (cnN s))
        rw [nL_inj (by have := (cnN_lt (aft T m s0)).1; omega) (by have := (cnN_lt s).1; omega)] at q1
        have hE : ¬ (s_next (aft T m s0) &&& (nI u ^^^ (-1)) = s &&& (nI u ^^^ (-1))) := fun z => c2 (q1.mpr (hai.mpr z).1)
        have eb : lky T (awk s0) s0 s (nI u ^^^ (-1)) (m + 1) = lky T (awk s0) s0 s (nI u ^^^ (-1)) m := if_neg (fun z => hE z.2)
        refine ih (m + 1) _ _ _ _ _ (by omega) (by rw [eb, e1]; simp) (by rw [e4, aI_succ])
      · refine w_N 14 118 [.ref b, .int (nI u), .long (stg s), lm_jk, .int sm, .long (stg s0), lm_jk, .int mk, .long (stg (aft T m s0)), lm_jk, x10] [.int (lg_cmp ((((stg (aft T m s0)) >>> (Int32.toInt64 20 &&& 63)) ^^^ ((stg s) >>> (Int32.toInt64 20 &&& 63))) &&& (((nI u) ^^^ (-1)).toInt64)) 0)] rfl ?_
        refine w_if_ne (t := 125) rfl rfl (fun c3 => ?_) (fun c3 => ?_)
        · refine w_N 4 132 [.ref b, .int (nI u), .long (stg s), lm_jk, .int sm, .long (stg s0), lm_jk, .int mk, .long (stg (aft T m s0)), lm_jk, .int 0] [.int 0, .int sm] rfl ?_
          refine w_if_eq_t (t := 153) rfl rfl (by decide) ?_
          refine w_N 5 36 [.ref b, .int (nI u), .long (stg s), lm_jk, .int (sm ||| 0), .long (stg s0), lm_jk, .int (mk + 1), .long (stg (aft T m s0)), lm_jk, .int 0] [] rfl ?_
          have q1 := lgc_eq (nL (cnN (aft T m s0))) (nL (cnN s))
          rw [nL_inj (by have := (cnN_lt (aft T m s0)).1; omega) (by have := (cnN_lt s).1; omega)] at q1
          have q2 := lgc_eq ((stg (aft T m s0) >>> (Int32.toInt64 20 &&& 63) ^^^ stg s >>> (Int32.toInt64 20 &&& 63)) &&& Int32.toInt64 (nI u ^^^ (-1))) 0
          rw [stg_shr, stg_shr, msk_iff (mkN_e _).1 (mkN_e _).1 hu] at q2
          rw [stg_shr, stg_shr] at c3
          have hE : ¬ (s_next (aft T m s0) &&& (nI u ^^^ (-1)) = s &&& (nI u ^^^ (-1))) := fun z => c3 (q2.mpr (hai.mpr z).2)
          have eb : lky T (awk s0) s0 s (nI u ^^^ (-1)) (m + 1) = lky T (awk s0) s0 s (nI u ^^^ (-1)) m := if_neg (fun z => hE z.2)
          refine ih (m + 1) _ _ _ _ _ (by omega) (by rw [eb, e1]; simp) (by rw [e4, aI_succ])
        · refine w_N 5 132 [.ref b, .int (nI u), .long (stg s), lm_jk, .int sm, .long (stg s0), lm_jk, .int mk, .long (stg (aft T m s0)), lm_jk, .int 1] [.int 1, .int sm] rfl ?_
          refine w_if_eq_f (t := 153) rfl rfl (by decide) ?_
          refine w_N 3 139 [.ref b, .int (nI u), .long (stg s), lm_jk, .int sm, .long (stg s0), lm_jk, .int mk, .long (stg (aft T m s0)), lm_jk, .int 1] [.int (-1), .int mk, .int 1, .int sm] rfl ?_
          refine w_icmp_ne (t := 147) rfl rfl (fun c4 => ?_) (fun c4 => ?_)
          · refine w_N 7 36 [.ref b, .int (nI u), .long (stg s), lm_jk, .int (sm ||| (1 <<< (mk &&& 31))), .long (stg s0), lm_jk, .int (mk + 1), .long (stg (aft T m s0)), lm_jk, .int 1] [] rfl ?_
            have q1 := lgc_eq (nL (cnN (aft T m s0))) (nL (cnN s))
            rw [nL_inj (by have := (cnN_lt (aft T m s0)).1; omega) (by have := (cnN_lt s).1; omega)] at q1
            have q2 := lgc_eq ((stg (aft T m s0) >>> (Int32.toInt64 20 &&& 63) ^^^ stg s >>> (Int32.toInt64 20 &&& 63)) &&& Int32.toInt64 (nI u ^^^ (-1))) 0
            rw [stg_shr, stg_shr, msk_iff (mkN_e _).1 (mkN_e _).1 hu] at q2
            rw [stg_shr, stg_shr] at c3
            have hE := hai.mp ⟨q1.mp c2, q2.mp c3⟩
            have eb : lky T (awk s0) s0 s (nI u ^^^ (-1)) (m + 1) = lky T (awk s0) s0 s (nI u ^^^ (-1)) m ||| (1 <<< ((if m = 0 then 10 else aI m) &&& 31)) := if_pos ⟨hal, hE⟩
            refine ih (m + 1) _ _ _ _ _ (by omega) (by rw [eb, if_neg (fun z => c4 (hz.mpr z)), e1, e4]) (by rw [e4, aI_succ])
          · refine w_N 8 36 [.ref b, .int (nI u), .long (stg s), lm_jk, .int (sm ||| 1024), .long (stg s0), lm_jk, .int (mk + 1), .long (stg (aft T m s0)), lm_jk, .int 1] [] rfl ?_
            have q1 := lgc_eq (nL (cnN (aft T m s0))) (nL (cnN s))
            rw [nL_inj (by have := (cnN_lt (aft T m s0)).1; omega) (by have := (cnN_lt s).1; omega)] at q1
            have q2 := lgc_eq ((stg (aft T m s0) >>> (Int32.toInt64 20 &&& 63) ^^^ stg s >>> (Int32.toInt64 20 &&& 63)) &&& Int32.toInt64 (nI u ^^^ (-1))) 0
            rw [stg_shr, stg_shr, msk_iff (mkN_e _).1 (mkN_e _).1 hu] at q2
            rw [stg_shr, stg_shr] at c3
            have hE := hai.mp ⟨q1.mp c2, q2.mp c3⟩
            have eb : lky T (awk s0) s0 s (nI u ^^^ (-1)) (m + 1) = lky T (awk s0) s0 s (nI u ^^^ (-1)) m ||| (1 <<< ((if m = 0 then 10 else aI m) &&& 31)) := if_pos ⟨hal, hE⟩
            refine ih (m + 1) _ _ _ _ _ (by omega) (by rw [eb, if_pos (hz.mp c4), e1]; rfl) (by rw [e4, aI_succ])
    · refine w_N 3 55 [.ref b, .int (nI u), .long (stg s), lm_jk, .int sm, .long (stg s0), lm_jk, .int mk, x8, x9, x10] [.ref b, .int mk, .ref b] rfl ?_
      refine w_gi (v := nI D) rfl rfl rfl (M_kd S) (HD) ?_
      refine w_N 3 61 [.ref b, .int (nI u), .long (stg s), lm_jk, .int sm, .long (stg s0), lm_jk, .int mk, x8, x9, x10] [.int 2, .int ((nI D) + 1), .int mk, .ref b] rfl ?_
      refine w_rem rfl (by decide) ?_
      rw [hrem0]
      have hm0 : m ≠ 0 := fun z => c1 (hz.mpr z)
      obtain ⟨q, rfl⟩ : ∃ q, m = q + 1 := ⟨m - 1, by omega⟩
      refine w_cc (w_vst rfl rfl rfl (Nat.le_of_ble_eq_true rfl) (Nat.le_of_ble_eq_true rfl) (M_kd S)) (m_canBeE (d := d) S H HS0 hT e4 rfl (by omega)) ?_
      show lm_wp _ 209 65 [.ref b, .int (nI u), .long (stg s), lm_jk, .int sm, .long (stg s0), lm_jk, .int mk, x8, x9, x10] [.int (bz (alw T (q + 1) (awk s0) s0))] (hi, hl, X) _
      refine w_zeq (t := 157) rfl rfl (fun c5 => ?_) (fun c5 => ?_)
      · refine w_N 2 36 [.ref b, .int (nI u), .long (stg s), lm_jk, .int sm, .long (stg s0), lm_jk, .int (mk + 1), x8, x9, x10] [] rfl ?_
        have eb : lky T (awk s0) s0 s (nI u ^^^ (-1)) (q + 2) = lky T (awk s0) s0 s (nI u ^^^ (-1)) (q + 1) := if_neg (fun z => by rw [c5] at z; exact absurd z.1 (by decide))
        exact ih (q + 2) _ _ _ _ _ (by omega) (by rw [eb]; exact e1) (by rw [e4, aI_succ])
      · refine w_N 2 71 [.ref b, .int (nI u), .long (stg s), lm_jk, .int sm, .long (stg s0), lm_jk, .int mk, x8, x9, x10] [.int mk, .ref b] rfl ?_
        generalize hmq : q + 1 = m at *
        have hal : alw T m (awk s0) s0 = true := c5
        refine w_ca (w_vst rfl rfl rfl (Nat.le_of_ble_eq_true rfl) (Nat.le_of_ble_eq_true rfl) (M_kd S)) (m_doIt (hf := awk s0) (i := m) S H HS0 hT e4 (by omega) hal) ?_
        rintro _ _ ⟨hi1, rfl, rfl, HS1, X1, D1⟩
        show lm_wp _ 209 74 [.ref b, .int (nI u), .long (stg s), lm_jk, .int sm, .long (stg s0), lm_jk, .int mk, x8, x9, x10] [] (hi1, hl, X) _
        refine w_N 1 75 [.ref b, .int (nI u), .long (stg s), lm_jk, .int sm, .long (stg s0), lm_jk, .int mk, x8, x9, x10] [.ref b] rfl ?_
        refine w_cc (w_vst rfl rfl rfl (Nat.le_of_ble_eq_true rfl) (Nat.le_of_ble_eq_true rfl) (M_kd S)) (m_standing S HS1) ?_
        show lm_wp _ 209 78 [.ref b, .int (nI u), .long (stg s), lm_jk, .int sm, .long (stg s0), lm_jk, .int mk, x8, x9, x10] [.long (stg (aft T m s0))] (hi1, hl, X) _
        refine w_N 3 83 [.ref b, .int (nI u), .long (stg s), lm_jk, .int sm, .long (stg s0), lm_jk, .int mk, .long (stg (aft T m s0)), lm_jk, x10] [.long (stg s0), .ref b] rfl ?_
        refine w_ca (w_vst rfl rfl rfl (Nat.le_of_ble_eq_true rfl) (Nat.le_of_ble_eq_true rfl) (M_kd S)) (lm_w_dep (d := 0) (by omega) (m_putBack (s := s0) S)) ?_
        rintro _ _ ⟨hi3, rfl, rfl, HS3, X3, D3⟩
        have e9 : hi3 = hi := fr_emp (rX_back (lo := 0) (up := 0) X1 fr_rfl X3 (by omega) HS0 HS3 (by rw [D3, D1]))
        subst e9
        have hok := aft_ok hT (show m ≤ n by omega) hal
        have hai := alike_iff (t := aft T m s0) (s := s) (hok.1 hs0) hs (by rw [awk_next, hok.2, hw0, hw]; omega) hu
        show lm_wp _ 209 86 [.ref b, .int (nI u), .long (stg s), lm_jk, .int sm, .long (stg s0), lm_jk, .int mk, .long (stg (aft T m s0)), lm_jk, x10] [] (hi3, hl, X) _
        refine w_N 2 91 [.ref b, .int (nI u), .long (stg s), lm_jk, .int sm, .long (stg s0), lm_jk, .int mk, .long (stg (aft T m s0)), lm_jk, x10] [.long 1048576, .long (stg (aft T m s0))] rfl ?_
        refine w_lrem rfl (by decide) ?_
        rw [stg_rem]
        refine w_N 2 96 [.ref b, .int (nI u), .long (stg s), lm_jk, .int sm, .long (stg s0), lm_jk, .int mk, .long (stg (aft T m s0)), lm_jk, x10] [.long 1048576, .long (stg s), .long (nL (cnN (aft T m s0)))] rfl ?_
        refine w_lrem rfl (by decide) ?_
        rw [stg_rem]
        refine w_N 1 98 [.ref b, .int (nI u), .long (stg s), lm_jk, .int sm, .long (stg s0), lm_jk, .int mk, .long (stg (aft T m s0)), lm_jk, x10] [.int (lg_cmp (nL (cnN (aft T m s0))) (nL (cnN s)))] rfl ?_
        refine w_if_ne (t := 125) rfl rfl (fun c6 => ?_) (fun c6 => ?_)
        · refine w_N 4 132 [.ref b, .int (nI u), .long (stg s), lm_jk, .int sm, .long (stg s0), lm_jk, .int mk, .long (stg (aft T m s0)), lm_jk, .int 0] [.int 0, .int sm] rfl ?_
          refine w_if_eq_t (t := 153) rfl rfl (by decide) ?_
          refine w_N 5 36 [.ref b, .int (nI u), .long (stg s), lm_jk, .int (sm ||| 0), .long (stg s0), lm_jk, .int (mk + 1), .long (stg (aft T m s0)), lm_jk, .int 0] [] rfl ?_
          have q1 := lgc_eq (nL (cnN (aft T m s0))) (nL (cnN s))
          rw [nL_inj (by have := (cnN_lt (aft T m s0)).1; omega) (by have := (cnN_lt s).1; omega)] at q1
          have hE : ¬ (s_next (aft T m s0) &&& (nI u ^^^ (-1)) = s &&& (nI u ^^^ (-1))) := fun z => c6 (q1.mpr (hai.mpr z).1)
          have eb : lky T (awk s0) s0 s (nI u ^^^ (-1)) (m + 1) = lky T (awk s0) s0 s (nI u ^^^ (-1)) m := if_neg (fun z => hE z.2)
          refine ih (m + 1) _ _ _ _ _ (by omega) (by rw [eb, e1]; simp) (by rw [e4, aI_succ])
        · refine w_N 14 118 [.ref b, .int (nI u), .long (stg s), lm_jk, .int sm, .long (stg s0), lm_jk, .int mk, .long (stg (aft T m s0)), lm_jk, x10] [.int (lg_cmp ((((stg (aft T m s0)) >>> (Int32.toInt64 20 &&& 63)) ^^^ ((stg s) >>> (Int32.toInt64 20 &&& 63))) &&& (((nI u) ^^^ (-1)).toInt64)) 0)] rfl ?_
          refine w_if_ne (t := 125) rfl rfl (fun c7 => ?_) (fun c7 => ?_)
          · refine w_N 4 132 [.ref b, .int (nI u), .long (stg s), lm_jk, .int sm, .long (stg s0), lm_jk, .int mk, .long (stg (aft T m s0)), lm_jk, .int 0] [.int 0, .int sm] rfl ?_
            refine w_if_eq_t (t := 153) rfl rfl (by decide) ?_
            refine w_N 5 36 [.ref b, .int (nI u), .long (stg s), lm_jk, .int (sm ||| 0), .long (stg s0), lm_jk, .int (mk + 1), .long (stg (aft T m s0)), lm_jk, .int 0] [] rfl ?_
            have q1 := lgc_eq (nL (cnN (aft T m s0))) (nL (cnN s))
            rw [nL_inj (by have := (cnN_lt (aft T m s0)).1; omega) (by have := (cnN_lt s).1; omega)] at q1
            have q2 := lgc_eq ((stg (aft T m s0) >>> (Int32.toInt64 20 &&& 63) ^^^ stg s >>> (Int32.toInt64 20 &&& 63)) &&& Int32.toInt64 (nI u ^^^ (-1))) 0
            rw [stg_shr, stg_shr, msk_iff (mkN_e _).1 (mkN_e _).1 hu] at q2
            rw [stg_shr, stg_shr] at c7
            have hE : ¬ (s_next (aft T m s0) &&& (nI u ^^^ (-1)) = s &&& (nI u ^^^ (-1))) := fun z => c7 (q2.mpr (hai.mpr z).2)
            have eb : lky T (awk s0) s0 s (nI u ^^^ (-1)) (m + 1) = lky T (awk s0) s0 s (nI u ^^^ (-1)) m := if_neg (fun z => hE z.2)
            refine ih (m + 1) _ _ _ _ _ (by omega) (by rw [eb, e1]; simp) (by rw [e4, aI_succ])
          · refine w_N 5 132 [.ref b, .int (nI u), .long (stg s), lm_jk, .int sm, .long (stg s0), lm_jk, .int mk, .long (stg (aft T m s0)), lm_jk, .int 1] [.int 1, .int sm] rfl ?_
            refine w_if_eq_f (t := 153) rfl rfl (by decide) ?_
            refine w_N 3 139 [.ref b, .int (nI u), .long (stg s), lm_jk, .int sm, .long (stg s0), lm_jk, .int mk, .long (stg (aft T m s0)), lm_jk, .int 1] [.int (-1), .int mk, .int 1, .int sm] rfl ?_
            refine w_icmp_ne (t := 147) rfl rfl (fun c8 => ?_) (fun c8 => ?_)
            · refine w_N 7 36 [.ref b, .int (nI u), .long (stg s), lm_jk, .int (sm ||| (1 <<< (mk &&& 31))), .long (stg s0), lm_jk, .int (mk + 1), .long (stg (aft T m s0)), lm_jk, .int 1] [] rfl ?_
              have q1 := lgc_eq (nL (cnN (aft T m s0))) (nL (cnN s))
              rw [nL_inj (by have := (cnN_lt (aft T m s0)).1; omega) (by have := (cnN_lt s).1; omega)] at q1
              have q2 := lgc_eq ((stg (aft T m s0) >>> (Int32.toInt64 20 &&& 63) ^^^ stg s >>> (Int32.toInt64 20 &&& 63)) &&& Int32.toInt64 (nI u ^^^ (-1))) 0
              rw [stg_shr, stg_shr, msk_iff (mkN_e _).1 (mkN_e _).1 hu] at q2
              rw [stg_shr, stg_shr] at c7
              have hE := hai.mp ⟨q1.mp c6, q2.mp c7⟩
              have eb : lky T (awk s0) s0 s (nI u ^^^ (-1)) (m + 1) = lky T (awk s0) s0 s (nI u ^^^ (-1)) m ||| (1 <<< ((if m = 0 then 10 else aI m) &&& 31)) := if_pos ⟨hal, hE⟩
              refine ih (m + 1) _ _ _ _ _ (by omega) (by rw [eb, if_neg (fun z => c8 (hz.mpr z)), e1, e4]) (by rw [e4, aI_succ])
            · refine w_N 8 36 [.ref b, .int (nI u), .long (stg s), lm_jk, .int (sm ||| 1024), .long (stg s0), lm_jk, .int (mk + 1), .long (stg (aft T m s0)), lm_jk, .int 1] [] rfl ?_
              have q1 := lgc_eq (nL (cnN (aft T m s0))) (nL (cnN s))
              rw [nL_inj (by have := (cnN_lt (aft T m s0)).1; omega) (by have := (cnN_lt s).1; omega)] at q1
              have q2 := lgc_eq ((stg (aft T m s0) >>> (Int32.toInt64 20 &&& 63) ^^^ stg s >>> (Int32.toInt64 20 &&& 63)) &&& Int32.toInt64 (nI u ^^^ (-1))) 0
              rw [stg_shr, stg_shr, msk_iff (mkN_e _).1 (mkN_e _).1 hu] at q2
              rw [stg_shr, stg_shr] at c7
              have hE := hai.mp ⟨q1.mp c6, q2.mp c7⟩
              have eb : lky T (awk s0) s0 s (nI u ^^^ (-1)) (m + 1) = lky T (awk s0) s0 s (nI u ^^^ (-1)) m ||| (1 <<< ((if m = 0 then 10 else aI m) &&& 31)) := if_pos ⟨hal, hE⟩
              refine ih (m + 1) _ _ _ _ _ (by omega) (by rw [eb, if_pos (hz.mp c8), e1]; rfl) (by rw [e4, aI_succ])
theorem m_foundBy {d : Nat} {hi : Nat → Nat → Int32} {hl : Nat → Nat → Int64} {X : lm_X} {b n D u : Nat} {T : lm_T} {s s0 : Int32} (S : sh_M X b) (H : rT hi b T n) (hT : okT T n) (HS : rS hi b s) (HB : hi b 19 = s_marks s0 ∧ ∀ c, c < 4 → hi (b + 34) c = s_count s0 (nI c)) (HD : hi b 14 = nI D) (hw0 : awk s0 = (D + 1) % 2) (hD : D + 4 < 2147483648) (hs : okS s) (hs0 : okS s0) (hw : awk s = D % 2) (hu : u < 256) : lm_c (d + 2) 209 [.ref b, .int (nI u)] (hi, hl, X) (some (.int (lky T (awk s0) s0 s (nI u ^^^ (-1)) (n + 1))), (hi, hl, X)) := by
  refine lm_c_of (lm_w_in (Nat.le_of_ble_eq_true rfl) ?_)
  show lm_wp (d + 2) 209 0 [.ref b, .int (nI u), lm_jk, lm_jk, lm_jk, lm_jk, lm_jk, lm_jk, lm_jk, lm_jk, lm_jk] [] (hi, hl, X) _
  refine w_N 1 1 [.ref b, .int (nI u), lm_jk, lm_jk, lm_jk, lm_jk, lm_jk, lm_jk, lm_jk, lm_jk, lm_jk] [.ref b] rfl ?_
  refine w_cc (w_vst rfl rfl rfl (Nat.le_of_ble_eq_true rfl) (Nat.le_of_ble_eq_true rfl) (M_kd S)) (m_standing S HS) ?_
  show lm_wp _ 209 4 [.ref b, .int (nI u), lm_jk, lm_jk, lm_jk, lm_jk, lm_jk, lm_jk, lm_jk, lm_jk, lm_jk] [.long (stg s)] (hi, hl, X) _
  refine w_N 5 10 [.ref b, .int (nI u), .long (stg s), lm_jk, .int 0, lm_jk, lm_jk, lm_jk, lm_jk, lm_jk, lm_jk] [.ref b, .ref b] rfl ?_
  refine w_gi (v := s_marks s0) rfl rfl rfl (M_kd S) (HB.1) ?_
  refine w_pi rfl rfl rfl rfl (M_kd S) (M_64 S) ?_
  refine w_N 1 17 [.ref b, .int (nI u), .long (stg s), lm_jk, .int 0, lm_jk, lm_jk, lm_jk, lm_jk, lm_jk, lm_jk] [.ref b] rfl ?_
  refine w_gr (b + 34) rfl rfl rfl (M_kd S) (M_r S (k := 20) (o := 34) rfl) ?_
  refine w_N 1 21 [.ref b, .int (nI u), .long (stg s), lm_jk, .int 0, lm_jk, lm_jk, lm_jk, lm_jk, lm_jk, lm_jk] [.ref b, .ref (b + 34)] rfl ?_
  refine w_gr (b + 29) rfl rfl rfl (M_kd S) (M_r S (k := 13) (o := 29) rfl) ?_
  refine w_cc rfl (m_over (N := 4) (show X.2.1 (b + 34) = 1 from M_k S 34 (by decide)) (show X.2.1 (b + 29) = 1 from M_k S 29 (by decide)) (M_l S 34 (by decide)) (M_l S 29 (by decide)) (by have := M_64 S; omega) (by omega) (by decide)) ?_
  show lm_wp _ 209 27 [.ref b, .int (nI u), .long (stg s), lm_jk, .int 0, lm_jk, lm_jk, lm_jk, lm_jk, lm_jk, lm_jk] [] (lm_row (lm_up hi b 12 (s_marks s0)) (b + 29) (ovr ((lm_up hi b 12 (s_marks s0)) (b + 34)) ((lm_up hi b 12 (s_marks s0)) (b + 29)) 4), hl, X) _
  refine w_N 1 28 [.ref b, .int (nI u), .long (stg s), lm_jk, .int 0, lm_jk, lm_jk, lm_jk, lm_jk, lm_jk, lm_jk] [.ref b] rfl ?_
  obtain ⟨hi2, e2⟩ : ∃ q, q = lm_row (lm_up hi b 12 (s_marks s0)) (b + 29) (ovr ((lm_up hi b 12 (s_marks s0)) (b + 34)) ((lm_up hi b 12 (s_marks s0)) (b + 29)) 4) := ⟨_, rfl⟩
  rw [← e2]
  have HS2 : rS hi2 b s0 := by
    refine ⟨by rw [e2, lm_rw_na (by omega), lm_up_eq], fun c hc => ?_⟩
    rw [e2, lm_rw_eq]
    unfold ovr
    rw [if_pos hc, lm_up_na (by omega)]
    exact HB.2 c hc
  have X2 : rX hi hi2 b := by
    refine ⟨fun a h1 h2 => by rw [e2, lm_rw_na h2, lm_up_rw h1], fun j h1 h2 => by rw [e2, lm_rw_na (by omega), lm_up_nk h1], fun j h1 => ?_⟩
    rw [e2, lm_rw_eq]
    unfold ovr
    rw [if_neg (by omega), lm_up_na (by omega)]
  have D2 : hi2 b 14 = nI D := by rw [e2, lm_rw_na (by omega), lm_up_nk (by decide)]; exact HD
  have H2 := rT_X X2 H
  clear e2
  refine w_cc (w_vst rfl rfl rfl (Nat.le_of_ble_eq_true rfl) (Nat.le_of_ble_eq_true rfl) (M_kd S)) (m_standing S HS2) ?_
  show lm_wp _ 209 31 [.ref b, .int (nI u), .long (stg s), lm_jk, .int 0, lm_jk, lm_jk, lm_jk, lm_jk, lm_jk, lm_jk] [.long (stg s0)] (hi2, hl, X) _
  refine w_N 3 36 [.ref b, .int (nI u), .long (stg s), lm_jk, .int 0, .long (stg s0), lm_jk, .int (-1), lm_jk, lm_jk, lm_jk] [] rfl ?_
  refine m_fd1 S H2 hT HS2 D2 hw0 hD hs hs0 hw hu (fun c x8 x9 x10 => ?_) (n + 1) 0 _ _ _ _ _ (by omega) rfl rfl
  refine w_N 2 165 _ [.long (stg s), .ref b] rfl ?_
  refine w_ca (w_vst rfl rfl rfl (Nat.le_of_ble_eq_true rfl) (Nat.le_of_ble_eq_true rfl) (M_kd S)) (lm_w_dep (d := 0) (by omega) (m_putBack (s := s) S)) ?_
  rintro _ _ ⟨hi3, rfl, rfl, HS3, X3, D3⟩
  have e9 : hi3 = hi := fr_emp (rX_back (lo := 0) (up := 0) X2 fr_rfl X3 (by omega) HS HS3 (by rw [D3, D2, HD]))
  subst e9
  show lm_wp _ 209 168 [.ref b, .int (nI u), .long (stg s), lm_jk, .int (lky T (awk s0) s0 s (nI u ^^^ (-1)) (n + 1)), .long (stg s0), lm_jk, .int c, x8, x9, x10] [] (hi3, hl, X) _
  refine w_N 1 170 _ [.int (lky T (awk s0) s0 s (nI u ^^^ (-1)) (n + 1))] rfl ?_
  exact w_ri rfl rfl rfl
