/-! bits of a state -/
def okS (s : Int32) : Prop := s.toBitVec.toNat < 536870912
def bt (s : Int32) (i : Nat) : Bool := s.toBitVec.getLsbD i
theorem bt_ext {s t : Int32} (h : ∀ i, i < 32 → bt s i = bt t i) : s = t := by
  apply Int32.toBitVec_inj.mp
  apply BitVec.eq_of_getLsbD_eq
  intro i hi
  exact h i hi
theorem bt_nI {v i : Nat} (hi : i < 32) : bt (nI v) i = v.testBit i := by
  unfold bt nI
  rw [show (Int32.ofNat v).toBitVec = BitVec.ofNat 32 v from rfl, BitVec.getLsbD_ofNat]
  simp [hi]
theorem bt_big {s : Int32} {i : Nat} (hi : 32 ≤ i) : bt s i = false := BitVec.getLsbD_of_ge _ _ hi
theorem okS_bt {s : Int32} (h : okS s) {i : Nat} (hi : 29 ≤ i) : bt s i = false := by
  unfold bt
  rw [← BitVec.testBit_toNat]
  apply Nat.testBit_lt_two_pow
  unfold okS at h
  calc _ < 536870912 := h
    _ = 2 ^ 29 := by decide
    _ ≤ 2 ^ i := Nat.pow_le_pow_right (by decide) hi
theorem okS_of {s : Int32} (h : ∀ i, 29 ≤ i → i < 32 → bt s i = false) : okS s := by
  unfold okS
  have : s.toBitVec.toNat < 2 ^ 29 := by
    apply Nat.lt_pow_two_of_testBit
    intro i hi
    rw [BitVec.testBit_toNat]
    by_cases h32 : i < 32
    · exact h i hi h32
    · exact bt_big (by omega)
  omega
theorem bt_xor (s t : Int32) (i : Nat) : bt (s ^^^ t) i = (bt s i ^^ bt t i) := by unfold bt; rw [Int32.toBitVec_xor, BitVec.getLsbD_xor]
theorem bt_and (s t : Int32) (i : Nat) : bt (s &&& t) i = (bt s i && bt t i) := by unfold bt; rw [Int32.toBitVec_and, BitVec.getLsbD_and]
theorem bt_or (s t : Int32) (i : Nat) : bt (s ||| t) i = (bt s i || bt t i) := by unfold bt; rw [Int32.toBitVec_or, BitVec.getLsbD_or]
theorem bt_m1 {i : Nat} (hi : i < 32) : bt (-1) i = true := by
  have : ∀ i, i < 32 → bt (-1) i = true := by decide
  exact this i hi
theorem sh_lit {m : Nat} (hm : m < 32) : nI m &&& 31 = nI m := by
  have : ∀ m, m < 32 → nI m &&& 31 = nI m := by decide
  exact this m hm
theorem sl_nI {v m : Nat} (hm : m < 32) : (nI v <<< nI m : Int32) = nI (v * 2 ^ m) := by
  apply Int32.toBitVec_inj.mp
  have e : ∀ m, m < 32 → ((nI m).toBitVec.smod 32).toNat = m := by decide
  rw [Int32.toBitVec_shiftLeft, BitVec.shiftLeft_eq']
  rw [e m hm]
  apply BitVec.eq_of_toNat_eq
  unfold nI
  rw [show (Int32.ofNat v).toBitVec = BitVec.ofNat 32 v from rfl, show (Int32.ofNat (v * 2 ^ m)).toBitVec = BitVec.ofNat 32 (v * 2 ^ m) from rfl]
  rw [BitVec.toNat_shiftLeft, BitVec.toNat_ofNat, BitVec.toNat_ofNat, Nat.shiftLeft_eq]
  rw [Nat.mod_mul_mod]
theorem bt_sr {s : Int32} {m i : Nat} (hm : m < 32) (hi : i + m < 32) : bt (s >>> nI m) i = bt s (i + m) := by
  have e : ∀ m, m < 32 → ((nI m).toBitVec.smod 32).toNat = m := by decide
  unfold bt
  rw [Int32.toBitVec_shiftRight, BitVec.sshiftRight_eq', e m hm, BitVec.getLsbD_sshiftRight]
  simp only [show ¬ 32 ≤ i from by omega, decide_false, Bool.not_false, Bool.true_and, Nat.add_comm m i, hi, if_true]
theorem pl_nI {c : Nat} (hc : c < 4) : (8 + nI c * 5) &&& 31 = nI (8 + 5 * c) := by
  have : ∀ c, c < 4 → (8 + nI c * 5) &&& 31 = nI (8 + 5 * c) := by decide
  exact this c hc
theorem bt_turn {s : Int32} {m i : Nat} (hm : m < 8) (hi : i < 32) : bt (s_turn s (nI m)) i = (bt s i ^^ decide (m = i)) := by
  unfold s_turn
  rw [bt_xor, sh_lit (by omega), show (1 : Int32) = nI 1 from rfl, sl_nI (by omega), bt_nI hi, Nat.one_mul, Nat.testBit_two_pow]
theorem bt_with {s : Int32} {c v i : Nat} (hc : c < 4) (hv : v < 32) (hi : i < 32) : bt (s_with s (nI c) (nI v)) i = if 8 + 5 * c ≤ i ∧ i < 13 + 5 * c then v.testBit (i - (8 + 5 * c)) else bt s i := by
  unfold s_with
  rw [bt_or, bt_and, bt_xor, pl_nI hc, show (31 : Int32) = nI 31 from rfl, sl_nI (by omega), sl_nI (by omega), bt_nI hi, bt_nI hi, bt_m1 hi, Nat.testBit_mul_two_pow, Nat.testBit_mul_two_pow, show 31 = 2 ^ 5 - 1 from rfl, Nat.testBit_two_pow_sub_one]
  by_cases h1 : 8 + 5 * c ≤ i
  · by_cases h2 : i < 13 + 5 * c
    · rw [if_pos ⟨h1, h2⟩]
      simp [h1, show i - (8 + 5 * c) < 5 by omega]
    · rw [if_neg (fun z => h2 z.2)]
      have h3 : v.testBit (i - (8 + 5 * c)) = false := Nat.testBit_lt_two_pow (Nat.lt_of_lt_of_le hv (Nat.pow_le_pow_right (n := 2) (by decide) (show 5 ≤ i - (8 + 5 * c) by omega)))
      simp [h3, show ¬ i - (8 + 5 * c) < 5 by omega]
  · rw [if_neg (fun z => h1 z.1)]
    simp [show ¬ 8 + 5 * c ≤ i from h1]
theorem bt_next {s : Int32} {i : Nat} (hi : i < 32) : bt (s_next s) i = (bt s i ^^ decide (28 = i)) := by
  unfold s_next
  rw [bt_xor, show (268435456 : Int32) = nI (2 ^ 28) from rfl, bt_nI hi, Nat.testBit_two_pow]
theorem bt_count {s : Int32} {c i : Nat} (hc : c < 4) (hi : i < 32) : bt (s_count s (nI c)) i = (decide (i < 5) && bt s (i + (8 + 5 * c))) := by
  unfold s_count
  rw [bt_and, pl_nI hc, show (31 : Int32) = nI (2 ^ 5 - 1) from rfl, bt_nI hi, Nat.testBit_two_pow_sub_one]
  by_cases h : i < 5
  · rw [bt_sr (by omega) (by omega)]; simp [h]
  · simp [h]
theorem bt_marks {s : Int32} {i : Nat} (hi : i < 32) : bt (s_marks s) i = (decide (i < 8) && bt s i) := by
  unfold s_marks
  rw [bt_and, show (255 : Int32) = nI (2 ^ 8 - 1) from rfl, bt_nI hi, Nat.testBit_two_pow_sub_one, Bool.and_comm]
theorem and1_bt (x : Int32) : x &&& 1 = if bt x 0 = true then 1 else 0 := by
  apply bt_ext
  intro i hi
  rw [bt_and, show (1 : Int32) = nI (2 ^ 1 - 1) from rfl, bt_nI hi, Nat.testBit_two_pow_sub_one]
  rcases Nat.eq_zero_or_pos i with rfl | h
  · cases h1 : bt x 0 <;> simp [h1] <;> decide
  · have h2 : ¬ i < 1 := by omega
    cases h1 : bt x 0
    · simp [h2]; exact (by have : ∀ i, i < 32 → bt 0 i = false := by decide
                           exact this i hi)
    · simp [h2]; exact (by have : ∀ i, i < 32 → 0 < i → bt 1 i = false := by decide
                           exact this i hi h)
theorem std_bt {s : Int32} {m : Nat} (hm : m < 8) : s_std s (nI m) = bt s m := by
  unfold s_std
  rw [sh_lit (by omega), and1_bt, bt_sr (by omega) (by omega), Nat.zero_add]
  cases bt s m <;> decide
theorem awk_bt (s : Int32) : awk s = if bt s 28 = true then 1 else 0 := by
  unfold awk s_awake
  rw [show (28 &&& 31 : Int32) = nI 28 from rfl, and1_bt, bt_sr (by omega) (by omega), Nat.zero_add]
  cases bt s 28 <;> decide
theorem awk_next (s : Int32) : awk (s_next s) = 1 - awk s := by
  rw [awk_bt, awk_bt, bt_next (by decide)]
  cases bt s 28 <;> decide
theorem awk_turn {s : Int32} {m : Nat} (hm : m < 8) : awk (s_turn s (nI m)) = awk s := by
  rw [awk_bt, awk_bt, bt_turn hm (by decide), show decide (m = 28) = false from decide_eq_false (by omega), Bool.xor_false]
theorem awk_with {s : Int32} {c v : Nat} (hc : c < 4) (hv : v < 32) : awk (s_with s (nI c) (nI v)) = awk s := by
  rw [awk_bt, awk_bt, bt_with hc hv (by decide)]
  rw [if_neg (show ¬ (8 + 5 * c ≤ 28 ∧ 28 < 13 + 5 * c) by omega)]
theorem okS_turn {s : Int32} {m : Nat} (h : okS s) (hm : m < 8) : okS (s_turn s (nI m)) := by
  apply okS_of
  intro i h1 h2
  rw [bt_turn hm h2, okS_bt h h1, show decide (m = i) = false from decide_eq_false (by omega)]
  rfl
theorem okS_with {s : Int32} {c v : Nat} (h : okS s) (hc : c < 4) (hv : v < 32) : okS (s_with s (nI c) (nI v)) := by
  apply okS_of
  intro i h1 h2
  rw [bt_with hc hv h2, if_neg (by omega), okS_bt h h1]
theorem okS_next {s : Int32} (h : okS s) : okS (s_next s) := by
  apply okS_of
  intro i h1 h2
  rw [bt_next h2, okS_bt h h1, show decide (28 = i) = false from decide_eq_false (by omega)]
  rfl
/-- a count is a number below 32 -/
theorem count_nI (s : Int32) {c : Nat} (hc : c < 4) : ∃ v, v < 32 ∧ s_count s (nI c) = nI v := by
  have h : (s_count s (nI c)).toBitVec.toNat < 2 ^ 5 := by
    apply Nat.lt_pow_two_of_testBit
    intro i hi
    rw [BitVec.testBit_toNat]
    by_cases h32 : i < 32
    · show bt _ i = false
      rw [bt_count hc h32, show decide (i < 5) = false from decide_eq_false (by omega)]; rfl
    · exact bt_big (by omega)
  refine ⟨_, h, ?_⟩
  apply Int32.toBitVec_inj.mp
  unfold nI
  rw [show ∀ v, (Int32.ofNat v).toBitVec = BitVec.ofNat 32 v from fun _ => rfl, BitVec.ofNat_toNat, BitVec.setWidth_eq]
theorem nI_bt {v w : Nat} (hv : v < 32) (hw : w < 32) (h : ∀ i, i < 5 → v.testBit i = w.testBit i) : v = w := by
  apply Nat.eq_of_testBit_eq
  intro i
  by_cases hi : i < 5
  · exact h i hi
  · rw [Nat.testBit_lt_two_pow (Nat.lt_of_lt_of_le hv (Nat.pow_le_pow_right (n := 2) (by decide) (show 5 ≤ i by omega))), Nat.testBit_lt_two_pow (Nat.lt_of_lt_of_le hw (Nat.pow_le_pow_right (n := 2) (by decide) (show 5 ≤ i by omega)))]
theorem count_with {s : Int32} {c e v : Nat} (hc : c < 4) (he : e < 4) (hv : v < 32) : s_count (s_with s (nI c) (nI v)) (nI e) = if e = c then nI v else s_count s (nI e) := by
  apply bt_ext
  intro i hi
  rw [bt_count he hi]
  by_cases h5 : i < 5
  · rw [bt_with hc hv (by omega)]
    by_cases h : e = c
    · subst h
      rw [if_pos (by omega), if_pos rfl, bt_nI hi, Nat.add_sub_cancel]
      simp [h5]
    · rw [if_neg (by omega), if_neg h, bt_count he hi]
  · by_cases h : e = c
    · subst h
      rw [if_pos rfl, bt_nI hi, Nat.testBit_lt_two_pow (Nat.lt_of_lt_of_le hv (Nat.pow_le_pow_right (n := 2) (by decide) (show 5 ≤ i by omega)))]
      simp [h5]
    · rw [if_neg h, bt_count he hi]
      simp [h5]
theorem count_turn {s : Int32} {e m : Nat} (he : e < 4) (hm : m < 8) : s_count (s_turn s (nI m)) (nI e) = s_count s (nI e) := by
  apply bt_ext
  intro i hi
  rw [bt_count he hi, bt_count he hi]
  by_cases h5 : i < 5
  · rw [bt_turn hm (by omega), show decide (m = i + (8 + 5 * e)) = false from decide_eq_false (by omega), Bool.xor_false]
  · simp [h5]
theorem count_next {s : Int32} {e : Nat} (he : e < 4) : s_count (s_next s) (nI e) = s_count s (nI e) := by
  apply bt_ext
  intro i hi
  rw [bt_count he hi, bt_count he hi]
  by_cases h5 : i < 5
  · rw [bt_next (by omega), show decide (28 = i + (8 + 5 * e)) = false from decide_eq_false (by omega), Bool.xor_false]
  · simp [h5]
theorem marks_with {s : Int32} {c v : Nat} (hc : c < 4) (hv : v < 32) : s_marks (s_with s (nI c) (nI v)) = s_marks s := by
  apply bt_ext
  intro i hi
  rw [bt_marks hi, bt_marks hi]
  by_cases h8 : i < 8
  · rw [bt_with hc hv hi, if_neg (by omega)]
  · simp [h8]
theorem marks_turn {s : Int32} {m : Nat} (hm : m < 8) : s_marks (s_turn s (nI m)) = s_marks s ^^^ (1 <<< (nI m &&& 31)) := by
  apply bt_ext
  intro i hi
  rw [bt_marks hi, bt_xor, bt_marks hi, bt_turn hm hi, sh_lit (by omega), show (1 : Int32) = nI 1 from rfl, sl_nI (by omega), bt_nI hi, Nat.one_mul, Nat.testBit_two_pow]
  by_cases h8 : i < 8
  · simp [h8]
  · simp [h8, show ¬ m = i by omega]
theorem marks_next (s : Int32) : s_marks (s_next s) = s_marks s := by
  apply bt_ext
  intro i hi
  rw [bt_marks hi, bt_marks hi]
  by_cases h8 : i < 8
  · rw [bt_next hi, show decide (28 = i) = false from decide_eq_false (by omega), Bool.xor_false]
  · simp [h8]
/-- the key of a state and a number of days -/
def key (k : Nat) (s : Int32) : Int32 := (nI k <<< (29 &&& 31)) ||| s
theorem key_bt {k i : Nat} {s : Int32} (hi : i < 32) : bt (key k s) i = ((decide (29 ≤ i) && k.testBit (i - 29)) || bt s i) := by
  unfold key
  rw [bt_or, show (29 &&& 31 : Int32) = nI 29 from rfl, sl_nI (by omega), bt_nI hi, Nat.testBit_mul_two_pow]
theorem key_inj {k k' : Nat} {s s' : Int32} (hk : k < 8) (hk' : k' < 8) (h : okS s) (h' : okS s') (e : key k s = key k' s') : k = k' ∧ s = s' := by
  have hb : ∀ i, i < 32 → ((decide (29 ≤ i) && k.testBit (i - 29)) || bt s i) = ((decide (29 ≤ i) && k'.testBit (i - 29)) || bt s' i) := by
    intro i hi
    rw [← key_bt hi, ← key_bt hi, e]
  constructor
  · have h3 : ∀ i, i < 3 → k.testBit i = k'.testBit i := by
      intro i hi
      have := hb (i + 29) (by omega)
      rw [okS_bt h (by omega), okS_bt h' (by omega)] at this
      simpa using this
    have h8 : ∀ k, k < 8 → ∀ k', k' < 8 → (∀ i, i < 3 → k.testBit i = k'.testBit i) → k = k' := by decide
    exact h8 k hk k' hk' h3
  · apply bt_ext
    intro i hi
    by_cases h29 : 29 ≤ i
    · rw [okS_bt h h29, okS_bt h' h29]
    · have := hb i hi
      simpa [h29] using this
theorem key_ne {k : Nat} {s : Int32} (hk : k < 8) (h0 : k ≠ 0) (h : okS s) : ¬ key k s = 0 := by
  intro e
  have : key k s = key 0 0 := e
  exact h0 (key_inj hk (by decide) h (by unfold okS; decide) this).1
