/-! what acts do to states; bounds; the best of k days -/
def okT (T : lm_T) (n : Nat) : Prop := (∀ a, a < n → ∃ k m c x dd bb l : Nat, T 0 a = nI k ∧ k ≤ 5 ∧ T 1 a = nI m ∧ m < 8 ∧ T 2 a = nI c ∧ c < 4 ∧ T 3 a = nI x ∧ 1 ≤ x ∧ x ≤ 9 ∧ T 4 a = nI dd ∧ dd < 256 ∧ T 5 a = nI bb ∧ bb < 256 ∧ T 6 a = nI l ∧ l < 4) ∧ (∀ j, j < 24 → -99 ≤ (T 7 j).toInt ∧ (T 7 j).toInt ≤ 99)
theorem nI_sub {a b : Nat} (h : b ≤ a) : nI a - nI b = nI (a - b) := by
  have : nI a = nI (a - b) + nI b := by rw [nI_add', Nat.sub_add_cancel h]
  rw [this, Int32.add_sub_cancel]
theorem aft_ok {T : lm_T} {n i hf : Nat} {s : Int32} (hT : okT T n) (hi : i ≤ n) (ha : alw T i hf s = true) : (okS s → okS (aft T i s)) ∧ awk (aft T i s) = awk s := by
  cases i with
  | zero => exact ⟨id, rfl⟩
  | succ a =>
    obtain ⟨k, m, c, x, dd, bb, l, e0, h0, e1, h1, e2, h2, e3, h3, h3', -⟩ := hT.1 a (by omega)
    obtain ⟨v, hv, ev⟩ := count_nI s h2
    unfold alw at ha
    unfold aft
    simp only [e1, e2, e3, ev] at ha ⊢
    split
    · exact ⟨fun h => okS_turn h h1, awk_turn h1⟩
    · split
      · exact ⟨fun h => okS_turn h h1, awk_turn h1⟩
      · split
        · exact ⟨fun h => okS_turn h h1, awk_turn h1⟩
        · rename_i n1 n2 n3
          split
          · rename_i n4
            have hx : x ≤ v := by
              rw [if_neg n1, if_neg n2, if_pos n4] at ha
              split at ha
              · cases ha
              · split at ha
                · cases ha
                · split at ha
                  · cases ha
                  · simp only [Bool.and_eq_true, Bool.not_eq_true', decide_eq_false_iff_not] at ha
                    have := ha.2
                    rw [nI_lt_iff (by omega) (by omega)] at this
                    omega
            rw [nI_sub hx]
            exact ⟨fun h => okS_with (okS_turn h h1) h2 (by omega), (awk_with h2 (by omega)).trans (awk_turn h1)⟩
          · rename_i n4
            split
            · rename_i n5
              have hx : v + x ≤ 23 := by
                rw [if_neg n1, if_neg n2, if_neg n4, if_pos n5] at ha
                split at ha
                · cases ha
                · split at ha
                  · cases ha
                  · split at ha
                    · cases ha
                    · simp only [Bool.and_eq_true, Bool.not_eq_true', decide_eq_false_iff_not] at ha
                      have := ha.2
                      rw [nI_add', show (23 : Int32) = nI 23 from rfl, nI_lt_iff (by omega) (by omega)] at this
                      omega
              rw [nI_add']
              exact ⟨fun h => okS_with (okS_turn h h1) h2 (by omega), (awk_with h2 (by omega)).trans (awk_turn h1)⟩
            · rw [nI_add', show (23 : Int32) = nI 23 from rfl]
              split
              · rename_i h23
                rw [nI_lt_iff (by omega) (by omega)] at h23
                exact ⟨fun h => okS_with h h2 (by omega), awk_with h2 (by omega)⟩
              · exact ⟨fun h => okS_with h h2 (by omega), awk_with h2 (by omega)⟩
/-- bounds of ints -/
def bd (x : Int32) (B : Int) : Prop := -B ≤ x.toInt ∧ x.toInt ≤ B
theorem bd_mono {x : Int32} {A B : Int} (h : bd x A) (hAB : A ≤ B) : bd x B := by unfold bd at *; omega
theorem toInt_add' {x y : Int32} {A B : Int} (hx : bd x A) (hy : bd y B) (h : A + B ≤ 2147483647) : (x + y).toInt = x.toInt + y.toInt := by
  unfold bd at *
  rw [Int32.toInt_add]
  rw [Int.bmod_eq_of_le (by simp; omega) (by simp; omega)]
theorem bd_add {x y : Int32} {A B : Int} (hx : bd x A) (hy : bd y B) (h : A + B ≤ 2147483647) : bd (x + y) (A + B) := by
  have := toInt_add' hx hy h
  unfold bd at *
  omega
theorem bd_cmul {v : Nat} {y : Int32} (hv : v < 32) (hy : bd y 99) : bd (nI v * y) 3069 := by
  unfold bd at *
  have h1 : (nI v * y).toInt = v * y.toInt := by
    rw [Int32.toInt_mul, nI_ti (by omega)]
    have a1 : (v : Int) * y.toInt ≤ 31 * 99 := by
      rcases Int.le_total 0 y.toInt with h | h
      · exact Int.mul_le_mul (by omega) (by omega) h (by decide)
      · have : (v : Int) * y.toInt ≤ 0 := Int.mul_nonpos_of_nonneg_of_nonpos (by omega) h
        omega
    have a2 : -(31 * 99) ≤ (v : Int) * y.toInt := by
      rcases Int.le_total 0 y.toInt with h | h
      · have : 0 ≤ (v : Int) * y.toInt := Int.mul_nonneg (by omega) h
        omega
      · have : (v : Int) * (-y.toInt) ≤ 31 * 99 := Int.mul_le_mul (by omega) (by omega) (by omega) (by decide)
        rw [Int.mul_neg] at this
        omega
    rw [Int.bmod_eq_of_le (by simp; omega) (by simp; omega)]
  have a1 : (v : Int) * y.toInt ≤ 31 * 99 := by
    rcases Int.le_total 0 y.toInt with h | h
    · exact Int.mul_le_mul (by omega) (by omega) h (by decide)
    · have : (v : Int) * y.toInt ≤ 0 := Int.mul_nonpos_of_nonneg_of_nonpos (by omega) h
      omega
  have a2 : -(31 * 99) ≤ (v : Int) * y.toInt := by
    rcases Int.le_total 0 y.toInt with h | h
    · have : 0 ≤ (v : Int) * y.toInt := Int.mul_nonneg (by omega) h
      omega
    · have : (v : Int) * (-y.toInt) ≤ 31 * 99 := Int.mul_le_mul (by omega) (by omega) (by omega) (by decide)
      rw [Int.mul_neg] at this
      omega
  omega
theorem val_m_bd {T : lm_T} {n hf : Nat} {s : Int32} (hT : okT T n) (hh : hf < 2) : ∀ m, m ≤ 8 → bd (val_m T hf s m) (99 * m) := by
  intro m
  induction m with
  | zero => intro _; show bd 0 (99 * (0 : Nat)); exact ⟨by decide, by decide⟩
  | succ m ih =>
    intro hm
    unfold val_m
    split
    · have := bd_add (ih (by omega)) (hT.2 (12 * hf + m) (by omega)) (by omega)
      exact bd_mono this (by omega)
    · exact bd_mono (ih (by omega)) (by omega)
theorem val_c_bd {T : lm_T} {n hf : Nat} {s : Int32} (hT : okT T n) (hh : hf < 2) : ∀ c, c ≤ 4 → bd (val_c T hf s c) (792 + 3069 * c) := by
  intro c
  induction c with
  | zero => intro _; exact val_m_bd hT hh 8 (by omega)
  | succ c ih =>
    intro hc
    unfold val_c
    obtain ⟨v, hv, ev⟩ := count_nI s (show c < 4 by omega)
    rw [ev]
    have := bd_add (ih (by omega)) (bd_cmul hv (hT.2 (12 * hf + 8 + c) (by omega))) (by omega)
    exact bd_mono this (by omega)
theorem val_bd {T : lm_T} {n hf : Nat} {s : Int32} (hT : okT T n) (hh : hf < 2) : bd (val T hf s) 13068 := bd_mono (val_c_bd hT hh 4 (by omega)) (by decide)
/-- best: what the half that is awake does first, gains of 0, gains of 1 -/
def gAt (b : Int32 × Int32 × Int32) (hf : Nat) : Int32 := if hf = 0 then b.2.1 else b.2.2
def bso (T : lm_T) (k : Nat) (f : Int32 → Int32 × Int32 × Int32) (s : Int32) (i : Nat) : Int32 := if k = 0 then val T (awk s) (aft T i s) else val T (awk s) (aft T i s) + gAt (f (s_next (aft T i s))) (awk s)
def bsh (T : lm_T) (k : Nat) (f : Int32 → Int32 × Int32 × Int32) (s : Int32) (i : Nat) : Int32 := if k = 0 then 0 else gAt (f (s_next (aft T i s))) (1 - awk s)
/-- the loop over acts: first, most, the other's -/
def bsl (T : lm_T) (k : Nat) (f : Int32 → Int32 × Int32 × Int32) (s : Int32) : Nat → Int32 × Int32 × Int32
  | 0 => (-1, -2000000000, 0)
  | i + 1 => if alw T i (awk s) s = true ∧ (bsl T k f s i).2.1 < bso T k f s i then (aI i, bso T k f s i, bsh T k f s i) else bsl T k f s i
def bsr (hf : Nat) (r : Int32 × Int32 × Int32) : Int32 × Int32 × Int32 := (r.1, if hf = 0 then r.2.1 else r.2.2, if hf = 0 then r.2.2 else r.2.1)
def bst (T : lm_T) (n : Nat) : Nat → Int32 → Int32 × Int32 × Int32
  | 0, _ => (-1, 0, 0)
  | k + 1, s => bsr (awk s) (bsl T k (bst T n k) s (n + 1))
