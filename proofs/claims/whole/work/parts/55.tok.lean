set_option maxRecDepth 16384
/-! the tape: tokens. p: where the look begins; tkF, tkE, tkS: where the token begins, ends, its sort; fgI: its figures -/
def srt (x : Int32) : Int32 := if ¬ x < 97 ∧ ¬ 122 < x then 1 else if ¬ x < 48 ∧ ¬ 57 < x then 2 else if x = 59 then 3 else 4
def skS (tl : Nat → Int32) : Nat → Nat → Nat
  | 0, p => p
  | k + 1, p => if tl p = 32 then skS tl k (p + 1) else p
def exS (tl : Nat → Int32) (so : Int32) : Nat → Nat → Nat
  | 0, p => p
  | k + 1, p => if srt (tl p) = so then exS tl so k (p + 1) else p
def tkF (tl : Nat → Int32) (ts p : Nat) : Nat := skS tl (ts - p) p
def tkS (tl : Nat → Int32) (ts p : Nat) : Int32 := if tkF tl ts p < ts then srt (tl (tkF tl ts p)) else 0
def tkE (tl : Nat → Int32) (ts p : Nat) : Nat := if tkF tl ts p < ts then (if tkS tl ts p = 1 ∨ tkS tl ts p = 2 then exS tl (tkS tl ts p) (ts - (tkF tl ts p + 1)) (tkF tl ts p + 1) else tkF tl ts p + 1) else ts
def fgL (tl : Nat → Int32) (F : Nat) : Nat → Int32
  | 0 => 0
  | c + 1 => if c < 2 then fgL tl F c * 10 + tl (F + c) - 48 else 100000
def fgI (tl : Nat → Int32) (ts p : Nat) : Int32 := if tkS tl ts p = 2 then fgL tl (tkF tl ts p) (tkE tl ts p - tkF tl ts p) else 0
theorem skS_b (tl : Nat → Int32) : ∀ k p, p ≤ skS tl k p ∧ skS tl k p ≤ p + k := by
  intro k
  induction k with
  | zero => intro p; exact ⟨Nat.le_refl _, Nat.le_refl _⟩
  | succ k ih =>
    intro p
    unfold skS
    split
    · have := ih (p + 1); omega
    · omega
theorem exS_b (tl : Nat → Int32) (so : Int32) : ∀ k p, p ≤ exS tl so k p ∧ exS tl so k p ≤ p + k := by
  intro k
  induction k with
  | zero => intro p; exact ⟨Nat.le_refl _, Nat.le_refl _⟩
  | succ k ih =>
    intro p
    unfold exS
    split
    · have := ih (p + 1); omega
    · omega
theorem exS_r (tl : Nat → Int32) (so : Int32) : ∀ k p i, p ≤ i → i < exS tl so k p → srt (tl i) = so := by
  intro k
  induction k with
  | zero => intro p i h1 h2; unfold exS at h2; omega
  | succ k ih =>
    intro p i h1 h2
    unfold exS at h2
    split at h2
    · rename_i h
      by_cases e : i = p
      · rw [e]; exact h
      · exact ih (p + 1) i (by omega) h2
    · omega
theorem tk_b {tl : Nat → Int32} {ts p : Nat} (h : p ≤ ts) : p ≤ tkF tl ts p ∧ tkF tl ts p ≤ ts ∧ tkF tl ts p ≤ tkE tl ts p ∧ tkE tl ts p ≤ ts ∧ (tkF tl ts p < ts → tkF tl ts p < tkE tl ts p) := by
  have q := skS_b tl (ts - p) p
  have q1 : tkF tl ts p = skS tl (ts - p) p := rfl
  refine ⟨by omega, by omega, ?_, ?_, fun h => ?_⟩ <;> unfold tkE
  · split
    · split
      · have := exS_b tl (tkS tl ts p) (ts - (tkF tl ts p + 1)) (tkF tl ts p + 1); omega
      · omega
    · omega
  · split
    · split
      · have := exS_b tl (tkS tl ts p) (ts - (tkF tl ts p + 1)) (tkF tl ts p + 1); omega
      · omega
    · omega
  · rw [if_pos h]
    split
    · have := exS_b tl (tkS tl ts p) (ts - (tkF tl ts p + 1)) (tkF tl ts p + 1); omega
    · omega
theorem srt_or (x : Int32) : srt x = 1 ∨ srt x = 2 ∨ srt x = 3 ∨ srt x = 4 := by
  unfold srt
  split
  · exact Or.inl rfl
  · split
    · exact Or.inr (Or.inl rfl)
    · split
      · exact Or.inr (Or.inr (Or.inl rfl))
      · exact Or.inr (Or.inr (Or.inr rfl))
theorem tk_0 {tl : Nat → Int32} {ts p : Nat} : tkS tl ts p = 0 ↔ ¬ tkF tl ts p < ts := by
  unfold tkS
  constructor
  · intro h z
    rw [if_pos z] at h
    rcases srt_or (tl (tkF tl ts p)) with q | q | q | q <;> (rw [q] at h; exact absurd h (by decide))
  · intro h; rw [if_neg h]
def tpC (tl : Nat → Int32) (ts : Nat) (hi : Nat → Nat → Int32) (p : Nat) : Prop := hi 95 1 = nI ts ∧ (∀ i, i < ts → hi 96 i = tl i) ∧ hi 95 2 = nI (tkF tl ts p) ∧ hi 95 3 = nI (tkE tl ts p) ∧ hi 95 4 = tkS tl ts p
def tpM (tl : Nat → Int32) (ts : Nat) (hi : Nat → Nat → Int32) (p : Nat) : Prop := hi 123 8 = nI ts ∧ (∀ i, i < ts → hi 139 i = tl i) ∧ hi 123 26 = nI (tkF tl ts p) ∧ hi 123 24 = nI (tkE tl ts p) ∧ hi 123 25 = tkS tl ts p ∧ hi 123 27 = fgI tl ts p
theorem lm_up_up {α : Type} {f : Nat → Nat → α} {a k : Nat} {v w : α} : lm_up (lm_up f a k v) a k w = lm_up f a k w := by
  funext b j
  unfold lm_up
  by_cases h1 : b = a
  · by_cases h2 : j = k
    · simp [h1, h2]
    · simp [h1, h2]
  · simp [h1]
theorem t_sortOf {d : Nat} {hi : Nat → Nat → Int32} {hl : Nat → Nat → Int64} {X : lm_X} {x : Int32} : lm_c d 40 [.int x] (hi, hl, X) (some (.int (srt x)), (hi, hl, X)) := by
  refine lm_c_of (lm_w_in (Nat.le_of_ble_eq_true rfl) ?_)
  show lm_wp d 40 0 [.int x] [] (hi, hl, X) _
  refine w_N 2 3 [.int x] [.int 97, .int x] rfl ?_
  refine w_icmp_lt (t := 14) rfl rfl (fun c1 => ?_) (fun c1 => ?_)
  · refine w_N 2 17 [.int x] [.int 48, .int x] rfl ?_
    refine w_icmp_lt (t := 28) rfl rfl (fun c2 => ?_) (fun c2 => ?_)
    · refine w_N 2 31 [.int x] [.int 59, .int x] rfl ?_
      refine w_icmp_ne (t := 38) rfl rfl (fun c3 => ?_) (fun c3 => ?_)
      · refine w_N 1 39 [.int x] [.int 4] rfl ?_
        refine w_ri rfl rfl ?_
        show (some (Value.int 4), _) = _
        unfold srt
        simp [c1, c2, c3]
      · refine w_N 2 39 [.int x] [.int 3] rfl ?_
        refine w_ri rfl rfl ?_
        show (some (Value.int 3), _) = _
        unfold srt
        simp [c1, c2, c3]
    · refine w_N 2 23 [.int x] [.int 57, .int x] rfl ?_
      refine w_icmp_gt (t := 28) rfl rfl (fun c4 => ?_) (fun c4 => ?_)
      · refine w_N 2 31 [.int x] [.int 59, .int x] rfl ?_
        refine w_icmp_ne (t := 38) rfl rfl (fun c5 => ?_) (fun c5 => ?_)
        · refine w_N 1 39 [.int x] [.int 4] rfl ?_
          refine w_ri rfl rfl ?_
          show (some (Value.int 4), _) = _
          unfold srt
          simp [c1, c2, c4, c5]
        · refine w_N 2 39 [.int x] [.int 3] rfl ?_
          refine w_ri rfl rfl ?_
          show (some (Value.int 3), _) = _
          unfold srt
          simp [c1, c2, c4, c5]
      · refine w_N 1 27 [.int x] [.int 2] rfl ?_
        refine w_ri rfl rfl ?_
        show (some (Value.int 2), _) = _
        unfold srt
        simp [c1, c2, c4]
  · refine w_N 2 9 [.int x] [.int 122, .int x] rfl ?_
    refine w_icmp_gt (t := 14) rfl rfl (fun c6 => ?_) (fun c6 => ?_)
    · refine w_N 2 17 [.int x] [.int 48, .int x] rfl ?_
      refine w_icmp_lt (t := 28) rfl rfl (fun c7 => ?_) (fun c7 => ?_)
      · refine w_N 2 31 [.int x] [.int 59, .int x] rfl ?_
        refine w_icmp_ne (t := 38) rfl rfl (fun c8 => ?_) (fun c8 => ?_)
        · refine w_N 1 39 [.int x] [.int 4] rfl ?_
          refine w_ri rfl rfl ?_
          show (some (Value.int 4), _) = _
          unfold srt
          simp [c1, c6, c7, c8]
        · refine w_N 2 39 [.int x] [.int 3] rfl ?_
          refine w_ri rfl rfl ?_
          show (some (Value.int 3), _) = _
          unfold srt
          simp [c1, c6, c7, c8]
      · refine w_N 2 23 [.int x] [.int 57, .int x] rfl ?_
        refine w_icmp_gt (t := 28) rfl rfl (fun c9 => ?_) (fun c9 => ?_)
        · refine w_N 2 31 [.int x] [.int 59, .int x] rfl ?_
          refine w_icmp_ne (t := 38) rfl rfl (fun c10 => ?_) (fun c10 => ?_)
          · refine w_N 1 39 [.int x] [.int 4] rfl ?_
            refine w_ri rfl rfl ?_
            show (some (Value.int 4), _) = _
            unfold srt
            simp [c1, c6, c7, c9, c10]
          · refine w_N 2 39 [.int x] [.int 3] rfl ?_
            refine w_ri rfl rfl ?_
            show (some (Value.int 3), _) = _
            unfold srt
            simp [c1, c6, c7, c9, c10]
        · refine w_N 1 27 [.int x] [.int 2] rfl ?_
          refine w_ri rfl rfl ?_
          show (some (Value.int 2), _) = _
          unfold srt
          simp [c1, c6, c7, c9]
    · refine w_N 1 13 [.int x] [.int 1] rfl ?_
      refine w_ri rfl rfl ?_
      show (some (Value.int 1), _) = _
      unfold srt
      simp [c1, c6]
theorem srt_1 {x : Int32} : srt x = 1 ↔ (¬ x < 97 ∧ ¬ 122 < x) := by
  unfold srt
  constructor
  · intro h
    split at h
    · assumption
    · split at h
      · exact absurd h (by decide)
      · split at h <;> exact absurd h (by decide)
  · intro h; rw [if_pos h]
theorem srt_2 {x : Int32} : srt x = 2 ↔ (¬ x < 48 ∧ ¬ 57 < x) := by
  have e : (¬ x < 48 ∧ ¬ 57 < x) → ¬ (¬ x < 97 ∧ ¬ 122 < x) := by
    intro h z
    have h1 := h.2
    have h2 := z.1
    rw [i32_lt] at h1 h2
    rw [show (57 : Int32).toInt = 57 from rfl] at h1
    rw [show (97 : Int32).toInt = 97 from rfl] at h2
    omega
  unfold srt
  constructor
  · intro h
    split at h
    · exact absurd h (by decide)
    · split at h
      · assumption
      · split at h <;> exact absurd h (by decide)
  · intro h; rw [if_neg (e h), if_pos h]
theorem m_isLetter {d : Nat} {hi : Nat → Nat → Int32} {hl : Nat → Nat → Int64} {X : lm_X} {x : Int32} : lm_c d 157 [.int x] (hi, hl, X) (some (.int (bz (decide (srt x = 1)))), (hi, hl, X)) := by
  refine lm_c_of (lm_w_in (Nat.le_of_ble_eq_true rfl) ?_)
  show lm_wp d 157 0 [.int x] [] (hi, hl, X) _
  refine w_N 2 3 [.int x] [.int 97, .int x] rfl ?_
  refine w_icmp_lt (t := 16) rfl rfl (fun c1 => ?_) (fun c1 => ?_)
  · refine w_N 1 17 [.int x] [.int 0] rfl ?_
    refine w_rz rfl rfl (by decide) ?_
    show (some (Value.int 0), _) = _
    rw [show decide (srt x = 1) = false from decide_eq_false (by rw [srt_1]; simp [c1])]
    rfl
  · refine w_N 2 9 [.int x] [.int 122, .int x] rfl ?_
    refine w_icmp_gt (t := 16) rfl rfl (fun c2 => ?_) (fun c2 => ?_)
    · refine w_N 1 17 [.int x] [.int 0] rfl ?_
      refine w_rz rfl rfl (by decide) ?_
      show (some (Value.int 0), _) = _
      rw [show decide (srt x = 1) = false from decide_eq_false (by rw [srt_1]; simp [c1, c2])]
      rfl
    · refine w_N 2 17 [.int x] [.int 1] rfl ?_
      refine w_rz rfl rfl (by decide) ?_
      show (some (Value.int 1), _) = _
      rw [show decide (srt x = 1) = true from decide_eq_true (by rw [srt_1]; simp [c1, c2])]
      rfl
theorem m_isDigit {d : Nat} {hi : Nat → Nat → Int32} {hl : Nat → Nat → Int64} {X : lm_X} {x : Int32} : lm_c d 158 [.int x] (hi, hl, X) (some (.int (bz (decide (srt x = 2)))), (hi, hl, X)) := by
  refine lm_c_of (lm_w_in (Nat.le_of_ble_eq_true rfl) ?_)
  show lm_wp d 158 0 [.int x] [] (hi, hl, X) _
  refine w_N 2 3 [.int x] [.int 48, .int x] rfl ?_
  refine w_icmp_lt (t := 16) rfl rfl (fun c1 => ?_) (fun c1 => ?_)
  · refine w_N 1 17 [.int x] [.int 0] rfl ?_
    refine w_rz rfl rfl (by decide) ?_
    show (some (Value.int 0), _) = _
    rw [show decide (srt x = 2) = false from decide_eq_false (by rw [srt_2]; simp [c1])]
    rfl
  · refine w_N 2 9 [.int x] [.int 57, .int x] rfl ?_
    refine w_icmp_gt (t := 16) rfl rfl (fun c2 => ?_) (fun c2 => ?_)
    · refine w_N 1 17 [.int x] [.int 0] rfl ?_
      refine w_rz rfl rfl (by decide) ?_
      show (some (Value.int 0), _) = _
      rw [show decide (srt x = 2) = false from decide_eq_false (by rw [srt_2]; simp [c1, c2])]
      rfl
    · refine w_N 2 17 [.int x] [.int 1] rfl ?_
      refine w_rz rfl rfl (by decide) ?_
      show (some (Value.int 1), _) = _
      rw [show decide (srt x = 2) = true from decide_eq_true (by rw [srt_2]; simp [c1, c2])]
      rfl
theorem t_ad1 {d : Nat} {hi : Nat → Nat → Int32} {hl : Nat → Nat → Int64} {X : lm_X} {ts : Nat} {tl : Nat → Int32} (S : sh_A X) (hts : ts ≤ 250) (h1 : hi 95 1 = nI ts) (HL : ∀ i, i < ts → hi 96 i = tl i) {Po : Option Value → lm_H → Prop} : ∀ (r m : Nat), m + r = ts → (lm_wp d 39 46 [.ref 95, lm_jk] [] (lm_up hi 95 2 (nI (skS tl r m)), hl, X) Po) → lm_wp d 39 8 [.ref 95, lm_jk] [] (lm_up hi 95 2 (nI m), hl, X) Po := by
  intro r
  induction r with
  | zero =>
    intro m hm kc
    refine w_N 1 9 [.ref 95, lm_jk] [.ref 95] rfl ?_
    refine w_gi (v := nI m) rfl rfl rfl (A_k S 95 (by decide)) (lm_up_eq) ?_
    refine w_N 1 13 [.ref 95, lm_jk] [.ref 95, .int (nI m)] rfl ?_
    refine w_gi (v := nI ts) rfl rfl rfl (A_k S 95 (by decide)) ((lm_up_nk (by decide)).trans (h1)) ?_
    refine w_icmp_ge_t (t := 46) rfl rfl (by rw [show m = ts by omega]; exact fun z => Int32.lt_irrefl z) ?_
    exact kc
  | succ r ih =>
    intro m hm kc
    refine w_N 1 9 [.ref 95, lm_jk] [.ref 95] rfl ?_
    refine w_gi (v := nI m) rfl rfl rfl (A_k S 95 (by decide)) (lm_up_eq) ?_
    refine w_N 1 13 [.ref 95, lm_jk] [.ref 95, .int (nI m)] rfl ?_
    refine w_gi (v := nI ts) rfl rfl rfl (A_k S 95 (by decide)) ((lm_up_nk (by decide)).trans (h1)) ?_
    refine w_icmp_ge_f (t := 46) rfl rfl (nI_lt (by omega) (by omega)) ?_
    refine w_N 1 20 [.ref 95, lm_jk] [.ref 95] rfl ?_
    refine w_gr 96 rfl rfl rfl (A_k S 95 (by decide)) (A_r S 95 0 (by decide)) ?_
    refine w_N 1 24 [.ref 95, lm_jk] [.ref 95, .ref 96] rfl ?_
    refine w_gi (v := nI m) rfl rfl rfl (A_k S 95 (by decide)) (lm_up_eq) ?_
    refine w_ia m (v := tl m) rfl (A_k S 96 (by decide)) (show X.2.2.1 96 = 250 from A_l S 96 (by decide)) rfl (by omega) (by decide) ((lm_up_na (by decide)).trans (HL m (by omega))) ?_
    refine w_N 1 30 [.ref 95, lm_jk] [.int 32, .int (tl m)] rfl ?_
    refine w_icmp_ne (t := 46) rfl rfl (fun c1 => ?_) (fun c1 => ?_)
    · rw [show skS tl (r + 1) m = m from if_neg c1] at kc
      exact kc
    · refine w_N 2 35 [.ref 95, lm_jk] [.ref 95, .ref 95] rfl ?_
      refine w_gi (v := nI m) rfl rfl rfl (A_k S 95 (by decide)) (lm_up_eq) ?_
      refine w_N 2 40 [.ref 95, lm_jk] [.int ((nI m) + 1), .ref 95] rfl ?_
      refine w_pi rfl rfl rfl rfl (A_k S 95 (by decide)) (by decide) ?_
      refine w_N 1 8 [.ref 95, lm_jk] [] rfl ?_
      rw [lm_up_up, show nI m + 1 = nI (m + 1) from (nI_succ m).symm]
      rw [show skS tl (r + 1) m = skS tl r (m + 1) from if_pos c1] at kc
      exact ih (m + 1) (by omega) kc
theorem t_ad2 {d : Nat} {hi : Nat → Nat → Int32} {hl : Nat → Nat → Int64} {X : lm_X} {ts : Nat} {tl : Nat → Int32} (S : sh_A X) (hts : ts ≤ 250) (h1 : hi 95 1 = nI ts) (HL : ∀ i, i < ts → hi 96 i = tl i) {so : Int32} (h4 : hi 95 4 = so) {Po : Option Value → lm_H → Prop} : ∀ (r m : Nat), m + r = ts → (lm_wp (d + 1) 39 174 [.ref 95, .int 1] [] (lm_up hi 95 3 (nI (exS tl so r m)), hl, X) Po) → lm_wp (d + 1) 39 127 [.ref 95, .int 1] [] (lm_up hi 95 3 (nI m), hl, X) Po := by
  intro r
  induction r with
  | zero =>
    intro m hm kc
    refine w_N 1 128 [.ref 95, .int 1] [.int 1] rfl ?_
    refine w_if_eq_f (t := 174) rfl rfl (by decide) ?_
    refine w_N 1 132 [.ref 95, .int 1] [.ref 95] rfl ?_
    refine w_gi (v := nI m) rfl rfl rfl (A_k S 95 (by decide)) (lm_up_eq) ?_
    refine w_N 1 136 [.ref 95, .int 1] [.ref 95, .int (nI m)] rfl ?_
    refine w_gi (v := nI ts) rfl rfl rfl (A_k S 95 (by decide)) ((lm_up_nk (by decide)).trans (h1)) ?_
    refine w_icmp_ge_t (t := 174) rfl rfl (by rw [show m = ts by omega]; exact fun z => Int32.lt_irrefl z) ?_
    exact kc
  | succ r ih =>
    intro m hm kc
    refine w_N 1 128 [.ref 95, .int 1] [.int 1] rfl ?_
    refine w_if_eq_f (t := 174) rfl rfl (by decide) ?_
    refine w_N 1 132 [.ref 95, .int 1] [.ref 95] rfl ?_
    refine w_gi (v := nI m) rfl rfl rfl (A_k S 95 (by decide)) (lm_up_eq) ?_
    refine w_N 1 136 [.ref 95, .int 1] [.ref 95, .int (nI m)] rfl ?_
    refine w_gi (v := nI ts) rfl rfl rfl (A_k S 95 (by decide)) ((lm_up_nk (by decide)).trans (h1)) ?_
    refine w_icmp_ge_f (t := 174) rfl rfl (nI_lt (by omega) (by omega)) ?_
    refine w_N 1 143 [.ref 95, .int 1] [.ref 95] rfl ?_
    refine w_gr 96 rfl rfl rfl (A_k S 95 (by decide)) (A_r S 95 0 (by decide)) ?_
    refine w_N 1 147 [.ref 95, .int 1] [.ref 95, .ref 96] rfl ?_
    refine w_gi (v := nI m) rfl rfl rfl (A_k S 95 (by decide)) (lm_up_eq) ?_
    refine w_ia m (v := tl m) rfl (A_k S 96 (by decide)) (show X.2.2.1 96 = 250 from A_l S 96 (by decide)) rfl (by omega) (by decide) ((lm_up_na (by decide)).trans (HL m (by omega))) ?_
    refine w_cc rfl t_sortOf ?_
    show lm_wp _ 39 154 [.ref 95, .int 1] [.int (srt (tl m))] (lm_up hi 95 3 (nI m), hl, X) _
    refine w_N 1 155 [.ref 95, .int 1] [.ref 95, .int (srt (tl m))] rfl ?_
    refine w_gi (v := so) rfl rfl rfl (A_k S 95 (by decide)) ((lm_up_nk (by decide)).trans (h4)) ?_
    refine w_icmp_ne (t := 174) rfl rfl (fun c1 => ?_) (fun c1 => ?_)
    · rw [show exS tl so (r + 1) m = m from if_neg c1] at kc
      exact kc
    · refine w_N 2 163 [.ref 95, .int 1] [.ref 95, .ref 95] rfl ?_
      refine w_gi (v := nI m) rfl rfl rfl (A_k S 95 (by decide)) (lm_up_eq) ?_
      refine w_N 2 168 [.ref 95, .int 1] [.int ((nI m) + 1), .ref 95] rfl ?_
      refine w_pi rfl rfl rfl rfl (A_k S 95 (by decide)) (by decide) ?_
      refine w_N 1 127 [.ref 95, .int 1] [] rfl ?_
      rw [lm_up_up, show nI m + 1 = nI (m + 1) from (nI_succ m).symm]
      rw [show exS tl so (r + 1) m = exS tl so r (m + 1) from if_pos c1] at kc
      exact ih (m + 1) (by omega) kc
theorem t_ad46n {d : Nat} {hi : Nat → Nat → Int32} {hl : Nat → Nat → Int64} {X : lm_X} {ts : Nat} {tl : Nat → Int32} (S : sh_A X) (hts : ts ≤ 250) (h1 : hi 95 1 = nI ts) (HL : ∀ i, i < ts → hi 96 i = tl i) {e : Nat} (he : e ≤ ts) (hF : ¬ tkF tl ts e < ts) : lm_wp (d + 1) 39 46 [.ref 95, lm_jk] [] (lm_up hi 95 2 (nI (tkF tl ts e)), hl, X) (fun v h1 => ∃ hi', v = none ∧ h1 = (hi', hl, X) ∧ tpC tl ts hi' e ∧ ∀ a, a ≠ 95 → hi' a = hi a) := by
  have hb := tk_b (tl := tl) he
  have eF : tkF tl ts e = ts := by omega
  refine w_N 2 48 [.ref 95, lm_jk] [.ref 95, .ref 95] rfl ?_
  refine w_gi (v := nI (tkF tl ts e)) rfl rfl rfl (A_k S 95 (by decide)) (lm_up_eq) ?_
  refine w_N 1 52 [.ref 95, lm_jk] [.ref 95, .int (nI (tkF tl ts e)), .ref 95] rfl ?_
  refine w_gi (v := nI ts) rfl rfl rfl (A_k S 95 (by decide)) ((lm_up_nk (by decide)).trans (h1)) ?_
  refine w_icmp_ge_t (t := 73) rfl rfl (by rw [eF]; exact fun z => Int32.lt_irrefl z) ?_
  refine w_N 1 74 [.ref 95, lm_jk] [.int 0, .ref 95] rfl ?_
  refine w_pi rfl rfl rfl rfl (A_k S 95 (by decide)) (by decide) ?_
  refine w_N 2 79 [.ref 95, lm_jk] [.ref 95, .ref 95] rfl ?_
  refine w_gi (v := nI (tkF tl ts e)) rfl rfl rfl (A_k S 95 (by decide)) ((lm_up_nk (by decide)).trans (lm_up_eq)) ?_
  refine w_N 1 83 [.ref 95, lm_jk] [.ref 95, .int (nI (tkF tl ts e)), .ref 95] rfl ?_
  refine w_gi (v := nI ts) rfl rfl rfl (A_k S 95 (by decide)) ((lm_up_nk (by decide)).trans ((lm_up_nk (by decide)).trans (h1))) ?_
  refine w_icmp_ge_t (t := 98) rfl rfl (by rw [eF]; exact fun z => Int32.lt_irrefl z) ?_
  refine w_N 1 99 [.ref 95, lm_jk] [.ref 95, .ref 95] rfl ?_
  refine w_gi (v := nI ts) rfl rfl rfl (A_k S 95 (by decide)) ((lm_up_nk (by decide)).trans ((lm_up_nk (by decide)).trans (h1))) ?_
  refine w_pi rfl rfl rfl rfl (A_k S 95 (by decide)) (by decide) ?_
  refine w_N 1 106 [.ref 95, lm_jk] [.ref 95] rfl ?_
  refine w_gi (v := 0) rfl rfl rfl (A_k S 95 (by decide)) ((lm_up_nk (by decide)).trans (lm_up_eq)) ?_
  refine w_N 1 110 [.ref 95, lm_jk] [.int 1, .int 0] rfl ?_
  refine w_icmp_eq_f (t := 121) rfl rfl (by decide) ?_
  refine w_N 1 114 [.ref 95, lm_jk] [.ref 95] rfl ?_
  refine w_gi (v := 0) rfl rfl rfl (A_k S 95 (by decide)) ((lm_up_nk (by decide)).trans (lm_up_eq)) ?_
  refine w_N 1 118 [.ref 95, lm_jk] [.int 2, .int 0] rfl ?_
  refine w_icmp_ne_t (t := 125) rfl rfl (by decide) ?_
  refine w_N 3 128 [.ref 95, .int 0] [.int 0] rfl ?_
  refine w_if_eq_t (t := 174) rfl rfl (by decide) ?_
  refine w_rv rfl rfl ?_
  refine ⟨_, rfl, rfl, ⟨(lm_up_nk (by decide)).trans ((lm_up_nk (by decide)).trans ((lm_up_nk (by decide)).trans (h1))), fun i hj => ?_, (lm_up_nk (by decide)).trans ((lm_up_nk (by decide)).trans (lm_up_eq)), (lm_up_eq).trans (by rw [show tkE tl ts e = ts from if_neg hF]), ((lm_up_nk (by decide)).trans (lm_up_eq)).trans (tk_0.mpr hF).symm⟩, fun a ha => ?_⟩
  · rw [lm_up_na (by decide), lm_up_na (by decide), lm_up_na (by decide)]; exact HL i hj
  · rw [lm_up_rw ha, lm_up_rw ha, lm_up_rw ha]
theorem t_ad46t {d : Nat} {hi : Nat → Nat → Int32} {hl : Nat → Nat → Int64} {X : lm_X} {ts : Nat} {tl : Nat → Int32} (S : sh_A X) (hts : ts ≤ 250) (h1 : hi 95 1 = nI ts) (HL : ∀ i, i < ts → hi 96 i = tl i) {e : Nat} (he : e ≤ ts) (hF : tkF tl ts e < ts) : lm_wp (d + 1) 39 46 [.ref 95, lm_jk] [] (lm_up hi 95 2 (nI (tkF tl ts e)), hl, X) (fun v h1 => ∃ hi', v = none ∧ h1 = (hi', hl, X) ∧ tpC tl ts hi' e ∧ ∀ a, a ≠ 95 → hi' a = hi a) := by
  have hb := tk_b (tl := tl) he
  have eS : tkS tl ts e = srt (tl (tkF tl ts e)) := if_pos hF
  refine w_N 2 48 [.ref 95, lm_jk] [.ref 95, .ref 95] rfl ?_
  refine w_gi (v := nI (tkF tl ts e)) rfl rfl rfl (A_k S 95 (by decide)) (lm_up_eq) ?_
  refine w_N 1 52 [.ref 95, lm_jk] [.ref 95, .int (nI (tkF tl ts e)), .ref 95] rfl ?_
  refine w_gi (v := nI ts) rfl rfl rfl (A_k S 95 (by decide)) ((lm_up_nk (by decide)).trans (h1)) ?_
  refine w_icmp_ge_f (t := 73) rfl rfl (nI_lt hF (by omega)) ?_
  refine w_N 1 59 [.ref 95, lm_jk] [.ref 95, .ref 95] rfl ?_
  refine w_gr 96 rfl rfl rfl (A_k S 95 (by decide)) (A_r S 95 0 (by decide)) ?_
  refine w_N 1 63 [.ref 95, lm_jk] [.ref 95, .ref 96, .ref 95] rfl ?_
  refine w_gi (v := nI (tkF tl ts e)) rfl rfl rfl (A_k S 95 (by decide)) (lm_up_eq) ?_
  refine w_ia (tkF tl ts e) (v := tl (tkF tl ts e)) rfl (A_k S 96 (by decide)) (show X.2.2.1 96 = 250 from A_l S 96 (by decide)) rfl (by omega) (by decide) ((lm_up_na (by decide)).trans (HL (tkF tl ts e) hF)) ?_
  refine w_cc rfl t_sortOf ?_
  show lm_wp _ 39 70 [.ref 95, lm_jk] [.int (srt (tl (tkF tl ts e))), .ref 95] (lm_up hi 95 2 (nI (tkF tl ts e)), hl, X) _
  refine w_N 1 74 [.ref 95, lm_jk] [.int (srt (tl (tkF tl ts e))), .ref 95] rfl ?_
  refine w_pi rfl rfl rfl rfl (A_k S 95 (by decide)) (by decide) ?_
  refine w_N 2 79 [.ref 95, lm_jk] [.ref 95, .ref 95] rfl ?_
  refine w_gi (v := nI (tkF tl ts e)) rfl rfl rfl (A_k S 95 (by decide)) ((lm_up_nk (by decide)).trans (lm_up_eq)) ?_
  refine w_N 1 83 [.ref 95, lm_jk] [.ref 95, .int (nI (tkF tl ts e)), .ref 95] rfl ?_
  refine w_gi (v := nI ts) rfl rfl rfl (A_k S 95 (by decide)) ((lm_up_nk (by decide)).trans ((lm_up_nk (by decide)).trans (h1))) ?_
  refine w_icmp_ge_f (t := 98) rfl rfl (nI_lt hF (by omega)) ?_
  refine w_N 1 90 [.ref 95, lm_jk] [.ref 95, .ref 95] rfl ?_
  refine w_gi (v := nI (tkF tl ts e)) rfl rfl rfl (A_k S 95 (by decide)) ((lm_up_nk (by decide)).trans (lm_up_eq)) ?_
  refine w_N 3 102 [.ref 95, lm_jk] [.int ((nI (tkF tl ts e)) + 1), .ref 95] rfl ?_
  refine w_pi rfl rfl rfl rfl (A_k S 95 (by decide)) (by decide) ?_
  refine w_N 1 106 [.ref 95, lm_jk] [.ref 95] rfl ?_
  refine w_gi (v := srt (tl (tkF tl ts e))) rfl rfl rfl (A_k S 95 (by decide)) ((lm_up_nk (by decide)).trans (lm_up_eq)) ?_
  refine w_N 1 110 [.ref 95, lm_jk] [.int 1, .int (srt (tl (tkF tl ts e)))] rfl ?_
  refine w_icmp_eq (t := 121) rfl rfl (fun c1 => ?_) (fun c1 => ?_)
  · refine w_N 3 127 [.ref 95, .int 1] [] rfl ?_
    have eE : tkE tl ts e = exS tl (srt (tl (tkF tl ts e))) (ts - (tkF tl ts e + 1)) (tkF tl ts e + 1) := by unfold tkE; rw [if_pos hF, if_pos (by rw [eS]; simp [c1]), eS]
    rw [show nI (tkF tl ts e) + 1 = nI (tkF tl ts e + 1) from (nI_succ _).symm]
    refine t_ad2 (tl := tl) (hi := lm_up (lm_up hi 95 2 (nI (tkF tl ts e))) 95 4 (srt (tl (tkF tl ts e)))) (so := srt (tl (tkF tl ts e))) S hts ((lm_up_nk (by decide)).trans ((lm_up_nk (by decide)).trans (h1))) (fun i hj => by rw [lm_up_na (by decide), lm_up_na (by decide)]; exact HL i hj) (lm_up_eq) (ts - (tkF tl ts e + 1)) (tkF tl ts e + 1) (by omega) ?_
    refine w_rv rfl rfl ?_
    rw [← eE]
    refine ⟨_, rfl, rfl, ⟨(lm_up_nk (by decide)).trans ((lm_up_nk (by decide)).trans ((lm_up_nk (by decide)).trans (h1))), fun i hj => ?_, (lm_up_nk (by decide)).trans ((lm_up_nk (by decide)).trans (lm_up_eq)), lm_up_eq, ((lm_up_nk (by decide)).trans (lm_up_eq)).trans eS.symm⟩, fun a ha => ?_⟩
    · rw [lm_up_na (by decide), lm_up_na (by decide), lm_up_na (by decide)]; exact HL i hj
    · rw [lm_up_rw ha, lm_up_rw ha, lm_up_rw ha]
  · refine w_N 1 114 [.ref 95, lm_jk] [.ref 95] rfl ?_
    refine w_gi (v := srt (tl (tkF tl ts e))) rfl rfl rfl (A_k S 95 (by decide)) ((lm_up_nk (by decide)).trans (lm_up_eq)) ?_
    refine w_N 1 118 [.ref 95, lm_jk] [.int 2, .int (srt (tl (tkF tl ts e)))] rfl ?_
    refine w_icmp_ne (t := 125) rfl rfl (fun c2 => ?_) (fun c2 => ?_)
    · refine w_N 2 127 [.ref 95, .int 0] [] rfl ?_
      refine w_N 1 128 [.ref 95, .int 0] [.int 0] rfl ?_
      refine w_if_eq_t (t := 174) rfl rfl (by decide) ?_
      refine w_rv rfl rfl ?_
      have eE : tkE tl ts e = tkF tl ts e + 1 := by unfold tkE; rw [if_pos hF, if_neg (by rw [eS]; simp [c1, c2])]
      refine ⟨_, rfl, rfl, ⟨(lm_up_nk (by decide)).trans ((lm_up_nk (by decide)).trans ((lm_up_nk (by decide)).trans (h1))), fun i hj => ?_, (lm_up_nk (by decide)).trans ((lm_up_nk (by decide)).trans (lm_up_eq)), (lm_up_eq).trans (by rw [eE, nI_succ]), ((lm_up_nk (by decide)).trans (lm_up_eq)).trans eS.symm⟩, fun a ha => ?_⟩
      · rw [lm_up_na (by decide), lm_up_na (by decide), lm_up_na (by decide)]; exact HL i hj
      · rw [lm_up_rw ha, lm_up_rw ha, lm_up_rw ha]
    · refine w_N 3 127 [.ref 95, .int 1] [] rfl ?_
      have eE : tkE tl ts e = exS tl (srt (tl (tkF tl ts e))) (ts - (tkF tl ts e + 1)) (tkF tl ts e + 1) := by unfold tkE; rw [if_pos hF, if_pos (by rw [eS]; simp [c1, c2]), eS]
      rw [show nI (tkF tl ts e) + 1 = nI (tkF tl ts e + 1) from (nI_succ _).symm]
      refine t_ad2 (tl := tl) (hi := lm_up (lm_up hi 95 2 (nI (tkF tl ts e))) 95 4 (srt (tl (tkF tl ts e)))) (so := srt (tl (tkF tl ts e))) S hts ((lm_up_nk (by decide)).trans ((lm_up_nk (by decide)).trans (h1))) (fun i hj => by rw [lm_up_na (by decide), lm_up_na (by decide)]; exact HL i hj) (lm_up_eq) (ts - (tkF tl ts e + 1)) (tkF tl ts e + 1) (by omega) ?_
      refine w_rv rfl rfl ?_
      rw [← eE]
      refine ⟨_, rfl, rfl, ⟨(lm_up_nk (by decide)).trans ((lm_up_nk (by decide)).trans ((lm_up_nk (by decide)).trans (h1))), fun i hj => ?_, (lm_up_nk (by decide)).trans ((lm_up_nk (by decide)).trans (lm_up_eq)), lm_up_eq, ((lm_up_nk (by decide)).trans (lm_up_eq)).trans eS.symm⟩, fun a ha => ?_⟩
      · rw [lm_up_na (by decide), lm_up_na (by decide), lm_up_na (by decide)]; exact HL i hj
      · rw [lm_up_rw ha, lm_up_rw ha, lm_up_rw ha]
theorem t_adv {d : Nat} {hi : Nat → Nat → Int32} {hl : Nat → Nat → Int64} {X : lm_X} {ts : Nat} {tl : Nat → Int32} (S : sh_A X) (hts : ts ≤ 250) (h1 : hi 95 1 = nI ts) (HL : ∀ i, i < ts → hi 96 i = tl i) {e : Nat} (he : e ≤ ts) (h3 : hi 95 3 = nI e) : lm_w (d + 1) 39 [.ref 95] (hi, hl, X) (fun v h1 => ∃ hi', v = none ∧ h1 = (hi', hl, X) ∧ tpC tl ts hi' e ∧ ∀ a, a ≠ 95 → hi' a = hi a) := by
  refine lm_w_in (Nat.le_of_ble_eq_true rfl) ?_
  show lm_wp (d + 1) 39 0 [.ref 95, lm_jk] [] (hi, hl, X) _
  refine w_N 2 2 [.ref 95, lm_jk] [.ref 95, .ref 95] rfl ?_
  refine w_gi (v := nI e) rfl rfl rfl (A_k S 95 (by decide)) (h3) ?_
  refine w_pi rfl rfl rfl rfl (A_k S 95 (by decide)) (by decide) ?_
  refine t_ad1 S hts h1 HL (ts - e) e (by omega) ?_
  by_cases hF : tkF tl ts e < ts
  · exact t_ad46t S hts h1 HL he hF
  · exact t_ad46n S hts h1 HL he hF
