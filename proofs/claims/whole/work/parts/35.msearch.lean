set_option maxRecDepth 16384
/-! the reference: mostTogether, isDone, mostAgainst -/
theorem tog_bd {T : lm_T} {n : Nat} (hT : okT T n) : ∀ k s, k ≤ 4 → bd (tog T n k s) (13068 * k) := by
  intro k
  induction k with
  | zero => intro s _; show bd 0 (13068 * (0 : Nat)); exact ⟨by decide, by decide⟩
  | succ k ih =>
    intro s hk
    have hw := awk_lt s
    have hv : ∀ i, bd (val T (awk s) (aft T i s) + tog T n k (s_next (aft T i s))) (13068 * (k + 1)) := fun i => bd_mono (bd_add (val_bd hT hw) (ih _ (by omega)) (by omega)) (by omega)
    have hl : ∀ m, 1 ≤ m → bd (tol T (tog T n k) s m) (13068 * (k + 1)) := by
      intro m
      induction m with
      | zero => intro h; omega
      | succ m im =>
        intro _
        by_cases h0 : alw T m (awk s) s = true
        · rw [show tol T (tog T n k) s (m + 1) = _ from if_pos h0]
          unfold mx
          split
          · exact hv m
          · rcases Nat.eq_zero_or_pos m with rfl | hm
            · rename_i h9; exact absurd (bd_low (hv 0) (by omega)) h9
            · exact im hm
        · rw [show tol T (tog T n k) s (m + 1) = _ from if_neg h0]
          rcases Nat.eq_zero_or_pos m with rfl | hm
          · exact absurd rfl h0
          · exact im hm
    exact hl (n + 1) (by omega)
theorem tol_1 {T : lm_T} {n k : Nat} {s : Int32} (hT : okT T n) (hk : k ≤ 4) : tol T (tog T n k) s 1 = val T (awk s) (aft T 0 s) + tog T n k (s_next (aft T 0 s)) := by
  show mx (-2000000000) _ = _
  unfold mx
  exact if_pos (bd_low (bd_add (val_bd hT (awk_lt s)) (tog_bd hT k _ hk) (by omega)) (by omega))
def MT (d k : Nat) : Prop := ∀ (hi : Nat → Nat → Int32) (hl : Nat → Nat → Int64) (X : lm_X) (b n D : Nat) (T : lm_T) (s x y : Int32), sh_M X b → rT hi b T n → okT T n → rS hi b s → awk s = D % 2 → D + k < 2147483648 → x = nI k → y = nI D → lm_c d 202 [.ref b, .int x, .int y] (hi, hl, X) (some (.int (tog T n k s)), (hi, hl, X))
theorem m_mt1 {d : Nat} {hi : Nat → Nat → Int32} {hl : Nat → Nat → Int64} {X : lm_X} {b n D k : Nat} {T : lm_T} {s : Int32} (S : sh_M X b) (hT : okT T n) (H : rT hi b T n) (HS : rS hi b s) (hw : awk s = D % 2) (hD : D + (k + 1) < 2147483648) (hk : k < 4) (hB : MT (d + 1) k) {P : Option Value → lm_H → Prop} (k' : ∀ (c : Int32) (x7 : Value), lm_wp (d + 2) 202 103 [.ref b, .int (nI (k + 1)), .int (nI D), .long (stg s), lm_jk, .int (tog T n (k + 1) s), .int c, x7] [] (hi, hl, X) P) : ∀ (j m : Nat) (ms : Int32) (mk : Int32) (x7 : Value), m + j = n → (ms = tol T (tog T n k) s (m + 1)) → (mk = nI m) → lm_wp (d + 2) 202 17 [.ref b, .int (nI (k + 1)), .int (nI D), .long (stg s), lm_jk, .int ms, .int mk, x7] [] (hi, hl, X) P := by
  intro j
  induction j with
  | zero =>
    intro m ms mk x7 hm e1 e4
    have hn10 := rTle H
    refine w_N 2 20 [.ref b, .int (nI (k + 1)), .int (nI D), .long (stg s), lm_jk, .int ms, .int mk, x7] [.ref b, .int mk] rfl ?_
    refine w_gi (v := nI n) rfl rfl rfl (M_kd S) (rTn H) ?_
    refine w_icmp_ge_t (t := 103) rfl rfl (by rw [e4, show m = n by omega]; exact fun z => Int32.lt_irrefl z) ?_
    obtain rfl : m = n := by omega
    rw [e1]
    exact k' _ _
  | succ j ih =>
    intro m ms mk x7 hm e1 e4
    have hn10 := rTle H
    have hne : ¬ mk = -1 := fun z => by rw [e4] at z; have := (aI_none (i := m + 1) (by omega)).mp z; omega
    refine w_N 2 20 [.ref b, .int (nI (k + 1)), .int (nI D), .long (stg s), lm_jk, .int ms, .int mk, x7] [.ref b, .int mk] rfl ?_
    refine w_gi (v := nI n) rfl rfl rfl (M_kd S) (rTn H) ?_
    refine w_icmp_ge_f (t := 103) rfl rfl (by rw [e4]; exact nI_lt (by omega) (by omega)) ?_
    refine w_N 2 29 [.ref b, .int (nI (k + 1)), .int (nI D), .long (stg s), lm_jk, .int ms, .int mk, x7] [.int (-1), .int mk] rfl ?_
    refine w_icmp_eq_f (t := 44) rfl rfl hne ?_
    refine w_N 4 37 [.ref b, .int (nI (k + 1)), .int (nI D), .long (stg s), lm_jk, .int ms, .int mk, x7] [.int 2, .int (nI D), .int mk, .ref b] rfl ?_
    refine w_rem rfl (by decide) ?_
    rw [hrem hw (by omega)]
    refine w_cc (w_vst rfl rfl rfl (Nat.le_of_ble_eq_true rfl) (Nat.le_of_ble_eq_true rfl) (M_kd S)) (m_canBeE (d := d) S H HS hT e4 rfl (by omega)) ?_
    show lm_wp _ 202 41 [.ref b, .int (nI (k + 1)), .int (nI D), .long (stg s), lm_jk, .int ms, .int mk, x7] [.int (bz (alw T (m + 1) (awk s) s))] (hi, hl, X) _
    refine w_zeq (t := 97) rfl rfl (fun c1 => ?_) (fun c1 => ?_)
    · refine w_N 2 17 [.ref b, .int (nI (k + 1)), .int (nI D), .long (stg s), lm_jk, .int ms, .int (mk + 1), x7] [] rfl ?_
      have eb : tol T (tog T n k) s (m + 2) = tol T (tog T n k) s (m + 1) := if_neg (by rw [c1]; decide)
      exact ih (m + 1) _ _ _ (by omega) (by rw [eb]; exact e1) (by rw [e4, nI_succ])
    · refine w_N 2 47 [.ref b, .int (nI (k + 1)), .int (nI D), .long (stg s), lm_jk, .int ms, .int mk, x7] [.int mk, .ref b] rfl ?_
      refine w_ca (w_vst rfl rfl rfl (Nat.le_of_ble_eq_true rfl) (Nat.le_of_ble_eq_true rfl) (M_kd S)) (m_doIt (hf := awk s) (i := m + 1) S H HS hT e4 (show m + 1 ≤ n by omega) c1) ?_
      rintro _ _ ⟨hi1, rfl, rfl, HS1, X1, D1⟩
      have H1 := rT_X X1 H
      show lm_wp _ 202 50 [.ref b, .int (nI (k + 1)), .int (nI D), .long (stg s), lm_jk, .int ms, .int mk, x7] [] (hi1, hl, X) _
      refine w_N 3 53 [.ref b, .int (nI (k + 1)), .int (nI D), .long (stg s), lm_jk, .int ms, .int mk, x7] [.int 2, .int (nI D), .ref b] rfl ?_
      refine w_rem rfl (by decide) ?_
      rw [hrem hw (by omega)]
      refine w_cc (w_vst rfl rfl rfl (Nat.le_of_ble_eq_true rfl) (Nat.le_of_ble_eq_true rfl) (M_kd S)) (m_valueOfE (d := d) S H1 HS1 rfl (awk_lt s)) ?_
      show lm_wp _ 202 57 [.ref b, .int (nI (k + 1)), .int (nI D), .long (stg s), lm_jk, .int ms, .int mk, x7] [.int (val T (awk s) (aft T (m + 1) s))] (hi1, hl, X) _
      refine w_N 7 64 [.ref b, .int (nI (k + 1)), .int (nI D), .long (stg s), lm_jk, .int ms, .int mk, x7] [.int ((nI D) + 1), .int ((nI (k + 1)) - 1), .ref b, .int (val T (awk s) (aft T (m + 1) s))] rfl ?_
      refine w_cc (w_vst rfl rfl rfl (Nat.le_of_ble_eq_true rfl) (Nat.le_of_ble_eq_true rfl) (M_kd S)) (hB _ _ _ _ _ (D + 1) _ (s_next (aft T (m + 1) s)) _ _ S H1 hT (rS_next HS1) (by rw [awk_next, (aft_ok (hf := awk s) hT (show m + 1 ≤ n by omega) c1).2]; omega) (by omega) (nI_prd k) (nI_succ D).symm) ?_
      show lm_wp _ 202 67 [.ref b, .int (nI (k + 1)), .int (nI D), .long (stg s), lm_jk, .int ms, .int mk, x7] [.int (tog T n k (s_next (aft T (m + 1) s))), .int (val T (awk s) (aft T (m + 1) s))] (hi1, hl, X) _
      refine w_N 4 72 [.ref b, .int (nI (k + 1)), .int (nI D), .long (stg s), lm_jk, .int ms, .int mk, .int ((val T (awk s) (aft T (m + 1) s)) + (tog T n k (s_next (aft T (m + 1) s))))] [.long (stg s), .ref b] rfl ?_
      refine w_ca (w_vst rfl rfl rfl (Nat.le_of_ble_eq_true rfl) (Nat.le_of_ble_eq_true rfl) (M_kd S)) (lm_w_dep (d := 0) (by omega) (m_putBack (s := s) S)) ?_
      rintro _ _ ⟨hi3, rfl, rfl, HS3, X3, D3⟩
      have e9 : hi3 = hi := fr_emp (rX_back (lo := 0) (up := 0) X1 fr_rfl X3 (by omega) HS HS3 (by rw [D3, D1]))
      subst e9
      show lm_wp _ 202 75 [.ref b, .int (nI (k + 1)), .int (nI D), .long (stg s), lm_jk, .int ms, .int mk, .int ((val T (awk s) (aft T (m + 1) s)) + (tog T n k (s_next (aft T (m + 1) s))))] [] (hi3, hl, X) _
      refine w_N 2 78 [.ref b, .int (nI (k + 1)), .int (nI D), .long (stg s), lm_jk, .int ms, .int mk, .int ((val T (awk s) (aft T (m + 1) s)) + (tog T n k (s_next (aft T (m + 1) s))))] [.int (-1), .int mk] rfl ?_
      refine w_icmp_eq_f (t := 88) rfl rfl hne ?_
      refine w_N 2 85 [.ref b, .int (nI (k + 1)), .int (nI D), .long (stg s), lm_jk, .int ms, .int mk, .int ((val T (awk s) (aft T (m + 1) s)) + (tog T n k (s_next (aft T (m + 1) s))))] [.int ms, .int ((val T (awk s) (aft T (m + 1) s)) + (tog T n k (s_next (aft T (m + 1) s))))] rfl ?_
      refine w_icmp_le (t := 93) rfl rfl (fun c2 => ?_) (fun c2 => ?_)
      · refine w_N 4 17 [.ref b, .int (nI (k + 1)), .int (nI D), .long (stg s), lm_jk, .int ms, .int (mk + 1), .int ((val T (awk s) (aft T (m + 1) s)) + (tog T n k (s_next (aft T (m + 1) s))))] [] rfl ?_
        have eb : tol T (tog T n k) s (m + 2) = mx (tol T (tog T n k) s (m + 1)) (val T (awk s) (aft T (m + 1) s) + tog T n k (s_next (aft T (m + 1) s))) := if_pos c1
        have em : mx (tol T (tog T n k) s (m + 1)) (val T (awk s) (aft T (m + 1) s) + tog T n k (s_next (aft T (m + 1) s))) = tol T (tog T n k) s (m + 1) := if_neg (by rw [← e1]; exact c2)
        exact ih (m + 1) _ _ _ (by omega) (by rw [eb, em]; exact e1) (by rw [e4, nI_succ])
      · refine w_N 5 17 [.ref b, .int (nI (k + 1)), .int (nI D), .long (stg s), lm_jk, .int ((val T (awk s) (aft T (m + 1) s)) + (tog T n k (s_next (aft T (m + 1) s)))), .int (mk + 1), .int ((val T (awk s) (aft T (m + 1) s)) + (tog T n k (s_next (aft T (m + 1) s))))] [] rfl ?_
        have eb : tol T (tog T n k) s (m + 2) = mx (tol T (tog T n k) s (m + 1)) (val T (awk s) (aft T (m + 1) s) + tog T n k (s_next (aft T (m + 1) s))) := if_pos c1
        have em : mx (tol T (tog T n k) s (m + 1)) (val T (awk s) (aft T (m + 1) s) + tog T n k (s_next (aft T (m + 1) s))) = val T (awk s) (aft T (m + 1) s) + tog T n k (s_next (aft T (m + 1) s)) := if_pos (by rw [← e1]; exact c2)
        exact ih (m + 1) _ _ _ (by omega) (by rw [eb, em]) (by rw [e4, nI_succ])
theorem MT_0 {d : Nat} : MT d 0 := by
  intro hi hl X b n D T s x y S H hT HS hw hD hx hy
  subst hx hy
  refine lm_c_of (lm_w_in (Nat.le_of_ble_eq_true rfl) ?_)
  show lm_wp d 202 0 [.ref b, .int 0, .int (nI D), lm_jk, lm_jk, lm_jk, lm_jk, lm_jk] [] (hi, hl, X) _
  refine w_N 1 1 [.ref b, .int 0, .int (nI D), lm_jk, lm_jk, lm_jk, lm_jk, lm_jk] [.int 0] rfl ?_
  refine w_if_ne_f (t := 6) rfl rfl (by decide) ?_
  refine w_N 1 5 [.ref b, .int 0, .int (nI D), lm_jk, lm_jk, lm_jk, lm_jk, lm_jk] [.int 0] rfl ?_
  refine w_ri rfl rfl ?_
  rfl
theorem MT_of {d k : Nat} (hk : k < 4) (hB : MT (d + 1) k) : MT (d + 2) (k + 1) := by
  intro hi hl X b n D T s x y S H hT HS hw hD hx hy
  subst hx hy
  have hn10 := rTle H
  have hk0 : ¬ nI (k + 1) = 0 := fun z => by have := (nI_inj (a := k + 1) (b := 0) (by omega) (by omega)).mp z; omega
  refine lm_c_of (lm_w_in (Nat.le_of_ble_eq_true rfl) ?_)
  show lm_wp (d + 2) 202 0 [.ref b, .int (nI (k + 1)), .int (nI D), lm_jk, lm_jk, lm_jk, lm_jk, lm_jk] [] (hi, hl, X) _
  refine w_N 1 1 [.ref b, .int (nI (k + 1)), .int (nI D), lm_jk, lm_jk, lm_jk, lm_jk, lm_jk] [.int (nI (k + 1))] rfl ?_
  refine w_if_ne_t (t := 6) rfl rfl hk0 ?_
  refine w_N 1 7 [.ref b, .int (nI (k + 1)), .int (nI D), lm_jk, lm_jk, lm_jk, lm_jk, lm_jk] [.ref b] rfl ?_
  refine w_cc (w_vst rfl rfl rfl (Nat.le_of_ble_eq_true rfl) (Nat.le_of_ble_eq_true rfl) (M_kd S)) (m_standing S HS) ?_
  show lm_wp _ 202 10 [.ref b, .int (nI (k + 1)), .int (nI D), lm_jk, lm_jk, lm_jk, lm_jk, lm_jk] [.long (stg s)] (hi, hl, X) _
  refine w_N 5 17 [.ref b, .int (nI (k + 1)), .int (nI D), .long (stg s), lm_jk, .int 0, .int (-1), lm_jk] [] rfl ?_
  refine w_N 2 20 [.ref b, .int (nI (k + 1)), .int (nI D), .long (stg s), lm_jk, .int 0, .int (-1), lm_jk] [.ref b, .int (-1)] rfl ?_
  refine w_gi (v := nI n) rfl rfl rfl (M_kd S) (rTn H) ?_
  refine w_icmp_ge_f (t := 103) rfl rfl (aI_lt (i := 0) (by decide) (by omega) |>.mpr (by omega)) ?_
  refine w_N 2 29 [.ref b, .int (nI (k + 1)), .int (nI D), .long (stg s), lm_jk, .int 0, .int (-1), lm_jk] [.int (-1), .int (-1)] rfl ?_
  refine w_icmp_eq_t (t := 44) rfl rfl (by decide) ?_
  refine w_N 2 47 [.ref b, .int (nI (k + 1)), .int (nI D), .long (stg s), lm_jk, .int 0, .int (-1), lm_jk] [.int (-1), .ref b] rfl ?_
  refine w_ca (w_vst rfl rfl rfl (Nat.le_of_ble_eq_true rfl) (Nat.le_of_ble_eq_true rfl) (M_kd S)) (m_doIt (hf := awk s) (i := 0) S H HS hT rfl (Nat.zero_le n) rfl) ?_
  rintro _ _ ⟨hi1, rfl, rfl, HS1, X1, D1⟩
  have H1 := rT_X X1 H
  show lm_wp _ 202 50 [.ref b, .int (nI (k + 1)), .int (nI D), .long (stg s), lm_jk, .int 0, .int (-1), lm_jk] [] (hi1, hl, X) _
  refine w_N 3 53 [.ref b, .int (nI (k + 1)), .int (nI D), .long (stg s), lm_jk, .int 0, .int (-1), lm_jk] [.int 2, .int (nI D), .ref b] rfl ?_
  refine w_rem rfl (by decide) ?_
  rw [hrem hw (by omega)]
  refine w_cc (w_vst rfl rfl rfl (Nat.le_of_ble_eq_true rfl) (Nat.le_of_ble_eq_true rfl) (M_kd S)) (m_valueOfE (d := d) S H1 HS1 rfl (awk_lt s)) ?_
  show lm_wp _ 202 57 [.ref b, .int (nI (k + 1)), .int (nI D), .long (stg s), lm_jk, .int 0, .int (-1), lm_jk] [.int (val T (awk s) (aft T 0 s))] (hi1, hl, X) _
  refine w_N 7 64 [.ref b, .int (nI (k + 1)), .int (nI D), .long (stg s), lm_jk, .int 0, .int (-1), lm_jk] [.int ((nI D) + 1), .int ((nI (k + 1)) - 1), .ref b, .int (val T (awk s) (aft T 0 s))] rfl ?_
  refine w_cc (w_vst rfl rfl rfl (Nat.le_of_ble_eq_true rfl) (Nat.le_of_ble_eq_true rfl) (M_kd S)) (hB _ _ _ _ _ (D + 1) _ (s_next (aft T 0 s)) _ _ S H1 hT (rS_next HS1) (by rw [awk_next, (aft_ok (hf := awk s) hT (Nat.zero_le n) rfl).2]; omega) (by omega) (nI_prd k) (nI_succ D).symm) ?_
  show lm_wp _ 202 67 [.ref b, .int (nI (k + 1)), .int (nI D), .long (stg s), lm_jk, .int 0, .int (-1), lm_jk] [.int (tog T n k (s_next (aft T 0 s))), .int (val T (awk s) (aft T 0 s))] (hi1, hl, X) _
  refine w_N 4 72 [.ref b, .int (nI (k + 1)), .int (nI D), .long (stg s), lm_jk, .int 0, .int (-1), .int ((val T (awk s) (aft T 0 s)) + (tog T n k (s_next (aft T 0 s))))] [.long (stg s), .ref b] rfl ?_
  refine w_ca (w_vst rfl rfl rfl (Nat.le_of_ble_eq_true rfl) (Nat.le_of_ble_eq_true rfl) (M_kd S)) (lm_w_dep (d := 0) (by omega) (m_putBack (s := s) S)) ?_
  rintro _ _ ⟨hi3, rfl, rfl, HS3, X3, D3⟩
  have e9 : hi3 = hi := fr_emp (rX_back (lo := 0) (up := 0) X1 fr_rfl X3 (by omega) HS HS3 (by rw [D3, D1]))
  subst e9
  show lm_wp _ 202 75 [.ref b, .int (nI (k + 1)), .int (nI D), .long (stg s), lm_jk, .int 0, .int (-1), .int ((val T (awk s) (aft T 0 s)) + (tog T n k (s_next (aft T 0 s))))] [] (hi3, hl, X) _
  refine w_N 2 78 [.ref b, .int (nI (k + 1)), .int (nI D), .long (stg s), lm_jk, .int 0, .int (-1), .int ((val T (awk s) (aft T 0 s)) + (tog T n k (s_next (aft T 0 s))))] [.int (-1), .int (-1)] rfl ?_
  refine w_icmp_eq_t (t := 88) rfl rfl (by decide) ?_
  refine w_N 5 17 [.ref b, .int (nI (k + 1)), .int (nI D), .long (stg s), lm_jk, .int ((val T (awk s) (aft T 0 s)) + (tog T n k (s_next (aft T 0 s)))), .int 0, .int ((val T (awk s) (aft T 0 s)) + (tog T n k (s_next (aft T 0 s))))] [] rfl ?_
  refine m_mt1 S hT H HS hw hD hk hB (fun c x7 => ?_) n 0 _ _ _ (by omega) (tol_1 hT (by omega)).symm rfl
  refine w_N 1 105 _ [.int (tog T n (k + 1) s)] rfl ?_
  exact w_ri rfl rfl rfl
theorem MT_all : ∀ k d, k < 5 → MT (d + k + 1) k := by
  intro k
  induction k with
  | zero => intro d _; exact MT_0
  | succ k ih => intro d h; exact MT_of (d := d + k) (by omega) (ih d (by omega))
theorem m_mostTogether {d : Nat} {hi : Nat → Nat → Int32} {hl : Nat → Nat → Int64} {X : lm_X} {b n D : Nat} {T : lm_T} {s : Int32} (S : sh_M X b) (H : rT hi b T n) (HS : rS hi b s) (hT : okT T n) {k : Nat} {x y : Int32} (hw : awk s = D % 2) (hD : D + 4 < 2147483648) (h4 : k ≤ 4) (hx : x = nI k) (hy : y = nI D) : lm_c (d + 5) 202 [.ref b, .int x, .int y] (hi, hl, X) (some (.int (tog T n k s)), (hi, hl, X)) :=
  lm_c_dep (d := d + k + 1) (by omega) (MT_all k d (by omega) _ _ _ _ _ _ _ _ _ _ S H hT HS hw (by omega) hx hy)
theorem next_and {s : Int32} {x : Nat} (hx : x < 256) : s_next s &&& nI x = s &&& nI x := by
  apply bt_ext
  intro i hi
  rw [bt_and, bt_and, bt_next hi]
  by_cases h8 : i < 8
  · rw [show decide (28 = i) = false from decide_eq_false (by omega), Bool.xor_false]
  · have : bt (nI x) i = false := by
      rw [bt_nI hi]
      exact Nat.testBit_lt_two_pow (Nat.lt_of_lt_of_le hx (Nat.pow_le_pow_right (n := 2) (by decide) (show 8 ≤ i by omega)))
    simp [this]
theorem cst_now {T : lm_T} {n x : Nat} {idle : Int32} (hx : x < 256) : ∀ k s, s &&& nI x = nI x → cst T n (nI x) idle k s = true := by
  intro k
  induction k with
  | zero => intro s h; show decide (s &&& nI x = nI x) = true; exact decide_eq_true h
  | succ k ih =>
    intro s h
    show csl T (cst T n (nI x) idle k) s 0 (_ + 1) = true
    exact if_pos ⟨rfl, ih _ (by rw [next_and hx]; exact h)⟩
def DN (d k : Nat) : Prop := ∀ (hi : Nat → Nat → Int32) (hl : Nat → Nat → Int64) (X : lm_X) (b n D st hf : Nat) (al : Bool) (T : lm_T) (s idle x y : Int32), sh_M X b → rT hi b T n → okT T n → rS hi b s → awk s = D % 2 → D + k < 2147483648 → st < 256 → (∀ h, h < 2 → (nI h = idle ↔ (al = true ∧ ¬ nI h = nI hf))) → x = nI k → y = nI D → lm_c d 205 [.ref b, .int (nI st), .int x, .int y, .int (bz al), .int (nI hf)] (hi, hl, X) (some (.int (bz (cst T n (nI st) idle k s))), (hi, hl, X))
theorem m_dn1 {d : Nat} {hi : Nat → Nat → Int32} {hl : Nat → Nat → Int64} {X : lm_X} {b n D k st hf nn : Nat} {al il : Bool} {T : lm_T} {s idle : Int32} (S : sh_M X b) (hT : okT T n) (H : rT hi b T n) (HS : rS hi b s) (hw : awk s = D % 2) (hD : D + (k + 1) < 2147483648) (hk : k < 1000) (hst : st < 256) (hid : ∀ h, h < 2 → (nI h = idle ↔ (al = true ∧ ¬ nI h = nI hf))) (hn1 : il = true → nn = 0) (hn2 : il = false → nn = n) (hB : DN (d + 1) k) {P : Option Value → lm_H → Prop} : ∀ (j m : Nat) (mk : Int32) (x10 : Value), m + j = nn → (mk = nI m) → (∀ v h1, (v, h1) = (some (.int (bz (csl T (cst T n (nI st) idle k) s (m + 1) j))), (hi, hl, X)) → P v h1) → lm_wp (d + 2) 205 48 [.ref b, .int (nI st), .int (nI (k + 1)), .int (nI D), .int (bz al), .int (nI hf), .long (stg s), lm_jk, .int (bz il), .int mk, x10] [] (hi, hl, X) P := by
  intro j
  induction j with
  | zero =>
    intro m mk x10 hm e4 hP
    have hn10 := rTle H
    refine w_N 2 52 [.ref b, .int (nI st), .int (nI (k + 1)), .int (nI D), .int (bz al), .int (nI hf), .long (stg s), lm_jk, .int (bz il), .int mk, x10] [.int (bz il), .int mk] rfl ?_
    refine w_zeq (t := 59) rfl rfl (fun c1 => ?_) (fun c1 => ?_)
    · refine w_N 1 60 [.ref b, .int (nI st), .int (nI (k + 1)), .int (nI D), .int (bz al), .int (nI hf), .long (stg s), lm_jk, .int (bz il), .int mk, x10] [.ref b, .int mk] rfl ?_
      refine w_gi (v := nI n) rfl rfl rfl (M_kd S) (rTn H) ?_
      refine w_icmp_ge_t (t := 126) rfl rfl (by have q9 := hn2 c1; rw [e4, show m = n by omega]; exact fun z => Int32.lt_irrefl z) ?_
      refine w_N 1 127 [.ref b, .int (nI st), .int (nI (k + 1)), .int (nI D), .int (bz al), .int (nI hf), .long (stg s), lm_jk, .int (bz il), .int mk, x10] [.int 0] rfl ?_
      refine w_rz rfl rfl (by decide) ?_
      exact hP _ _ rfl
    · refine w_N 2 63 [.ref b, .int (nI st), .int (nI (k + 1)), .int (nI D), .int (bz al), .int (nI hf), .long (stg s), lm_jk, .int (bz il), .int mk, x10] [.int 0, .int mk] rfl ?_
      refine w_icmp_ge_t (t := 126) rfl rfl (by have q9 := hn1 c1; rw [e4, show m = 0 by omega]; exact fun z => Int32.lt_irrefl z) ?_
      refine w_N 1 127 [.ref b, .int (nI st), .int (nI (k + 1)), .int (nI D), .int (bz al), .int (nI hf), .long (stg s), lm_jk, .int (bz il), .int mk, x10] [.int 0] rfl ?_
      refine w_rz rfl rfl (by decide) ?_
      exact hP _ _ rfl
  | succ j ih =>
    intro m mk x10 hm e4 hP
    have hn10 := rTle H
    have hnn : nn ≤ n := by
      cases hil : il
      · rw [hn2 hil]; exact Nat.le_refl _
      · rw [hn1 hil]; exact Nat.zero_le _
    have hne : ¬ mk = -1 := fun z => by rw [e4] at z; have := (aI_none (i := m + 1) (by omega)).mp z; omega
    refine w_N 2 52 [.ref b, .int (nI st), .int (nI (k + 1)), .int (nI D), .int (bz al), .int (nI hf), .long (stg s), lm_jk, .int (bz il), .int mk, x10] [.int (bz il), .int mk] rfl ?_
    refine w_zeq (t := 59) rfl rfl (fun c1 => ?_) (fun c1 => ?_)
    · refine w_N 1 60 [.ref b, .int (nI st), .int (nI (k + 1)), .int (nI D), .int (bz al), .int (nI hf), .long (stg s), lm_jk, .int (bz il), .int mk, x10] [.ref b, .int mk] rfl ?_
      refine w_gi (v := nI n) rfl rfl rfl (M_kd S) (rTn H) ?_
      refine w_icmp_ge_f (t := 126) rfl rfl (by have q9 := hn2 c1; rw [e4]; exact nI_lt (b := n) (by omega) (by omega)) ?_
      refine w_N 2 69 [.ref b, .int (nI st), .int (nI (k + 1)), .int (nI D), .int (bz al), .int (nI hf), .long (stg s), lm_jk, .int (bz il), .int mk, x10] [.int (-1), .int mk] rfl ?_
      refine w_icmp_eq_f (t := 84) rfl rfl hne ?_
      refine w_N 4 77 [.ref b, .int (nI st), .int (nI (k + 1)), .int (nI D), .int (bz al), .int (nI hf), .long (stg s), lm_jk, .int (bz il), .int mk, x10] [.int 2, .int (nI D), .int mk, .ref b] rfl ?_
      refine w_rem rfl (by decide) ?_
      rw [hrem hw (by omega)]
      refine w_cc (w_vst rfl rfl rfl (Nat.le_of_ble_eq_true rfl) (Nat.le_of_ble_eq_true rfl) (M_kd S)) (m_canBeE (d := d) S H HS hT e4 rfl (by omega)) ?_
      show lm_wp _ 205 81 [.ref b, .int (nI st), .int (nI (k + 1)), .int (nI D), .int (bz al), .int (nI hf), .long (stg s), lm_jk, .int (bz il), .int mk, x10] [.int (bz (alw T (m + 1) (awk s) s))] (hi, hl, X) _
      refine w_zeq (t := 120) rfl rfl (fun c2 => ?_) (fun c2 => ?_)
      · refine w_N 2 48 [.ref b, .int (nI st), .int (nI (k + 1)), .int (nI D), .int (bz al), .int (nI hf), .long (stg s), lm_jk, .int (bz il), .int (mk + 1), x10] [] rfl ?_
        have eb : csl T (cst T n (nI st) idle k) s (m + 1) (j + 1) = csl T (cst T n (nI st) idle k) s (m + 2) j := if_neg (fun z => by rw [c2] at z; exact absurd z.1 (by decide))
        rw [eb] at hP
        exact ih (m + 1) _ _ (by omega) (by rw [e4, nI_succ]) hP
      · refine w_N 2 87 [.ref b, .int (nI st), .int (nI (k + 1)), .int (nI D), .int (bz al), .int (nI hf), .long (stg s), lm_jk, .int (bz il), .int mk, x10] [.int mk, .ref b] rfl ?_
        refine w_ca (w_vst rfl rfl rfl (Nat.le_of_ble_eq_true rfl) (Nat.le_of_ble_eq_true rfl) (M_kd S)) (m_doIt (hf := awk s) (i := m + 1) S H HS hT e4 (show m + 1 ≤ n by omega) c2) ?_
        rintro _ _ ⟨hi1, rfl, rfl, HS1, X1, D1⟩
        have H1 := rT_X X1 H
        show lm_wp _ 205 90 [.ref b, .int (nI st), .int (nI (k + 1)), .int (nI D), .int (bz al), .int (nI hf), .long (stg s), lm_jk, .int (bz il), .int mk, x10] [] (hi1, hl, X) _
        refine w_N 10 102 [.ref b, .int (nI st), .int (nI (k + 1)), .int (nI D), .int (bz al), .int (nI hf), .long (stg s), lm_jk, .int (bz il), .int mk, x10] [.int (nI hf), .int (bz al), .int ((nI D) + 1), .int ((nI (k + 1)) - 1), .int (nI st), .ref b] rfl ?_
        refine w_cc (w_vst rfl rfl rfl (Nat.le_of_ble_eq_true rfl) (Nat.le_of_ble_eq_true rfl) (M_kd S)) (hB _ _ _ _ _ (D + 1) _ _ _ _ (s_next (aft T (m + 1) s)) idle _ _ S H1 hT (rS_next HS1) (by rw [awk_next, (aft_ok (hf := awk s) hT (show m + 1 ≤ n by omega) c2).2]; omega) (by omega) hst hid (nI_prd k) (nI_succ D).symm) ?_
        show lm_wp _ 205 105 [.ref b, .int (nI st), .int (nI (k + 1)), .int (nI D), .int (bz al), .int (nI hf), .long (stg s), lm_jk, .int (bz il), .int mk, x10] [.int (bz (cst T n (nI st) idle k (s_next (aft T (m + 1) s))))] (hi1, hl, X) _
        refine w_N 3 110 [.ref b, .int (nI st), .int (nI (k + 1)), .int (nI D), .int (bz al), .int (nI hf), .long (stg s), lm_jk, .int (bz il), .int mk, .int (bz (cst T n (nI st) idle k (s_next (aft T (m + 1) s))))] [.long (stg s), .ref b] rfl ?_
        refine w_ca (w_vst rfl rfl rfl (Nat.le_of_ble_eq_true rfl) (Nat.le_of_ble_eq_true rfl) (M_kd S)) (lm_w_dep (d := 0) (by omega) (m_putBack (s := s) S)) ?_
        rintro _ _ ⟨hi3, rfl, rfl, HS3, X3, D3⟩
        have e9 : hi3 = hi := fr_emp (rX_back (lo := 0) (up := 0) X1 fr_rfl X3 (by omega) HS HS3 (by rw [D3, D1]))
        subst e9
        show lm_wp _ 205 113 [.ref b, .int (nI st), .int (nI (k + 1)), .int (nI D), .int (bz al), .int (nI hf), .long (stg s), lm_jk, .int (bz il), .int mk, .int (bz (cst T n (nI st) idle k (s_next (aft T (m + 1) s))))] [] (hi3, hl, X) _
        refine w_N 1 115 [.ref b, .int (nI st), .int (nI (k + 1)), .int (nI D), .int (bz al), .int (nI hf), .long (stg s), lm_jk, .int (bz il), .int mk, .int (bz (cst T n (nI st) idle k (s_next (aft T (m + 1) s))))] [.int (bz (cst T n (nI st) idle k (s_next (aft T (m + 1) s))))] rfl ?_
        refine w_zeq (t := 120) rfl rfl (fun c3 => ?_) (fun c3 => ?_)
        · refine w_N 2 48 [.ref b, .int (nI st), .int (nI (k + 1)), .int (nI D), .int (bz al), .int (nI hf), .long (stg s), lm_jk, .int (bz il), .int (mk + 1), .int (bz (cst T n (nI st) idle k (s_next (aft T (m + 1) s))))] [] rfl ?_
          have eb : csl T (cst T n (nI st) idle k) s (m + 1) (j + 1) = csl T (cst T n (nI st) idle k) s (m + 2) j := if_neg (fun z => by rw [c3] at z; exact absurd z.2 (by decide))
          rw [eb] at hP
          exact ih (m + 1) _ _ (by omega) (by rw [e4, nI_succ]) hP
        · refine w_N 1 119 [.ref b, .int (nI st), .int (nI (k + 1)), .int (nI D), .int (bz al), .int (nI hf), .long (stg s), lm_jk, .int (bz il), .int mk, .int (bz (cst T n (nI st) idle k (s_next (aft T (m + 1) s))))] [.int 1] rfl ?_
          refine w_rz rfl rfl (by decide) ?_
          exact hP _ _ (by rw [show csl T (cst T n (nI st) idle k) s (m + 1) (j + 1) = true from if_pos ⟨c2, c3⟩]; rfl)
    · refine w_N 2 63 [.ref b, .int (nI st), .int (nI (k + 1)), .int (nI D), .int (bz al), .int (nI hf), .long (stg s), lm_jk, .int (bz il), .int mk, x10] [.int 0, .int mk] rfl ?_
      refine w_icmp_ge_f (t := 126) rfl rfl (by have q9 := hn1 c1; rw [e4]; exact nI_lt (b := 0) (by omega) (by omega)) ?_
      refine w_N 2 69 [.ref b, .int (nI st), .int (nI (k + 1)), .int (nI D), .int (bz al), .int (nI hf), .long (stg s), lm_jk, .int (bz il), .int mk, x10] [.int (-1), .int mk] rfl ?_
      refine w_icmp_eq_f (t := 84) rfl rfl hne ?_
      refine w_N 4 77 [.ref b, .int (nI st), .int (nI (k + 1)), .int (nI D), .int (bz al), .int (nI hf), .long (stg s), lm_jk, .int (bz il), .int mk, x10] [.int 2, .int (nI D), .int mk, .ref b] rfl ?_
      refine w_rem rfl (by decide) ?_
      rw [hrem hw (by omega)]
      refine w_cc (w_vst rfl rfl rfl (Nat.le_of_ble_eq_true rfl) (Nat.le_of_ble_eq_true rfl) (M_kd S)) (m_canBeE (d := d) S H HS hT e4 rfl (by omega)) ?_
      show lm_wp _ 205 81 [.ref b, .int (nI st), .int (nI (k + 1)), .int (nI D), .int (bz al), .int (nI hf), .long (stg s), lm_jk, .int (bz il), .int mk, x10] [.int (bz (alw T (m + 1) (awk s) s))] (hi, hl, X) _
      refine w_zeq (t := 120) rfl rfl (fun c4 => ?_) (fun c4 => ?_)
      · refine w_N 2 48 [.ref b, .int (nI st), .int (nI (k + 1)), .int (nI D), .int (bz al), .int (nI hf), .long (stg s), lm_jk, .int (bz il), .int (mk + 1), x10] [] rfl ?_
        have eb : csl T (cst T n (nI st) idle k) s (m + 1) (j + 1) = csl T (cst T n (nI st) idle k) s (m + 2) j := if_neg (fun z => by rw [c4] at z; exact absurd z.1 (by decide))
        rw [eb] at hP
        exact ih (m + 1) _ _ (by omega) (by rw [e4, nI_succ]) hP
      · refine w_N 2 87 [.ref b, .int (nI st), .int (nI (k + 1)), .int (nI D), .int (bz al), .int (nI hf), .long (stg s), lm_jk, .int (bz il), .int mk, x10] [.int mk, .ref b] rfl ?_
        refine w_ca (w_vst rfl rfl rfl (Nat.le_of_ble_eq_true rfl) (Nat.le_of_ble_eq_true rfl) (M_kd S)) (m_doIt (hf := awk s) (i := m + 1) S H HS hT e4 (show m + 1 ≤ n by omega) c4) ?_
        rintro _ _ ⟨hi1, rfl, rfl, HS1, X1, D1⟩
        have H1 := rT_X X1 H
        show lm_wp _ 205 90 [.ref b, .int (nI st), .int (nI (k + 1)), .int (nI D), .int (bz al), .int (nI hf), .long (stg s), lm_jk, .int (bz il), .int mk, x10] [] (hi1, hl, X) _
        refine w_N 10 102 [.ref b, .int (nI st), .int (nI (k + 1)), .int (nI D), .int (bz al), .int (nI hf), .long (stg s), lm_jk, .int (bz il), .int mk, x10] [.int (nI hf), .int (bz al), .int ((nI D) + 1), .int ((nI (k + 1)) - 1), .int (nI st), .ref b] rfl ?_
        refine w_cc (w_vst rfl rfl rfl (Nat.le_of_ble_eq_true rfl) (Nat.le_of_ble_eq_true rfl) (M_kd S)) (hB _ _ _ _ _ (D + 1) _ _ _ _ (s_next (aft T (m + 1) s)) idle _ _ S H1 hT (rS_next HS1) (by rw [awk_next, (aft_ok (hf := awk s) hT (show m + 1 ≤ n by omega) c4).2]; omega) (by omega) hst hid (nI_prd k) (nI_succ D).symm) ?_
        show lm_wp _ 205 105 [.ref b, .int (nI st), .int (nI (k + 1)), .int (nI D), .int (bz al), .int (nI hf), .long (stg s), lm_jk, .int (bz il), .int mk, x10] [.int (bz (cst T n (nI st) idle k (s_next (aft T (m + 1) s))))] (hi1, hl, X) _
        refine w_N 3 110 [.ref b, .int (nI st), .int (nI (k + 1)), .int (nI D), .int (bz al), .int (nI hf), .long (stg s), lm_jk, .int (bz il), .int mk, .int (bz (cst T n (nI st) idle k (s_next (aft T (m + 1) s))))] [.long (stg s), .ref b] rfl ?_
        refine w_ca (w_vst rfl rfl rfl (Nat.le_of_ble_eq_true rfl) (Nat.le_of_ble_eq_true rfl) (M_kd S)) (lm_w_dep (d := 0) (by omega) (m_putBack (s := s) S)) ?_
        rintro _ _ ⟨hi3, rfl, rfl, HS3, X3, D3⟩
        have e9 : hi3 = hi := fr_emp (rX_back (lo := 0) (up := 0) X1 fr_rfl X3 (by omega) HS HS3 (by rw [D3, D1]))
        subst e9
        show lm_wp _ 205 113 [.ref b, .int (nI st), .int (nI (k + 1)), .int (nI D), .int (bz al), .int (nI hf), .long (stg s), lm_jk, .int (bz il), .int mk, .int (bz (cst T n (nI st) idle k (s_next (aft T (m + 1) s))))] [] (hi3, hl, X) _
        refine w_N 1 115 [.ref b, .int (nI st), .int (nI (k + 1)), .int (nI D), .int (bz al), .int (nI hf), .long (stg s), lm_jk, .int (bz il), .int mk, .int (bz (cst T n (nI st) idle k (s_next (aft T (m + 1) s))))] [.int (bz (cst T n (nI st) idle k (s_next (aft T (m + 1) s))))] rfl ?_
        refine w_zeq (t := 120) rfl rfl (fun c5 => ?_) (fun c5 => ?_)
        · refine w_N 2 48 [.ref b, .int (nI st), .int (nI (k + 1)), .int (nI D), .int (bz al), .int (nI hf), .long (stg s), lm_jk, .int (bz il), .int (mk + 1), .int (bz (cst T n (nI st) idle k (s_next (aft T (m + 1) s))))] [] rfl ?_
          have eb : csl T (cst T n (nI st) idle k) s (m + 1) (j + 1) = csl T (cst T n (nI st) idle k) s (m + 2) j := if_neg (fun z => by rw [c5] at z; exact absurd z.2 (by decide))
          rw [eb] at hP
          exact ih (m + 1) _ _ (by omega) (by rw [e4, nI_succ]) hP
        · refine w_N 1 119 [.ref b, .int (nI st), .int (nI (k + 1)), .int (nI D), .int (bz al), .int (nI hf), .long (stg s), lm_jk, .int (bz il), .int mk, .int (bz (cst T n (nI st) idle k (s_next (aft T (m + 1) s))))] [.int 1] rfl ?_
          refine w_rz rfl rfl (by decide) ?_
          exact hP _ _ (by rw [show csl T (cst T n (nI st) idle k) s (m + 1) (j + 1) = true from if_pos ⟨c4, c5⟩]; rfl)
theorem DN_0 {d : Nat} : DN d 0 := by
  intro hi hl X b n D st hf al T s idle x y S H hT HS hw hD hst hid hx hy
  subst hx hy
  have hnd : (nI st &&& (s_marks s ^^^ (-1)) = 0) ↔ (s &&& nI st = nI st) := needs_eq hst
  refine lm_c_of (lm_w_in (Nat.le_of_ble_eq_true rfl) ?_)
  show lm_wp d 205 0 [.ref b, .int (nI st), .int 0, .int (nI D), .int (bz al), .int (nI hf), lm_jk, lm_jk, lm_jk, lm_jk, lm_jk] [] (hi, hl, X) _
  refine w_N 2 2 [.ref b, .int (nI st), .int 0, .int (nI D), .int (bz al), .int (nI hf), lm_jk, lm_jk, lm_jk, lm_jk, lm_jk] [.ref b, .int (nI st)] rfl ?_
  refine w_gi (v := s_marks s) rfl rfl rfl (M_kd S) (HS.1) ?_
  refine w_N 3 8 [.ref b, .int (nI st), .int 0, .int (nI D), .int (bz al), .int (nI hf), lm_jk, lm_jk, lm_jk, lm_jk, lm_jk] [.int ((nI st) &&& ((s_marks s) ^^^ (-1)))] rfl ?_
  refine w_if_ne (t := 13) rfl rfl (fun c1 => ?_) (fun c1 => ?_)
  · refine w_N 1 14 [.ref b, .int (nI st), .int 0, .int (nI D), .int (bz al), .int (nI hf), lm_jk, lm_jk, lm_jk, lm_jk, lm_jk] [.int 0] rfl ?_
    refine w_if_ne_f (t := 19) rfl rfl (by decide) ?_
    refine w_N 1 18 [.ref b, .int (nI st), .int 0, .int (nI D), .int (bz al), .int (nI hf), lm_jk, lm_jk, lm_jk, lm_jk, lm_jk] [.int 0] rfl ?_
    refine w_rz rfl rfl (by decide) ?_
    rw [hnd] at c1
    rw [show cst T n (nI st) idle 0 s = decide (s &&& nI st = nI st) from rfl, decide_eq_false c1]; rfl
  · refine w_N 1 12 [.ref b, .int (nI st), .int 0, .int (nI D), .int (bz al), .int (nI hf), lm_jk, lm_jk, lm_jk, lm_jk, lm_jk] [.int 1] rfl ?_
    refine w_rz rfl rfl (by decide) ?_
    rw [hnd] at c1
    rw [show cst T n (nI st) idle 0 s = decide (s &&& nI st = nI st) from rfl, decide_eq_true c1]; rfl
theorem DN_of {d k : Nat} (hk : k < 1000) (hB : DN (d + 1) k) : DN (d + 2) (k + 1) := by
  intro hi hl X b n D st hf al T s idle x y S H hT HS hw hD hst hid hx hy
  subst hx hy
  have hn10 := rTle H
  have hnd : (nI st &&& (s_marks s ^^^ (-1)) = 0) ↔ (s &&& nI st = nI st) := needs_eq hst
  have hk0 : ¬ nI (k + 1) = 0 := fun z => by have := (nI_inj (a := k + 1) (b := 0) (by omega) (by omega)).mp z; omega
  have hi2 := hid (awk s) (awk_lt s)
  refine lm_c_of (lm_w_in (Nat.le_of_ble_eq_true rfl) ?_)
  show lm_wp (d + 2) 205 0 [.ref b, .int (nI st), .int (nI (k + 1)), .int (nI D), .int (bz al), .int (nI hf), lm_jk, lm_jk, lm_jk, lm_jk, lm_jk] [] (hi, hl, X) _
  refine w_N 2 2 [.ref b, .int (nI st), .int (nI (k + 1)), .int (nI D), .int (bz al), .int (nI hf), lm_jk, lm_jk, lm_jk, lm_jk, lm_jk] [.ref b, .int (nI st)] rfl ?_
  refine w_gi (v := s_marks s) rfl rfl rfl (M_kd S) (HS.1) ?_
  refine w_N 3 8 [.ref b, .int (nI st), .int (nI (k + 1)), .int (nI D), .int (bz al), .int (nI hf), lm_jk, lm_jk, lm_jk, lm_jk, lm_jk] [.int ((nI st) &&& ((s_marks s) ^^^ (-1)))] rfl ?_
  refine w_if_ne (t := 13) rfl rfl (fun c1 => ?_) (fun c1 => ?_)
  · refine w_N 1 14 [.ref b, .int (nI st), .int (nI (k + 1)), .int (nI D), .int (bz al), .int (nI hf), lm_jk, lm_jk, lm_jk, lm_jk, lm_jk] [.int (nI (k + 1))] rfl ?_
    refine w_if_ne_t (t := 19) rfl rfl hk0 ?_
    refine w_N 1 20 [.ref b, .int (nI st), .int (nI (k + 1)), .int (nI D), .int (bz al), .int (nI hf), lm_jk, lm_jk, lm_jk, lm_jk, lm_jk] [.ref b] rfl ?_
    refine w_cc (w_vst rfl rfl rfl (Nat.le_of_ble_eq_true rfl) (Nat.le_of_ble_eq_true rfl) (M_kd S)) (m_standing S HS) ?_
    show lm_wp _ 205 23 [.ref b, .int (nI st), .int (nI (k + 1)), .int (nI D), .int (bz al), .int (nI hf), lm_jk, lm_jk, lm_jk, lm_jk, lm_jk] [.long (stg s)] (hi, hl, X) _
    refine w_N 2 27 [.ref b, .int (nI st), .int (nI (k + 1)), .int (nI D), .int (bz al), .int (nI hf), .long (stg s), lm_jk, lm_jk, lm_jk, lm_jk] [.int (bz al)] rfl ?_
    refine w_zeq (t := 42) rfl rfl (fun c2 => ?_) (fun c2 => ?_)
    · refine w_N 4 48 [.ref b, .int (nI st), .int (nI (k + 1)), .int (nI D), .int (bz al), .int (nI hf), .long (stg s), lm_jk, .int 0, .int (-1), lm_jk] [] rfl ?_
      have ec : cst T n (nI st) idle (k + 1) s = csl T (cst T n (nI st) idle k) s 0 (n + 1) := by
        show csl T (cst T n (nI st) idle k) s 0 ((if nI (awk s) = idle then 0 else n) + 1) = _
        rw [if_neg (fun z => by rw [(hi2.mp z).1] at c2; exact absurd c2 (by decide))]
      refine w_N 2 52 [.ref b, .int (nI st), .int (nI (k + 1)), .int (nI D), .int (bz al), .int (nI hf), .long (stg s), lm_jk, .int 0, .int (-1), lm_jk] [.int 0, .int (-1)] rfl ?_
      refine w_if_eq_t (t := 59) rfl rfl (by decide) ?_
      refine w_N 1 60 [.ref b, .int (nI st), .int (nI (k + 1)), .int (nI D), .int (bz al), .int (nI hf), .long (stg s), lm_jk, .int 0, .int (-1), lm_jk] [.ref b, .int (-1)] rfl ?_
      refine w_gi (v := nI n) rfl rfl rfl (M_kd S) (rTn H) ?_
      refine w_icmp_ge_f (t := 126) rfl rfl (aI_lt (i := 0) (by decide) (by omega) |>.mpr (by omega)) ?_
      refine w_N 2 69 [.ref b, .int (nI st), .int (nI (k + 1)), .int (nI D), .int (bz al), .int (nI hf), .long (stg s), lm_jk, .int 0, .int (-1), lm_jk] [.int (-1), .int (-1)] rfl ?_
      refine w_icmp_eq_t (t := 84) rfl rfl (by decide) ?_
      refine w_N 2 87 [.ref b, .int (nI st), .int (nI (k + 1)), .int (nI D), .int (bz al), .int (nI hf), .long (stg s), lm_jk, .int 0, .int (-1), lm_jk] [.int (-1), .ref b] rfl ?_
      refine w_ca (w_vst rfl rfl rfl (Nat.le_of_ble_eq_true rfl) (Nat.le_of_ble_eq_true rfl) (M_kd S)) (m_doIt (hf := awk s) (i := 0) S H HS hT rfl (Nat.zero_le n) rfl) ?_
      rintro _ _ ⟨hi1, rfl, rfl, HS1, X1, D1⟩
      have H1 := rT_X X1 H
      show lm_wp _ 205 90 [.ref b, .int (nI st), .int (nI (k + 1)), .int (nI D), .int (bz al), .int (nI hf), .long (stg s), lm_jk, .int 0, .int (-1), lm_jk] [] (hi1, hl, X) _
      refine w_N 10 102 [.ref b, .int (nI st), .int (nI (k + 1)), .int (nI D), .int (bz al), .int (nI hf), .long (stg s), lm_jk, .int 0, .int (-1), lm_jk] [.int (nI hf), .int (bz al), .int ((nI D) + 1), .int ((nI (k + 1)) - 1), .int (nI st), .ref b] rfl ?_
      refine w_cc (w_vst rfl rfl rfl (Nat.le_of_ble_eq_true rfl) (Nat.le_of_ble_eq_true rfl) (M_kd S)) (hB _ _ _ _ _ (D + 1) _ _ _ _ (s_next (aft T 0 s)) idle _ _ S H1 hT (rS_next HS1) (by rw [awk_next, (aft_ok (hf := awk s) hT (Nat.zero_le n) rfl).2]; omega) (by omega) hst hid (nI_prd k) (nI_succ D).symm) ?_
      show lm_wp _ 205 105 [.ref b, .int (nI st), .int (nI (k + 1)), .int (nI D), .int (bz al), .int (nI hf), .long (stg s), lm_jk, .int 0, .int (-1), lm_jk] [.int (bz (cst T n (nI st) idle k (s_next (aft T 0 s))))] (hi1, hl, X) _
      refine w_N 3 110 [.ref b, .int (nI st), .int (nI (k + 1)), .int (nI D), .int (bz al), .int (nI hf), .long (stg s), lm_jk, .int 0, .int (-1), .int (bz (cst T n (nI st) idle k (s_next (aft T 0 s))))] [.long (stg s), .ref b] rfl ?_
      refine w_ca (w_vst rfl rfl rfl (Nat.le_of_ble_eq_true rfl) (Nat.le_of_ble_eq_true rfl) (M_kd S)) (lm_w_dep (d := 0) (by omega) (m_putBack (s := s) S)) ?_
      rintro _ _ ⟨hi3, rfl, rfl, HS3, X3, D3⟩
      have e9 : hi3 = hi := fr_emp (rX_back (lo := 0) (up := 0) X1 fr_rfl X3 (by omega) HS HS3 (by rw [D3, D1]))
      subst e9
      show lm_wp _ 205 113 [.ref b, .int (nI st), .int (nI (k + 1)), .int (nI D), .int (bz al), .int (nI hf), .long (stg s), lm_jk, .int 0, .int (-1), .int (bz (cst T n (nI st) idle k (s_next (aft T 0 s))))] [] (hi3, hl, X) _
      refine w_N 1 115 [.ref b, .int (nI st), .int (nI (k + 1)), .int (nI D), .int (bz al), .int (nI hf), .long (stg s), lm_jk, .int 0, .int (-1), .int (bz (cst T n (nI st) idle k (s_next (aft T 0 s))))] [.int (bz (cst T n (nI st) idle k (s_next (aft T 0 s))))] rfl ?_
      refine w_zeq (t := 120) rfl rfl (fun c3 => ?_) (fun c3 => ?_)
      · refine w_N 2 48 [.ref b, .int (nI st), .int (nI (k + 1)), .int (nI D), .int (bz al), .int (nI hf), .long (stg s), lm_jk, .int 0, .int 0, .int (bz (cst T n (nI st) idle k (s_next (aft T 0 s))))] [] rfl ?_
        have eb : csl T (cst T n (nI st) idle k) s 0 (n + 1) = csl T (cst T n (nI st) idle k) s 1 n := if_neg (fun z => by rw [c3] at z; exact absurd z.2 (by decide))
        refine m_dn1 (il := false) (nn := n) (k := k) S hT H HS hw hD hk hst hid (fun z => absurd z (by decide)) (fun z => rfl) hB n 0 _ _ (by omega) rfl (fun v h1 q => q.trans ?_)
        rw [ec, eb]
      · refine w_N 1 119 [.ref b, .int (nI st), .int (nI (k + 1)), .int (nI D), .int (bz al), .int (nI hf), .long (stg s), lm_jk, .int 0, .int (-1), .int (bz (cst T n (nI st) idle k (s_next (aft T 0 s))))] [.int 1] rfl ?_
        refine w_rz rfl rfl (by decide) ?_
        rw [ec, show csl T (cst T n (nI st) idle k) s 0 (_ + 1) = true from if_pos ⟨rfl, c3⟩]; rfl
    · refine w_N 2 32 [.ref b, .int (nI st), .int (nI (k + 1)), .int (nI D), .int (bz al), .int (nI hf), .long (stg s), lm_jk, lm_jk, lm_jk, lm_jk] [.int 2, .int (nI D)] rfl ?_
      refine w_rem rfl (by decide) ?_
      rw [hrem hw (by omega)]
      refine w_N 1 35 [.ref b, .int (nI st), .int (nI (k + 1)), .int (nI D), .int (bz al), .int (nI hf), .long (stg s), lm_jk, lm_jk, lm_jk, lm_jk] [.int (nI hf), .int (nI (awk s))] rfl ?_
      refine w_icmp_eq (t := 42) rfl rfl (fun c4 => ?_) (fun c4 => ?_)
      · refine w_N 4 48 [.ref b, .int (nI st), .int (nI (k + 1)), .int (nI D), .int (bz al), .int (nI hf), .long (stg s), lm_jk, .int 0, .int (-1), lm_jk] [] rfl ?_
        have ec : cst T n (nI st) idle (k + 1) s = csl T (cst T n (nI st) idle k) s 0 (n + 1) := by
          show csl T (cst T n (nI st) idle k) s 0 ((if nI (awk s) = idle then 0 else n) + 1) = _
          rw [if_neg (fun z => (hi2.mp z).2 c4)]
        refine w_N 2 52 [.ref b, .int (nI st), .int (nI (k + 1)), .int (nI D), .int (bz al), .int (nI hf), .long (stg s), lm_jk, .int 0, .int (-1), lm_jk] [.int 0, .int (-1)] rfl ?_
        refine w_if_eq_t (t := 59) rfl rfl (by decide) ?_
        refine w_N 1 60 [.ref b, .int (nI st), .int (nI (k + 1)), .int (nI D), .int (bz al), .int (nI hf), .long (stg s), lm_jk, .int 0, .int (-1), lm_jk] [.ref b, .int (-1)] rfl ?_
        refine w_gi (v := nI n) rfl rfl rfl (M_kd S) (rTn H) ?_
        refine w_icmp_ge_f (t := 126) rfl rfl (aI_lt (i := 0) (by decide) (by omega) |>.mpr (by omega)) ?_
        refine w_N 2 69 [.ref b, .int (nI st), .int (nI (k + 1)), .int (nI D), .int (bz al), .int (nI hf), .long (stg s), lm_jk, .int 0, .int (-1), lm_jk] [.int (-1), .int (-1)] rfl ?_
        refine w_icmp_eq_t (t := 84) rfl rfl (by decide) ?_
        refine w_N 2 87 [.ref b, .int (nI st), .int (nI (k + 1)), .int (nI D), .int (bz al), .int (nI hf), .long (stg s), lm_jk, .int 0, .int (-1), lm_jk] [.int (-1), .ref b] rfl ?_
        refine w_ca (w_vst rfl rfl rfl (Nat.le_of_ble_eq_true rfl) (Nat.le_of_ble_eq_true rfl) (M_kd S)) (m_doIt (hf := awk s) (i := 0) S H HS hT rfl (Nat.zero_le n) rfl) ?_
        rintro _ _ ⟨hi1, rfl, rfl, HS1, X1, D1⟩
        have H1 := rT_X X1 H
        show lm_wp _ 205 90 [.ref b, .int (nI st), .int (nI (k + 1)), .int (nI D), .int (bz al), .int (nI hf), .long (stg s), lm_jk, .int 0, .int (-1), lm_jk] [] (hi1, hl, X) _
        refine w_N 10 102 [.ref b, .int (nI st), .int (nI (k + 1)), .int (nI D), .int (bz al), .int (nI hf), .long (stg s), lm_jk, .int 0, .int (-1), lm_jk] [.int (nI hf), .int (bz al), .int ((nI D) + 1), .int ((nI (k + 1)) - 1), .int (nI st), .ref b] rfl ?_
        refine w_cc (w_vst rfl rfl rfl (Nat.le_of_ble_eq_true rfl) (Nat.le_of_ble_eq_true rfl) (M_kd S)) (hB _ _ _ _ _ (D + 1) _ _ _ _ (s_next (aft T 0 s)) idle _ _ S H1 hT (rS_next HS1) (by rw [awk_next, (aft_ok (hf := awk s) hT (Nat.zero_le n) rfl).2]; omega) (by omega) hst hid (nI_prd k) (nI_succ D).symm) ?_
        show lm_wp _ 205 105 [.ref b, .int (nI st), .int (nI (k + 1)), .int (nI D), .int (bz al), .int (nI hf), .long (stg s), lm_jk, .int 0, .int (-1), lm_jk] [.int (bz (cst T n (nI st) idle k (s_next (aft T 0 s))))] (hi1, hl, X) _
        refine w_N 3 110 [.ref b, .int (nI st), .int (nI (k + 1)), .int (nI D), .int (bz al), .int (nI hf), .long (stg s), lm_jk, .int 0, .int (-1), .int (bz (cst T n (nI st) idle k (s_next (aft T 0 s))))] [.long (stg s), .ref b] rfl ?_
        refine w_ca (w_vst rfl rfl rfl (Nat.le_of_ble_eq_true rfl) (Nat.le_of_ble_eq_true rfl) (M_kd S)) (lm_w_dep (d := 0) (by omega) (m_putBack (s := s) S)) ?_
        rintro _ _ ⟨hi3, rfl, rfl, HS3, X3, D3⟩
        have e9 : hi3 = hi := fr_emp (rX_back (lo := 0) (up := 0) X1 fr_rfl X3 (by omega) HS HS3 (by rw [D3, D1]))
        subst e9
        show lm_wp _ 205 113 [.ref b, .int (nI st), .int (nI (k + 1)), .int (nI D), .int (bz al), .int (nI hf), .long (stg s), lm_jk, .int 0, .int (-1), .int (bz (cst T n (nI st) idle k (s_next (aft T 0 s))))] [] (hi3, hl, X) _
        refine w_N 1 115 [.ref b, .int (nI st), .int (nI (k + 1)), .int (nI D), .int (bz al), .int (nI hf), .long (stg s), lm_jk, .int 0, .int (-1), .int (bz (cst T n (nI st) idle k (s_next (aft T 0 s))))] [.int (bz (cst T n (nI st) idle k (s_next (aft T 0 s))))] rfl ?_
        refine w_zeq (t := 120) rfl rfl (fun c5 => ?_) (fun c5 => ?_)
        · refine w_N 2 48 [.ref b, .int (nI st), .int (nI (k + 1)), .int (nI D), .int (bz al), .int (nI hf), .long (stg s), lm_jk, .int 0, .int 0, .int (bz (cst T n (nI st) idle k (s_next (aft T 0 s))))] [] rfl ?_
          have eb : csl T (cst T n (nI st) idle k) s 0 (n + 1) = csl T (cst T n (nI st) idle k) s 1 n := if_neg (fun z => by rw [c5] at z; exact absurd z.2 (by decide))
          refine m_dn1 (il := false) (nn := n) (k := k) S hT H HS hw hD hk hst hid (fun z => absurd z (by decide)) (fun z => rfl) hB n 0 _ _ (by omega) rfl (fun v h1 q => q.trans ?_)
          rw [ec, eb]
        · refine w_N 1 119 [.ref b, .int (nI st), .int (nI (k + 1)), .int (nI D), .int (bz al), .int (nI hf), .long (stg s), lm_jk, .int 0, .int (-1), .int (bz (cst T n (nI st) idle k (s_next (aft T 0 s))))] [.int 1] rfl ?_
          refine w_rz rfl rfl (by decide) ?_
          rw [ec, show csl T (cst T n (nI st) idle k) s 0 (_ + 1) = true from if_pos ⟨rfl, c5⟩]; rfl
      · refine w_N 5 48 [.ref b, .int (nI st), .int (nI (k + 1)), .int (nI D), .int (bz al), .int (nI hf), .long (stg s), lm_jk, .int 1, .int (-1), lm_jk] [] rfl ?_
        have ec : cst T n (nI st) idle (k + 1) s = csl T (cst T n (nI st) idle k) s 0 (0 + 1) := by
          show csl T (cst T n (nI st) idle k) s 0 ((if nI (awk s) = idle then 0 else n) + 1) = _
          rw [if_pos (hi2.mpr ⟨c2, c4⟩)]
        refine w_N 2 52 [.ref b, .int (nI st), .int (nI (k + 1)), .int (nI D), .int (bz al), .int (nI hf), .long (stg s), lm_jk, .int 1, .int (-1), lm_jk] [.int 1, .int (-1)] rfl ?_
        refine w_if_eq_f (t := 59) rfl rfl (by decide) ?_
        refine w_N 2 63 [.ref b, .int (nI st), .int (nI (k + 1)), .int (nI D), .int (bz al), .int (nI hf), .long (stg s), lm_jk, .int 1, .int (-1), lm_jk] [.int 0, .int (-1)] rfl ?_
        refine w_icmp_ge_f (t := 126) rfl rfl (by decide) ?_
        refine w_N 2 69 [.ref b, .int (nI st), .int (nI (k + 1)), .int (nI D), .int (bz al), .int (nI hf), .long (stg s), lm_jk, .int 1, .int (-1), lm_jk] [.int (-1), .int (-1)] rfl ?_
        refine w_icmp_eq_t (t := 84) rfl rfl (by decide) ?_
        refine w_N 2 87 [.ref b, .int (nI st), .int (nI (k + 1)), .int (nI D), .int (bz al), .int (nI hf), .long (stg s), lm_jk, .int 1, .int (-1), lm_jk] [.int (-1), .ref b] rfl ?_
        refine w_ca (w_vst rfl rfl rfl (Nat.le_of_ble_eq_true rfl) (Nat.le_of_ble_eq_true rfl) (M_kd S)) (m_doIt (hf := awk s) (i := 0) S H HS hT rfl (Nat.zero_le n) rfl) ?_
        rintro _ _ ⟨hi1, rfl, rfl, HS1, X1, D1⟩
        have H1 := rT_X X1 H
        show lm_wp _ 205 90 [.ref b, .int (nI st), .int (nI (k + 1)), .int (nI D), .int (bz al), .int (nI hf), .long (stg s), lm_jk, .int 1, .int (-1), lm_jk] [] (hi1, hl, X) _
        refine w_N 10 102 [.ref b, .int (nI st), .int (nI (k + 1)), .int (nI D), .int (bz al), .int (nI hf), .long (stg s), lm_jk, .int 1, .int (-1), lm_jk] [.int (nI hf), .int (bz al), .int ((nI D) + 1), .int ((nI (k + 1)) - 1), .int (nI st), .ref b] rfl ?_
        refine w_cc (w_vst rfl rfl rfl (Nat.le_of_ble_eq_true rfl) (Nat.le_of_ble_eq_true rfl) (M_kd S)) (hB _ _ _ _ _ (D + 1) _ _ _ _ (s_next (aft T 0 s)) idle _ _ S H1 hT (rS_next HS1) (by rw [awk_next, (aft_ok (hf := awk s) hT (Nat.zero_le n) rfl).2]; omega) (by omega) hst hid (nI_prd k) (nI_succ D).symm) ?_
        show lm_wp _ 205 105 [.ref b, .int (nI st), .int (nI (k + 1)), .int (nI D), .int (bz al), .int (nI hf), .long (stg s), lm_jk, .int 1, .int (-1), lm_jk] [.int (bz (cst T n (nI st) idle k (s_next (aft T 0 s))))] (hi1, hl, X) _
        refine w_N 3 110 [.ref b, .int (nI st), .int (nI (k + 1)), .int (nI D), .int (bz al), .int (nI hf), .long (stg s), lm_jk, .int 1, .int (-1), .int (bz (cst T n (nI st) idle k (s_next (aft T 0 s))))] [.long (stg s), .ref b] rfl ?_
        refine w_ca (w_vst rfl rfl rfl (Nat.le_of_ble_eq_true rfl) (Nat.le_of_ble_eq_true rfl) (M_kd S)) (lm_w_dep (d := 0) (by omega) (m_putBack (s := s) S)) ?_
        rintro _ _ ⟨hi3, rfl, rfl, HS3, X3, D3⟩
        have e9 : hi3 = hi := fr_emp (rX_back (lo := 0) (up := 0) X1 fr_rfl X3 (by omega) HS HS3 (by rw [D3, D1]))
        subst e9
        show lm_wp _ 205 113 [.ref b, .int (nI st), .int (nI (k + 1)), .int (nI D), .int (bz al), .int (nI hf), .long (stg s), lm_jk, .int 1, .int (-1), .int (bz (cst T n (nI st) idle k (s_next (aft T 0 s))))] [] (hi3, hl, X) _
        refine w_N 1 115 [.ref b, .int (nI st), .int (nI (k + 1)), .int (nI D), .int (bz al), .int (nI hf), .long (stg s), lm_jk, .int 1, .int (-1), .int (bz (cst T n (nI st) idle k (s_next (aft T 0 s))))] [.int (bz (cst T n (nI st) idle k (s_next (aft T 0 s))))] rfl ?_
        refine w_zeq (t := 120) rfl rfl (fun c6 => ?_) (fun c6 => ?_)
        · refine w_N 2 48 [.ref b, .int (nI st), .int (nI (k + 1)), .int (nI D), .int (bz al), .int (nI hf), .long (stg s), lm_jk, .int 1, .int 0, .int (bz (cst T n (nI st) idle k (s_next (aft T 0 s))))] [] rfl ?_
          have eb : csl T (cst T n (nI st) idle k) s 0 (0 + 1) = csl T (cst T n (nI st) idle k) s 1 0 := if_neg (fun z => by rw [c6] at z; exact absurd z.2 (by decide))
          refine m_dn1 (il := true) (nn := 0) (k := k) S hT H HS hw hD hk hst hid (fun z => rfl) (fun z => absurd z (by decide)) hB 0 0 _ _ (by omega) rfl (fun v h1 q => q.trans ?_)
          rw [ec, eb]
        · refine w_N 1 119 [.ref b, .int (nI st), .int (nI (k + 1)), .int (nI D), .int (bz al), .int (nI hf), .long (stg s), lm_jk, .int 1, .int (-1), .int (bz (cst T n (nI st) idle k (s_next (aft T 0 s))))] [.int 1] rfl ?_
          refine w_rz rfl rfl (by decide) ?_
          rw [ec, show csl T (cst T n (nI st) idle k) s 0 (_ + 1) = true from if_pos ⟨rfl, c6⟩]; rfl
  · refine w_N 1 12 [.ref b, .int (nI st), .int (nI (k + 1)), .int (nI D), .int (bz al), .int (nI hf), lm_jk, lm_jk, lm_jk, lm_jk, lm_jk] [.int 1] rfl ?_
    refine w_rz rfl rfl (by decide) ?_
    rw [hnd] at c1
    rw [cst_now hst (k + 1) s c1]; rfl
theorem DN_all : ∀ k d, k < 1000 → DN (d + k + 1) k := by
  intro k
  induction k with
  | zero => intro d _; exact DN_0
  | succ k ih => intro d h; exact DN_of (d := d + k) (by omega) (ih d (by omega))
theorem m_isDone {d : Nat} {hi : Nat → Nat → Int32} {hl : Nat → Nat → Int64} {X : lm_X} {b n D : Nat} {T : lm_T} {s : Int32} (S : sh_M X b) (H : rT hi b T n) (HS : rS hi b s) (hT : okT T n) {k st hf : Nat} {al : Bool} {idle x y : Int32} (hw : awk s = D % 2) (hD : D + 4 < 2147483648) (h4 : k ≤ 4) (hst : st < 256) (hid : ∀ h, h < 2 → (nI h = idle ↔ (al = true ∧ ¬ nI h = nI hf))) (hx : x = nI k) (hy : y = nI D) : lm_c (d + 5) 205 [.ref b, .int (nI st), .int x, .int y, .int (bz al), .int (nI hf)] (hi, hl, X) (some (.int (bz (cst T n (nI st) idle k s))), (hi, hl, X)) :=
  lm_c_dep (d := d + k + 1) (by omega) (DN_all k d (by omega) _ _ _ _ _ _ _ _ _ _ _ _ _ _ S H hT HS hw (by omega) hst hid hx hy)
