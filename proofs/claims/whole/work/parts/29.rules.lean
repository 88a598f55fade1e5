set_option maxRecDepth 16384
/-! Rules: acts are told as numbers, 0 none, a + 1 act a -/
def mtv (T : lm_T) (s : Int32) (both : Bool) (i : Nat) : Int32 := val T (awk s) (aft T i s) + (if both = true then val T (1 - awk s) (aft T i s) else 0)
def mtl (T : lm_T) (s : Int32) (both : Bool) : Nat → Nat × Int32
  | 0 => (0, -2000000000)
  | i + 1 => if alw T i (awk s) s = true ∧ (mtl T s both i).2 < mtv T s both i then (i, mtv T s both i) else mtl T s both i
def mto (T : lm_T) (n : Nat) (s : Int32) (both : Bool) : Nat := (mtl T s both (n + 1)).1
def faF (T : lm_T) (s : Int32) : Nat → Nat → Nat
  | _, 0 => 0
  | m, j + 1 => if alw T (m + 1) (awk s) s = true then m + 1 else faF T s (m + 1) j
def actN (x : Int32) : Nat := (x + 1).toNatClampNeg
def ctt (T : lm_T) (s : Int32) (a : Nat) : Bool := !decide (val T (awk s) s < nI a - 50)
def oui (T : lm_T) (n : Nat) (s : Int32) (a : Nat) : Nat := if nI a < val T (awk s) (aft T (mto T n s false) s) - val T (awk s) s then mto T n s false else 0
/-- what a rule of kind k by a says -/
def chs (T : lm_T) (n k a : Nat) (s : Int32) : Nat := if k = 1 then mto T n s false else if k = 2 then mto T n s true else if k = 3 then actN (bst T n (a % 4 + 1) s).1 else if k = 4 then mto T n s (ctt T s a) else if k = 5 then oui T n s a else faF T s 0 n
theorem mtl_le (T : lm_T) (s : Int32) (both : Bool) : ∀ m, (mtl T s both m).1 ≤ m ∧ ((mtl T s both m).1 = 0 ∨ (mtl T s both m).1 < m) ∧ alw T (mtl T s both m).1 (awk s) s = true := by
  intro m
  induction m with
  | zero => exact ⟨Nat.le_refl _, Or.inl rfl, rfl⟩
  | succ m ih =>
    unfold mtl
    split
    · rename_i h; exact ⟨by show m ≤ m + 1; omega, Or.inr (Nat.lt_succ_self m), h.1⟩
    · exact ⟨by omega, by omega, ih.2.2⟩
theorem mto_le (T : lm_T) (n : Nat) (s : Int32) (both : Bool) : mto T n s both ≤ n ∧ alw T (mto T n s both) (awk s) s = true := by
  have h := mtl_le T s both (n + 1)
  unfold mto
  exact ⟨by omega, h.2.2⟩
theorem faF_ok (T : lm_T) (s : Int32) : ∀ j m, faF T s m j ≤ m + j ∧ alw T (faF T s m j) (awk s) s = true := by
  intro j
  induction j with
  | zero => intro m; exact ⟨Nat.zero_le _, rfl⟩
  | succ j ih =>
    intro m
    unfold faF
    split
    · rename_i h; exact ⟨by omega, h⟩
    · have := ih (m + 1); exact ⟨by omega, this.2⟩
theorem bsl_act (T : lm_T) (k : Nat) (f : Int32 → Int32 × Int32 × Int32) (s : Int32) : ∀ m, ∃ i, (bsl T k f s m).1 = aI i ∧ (i = 0 ∨ i < m) ∧ alw T i (awk s) s = true := by
  intro m
  induction m with
  | zero => exact ⟨0, rfl, Or.inl rfl, rfl⟩
  | succ m ih =>
    unfold bsl
    split
    · rename_i h; exact ⟨m, rfl, Or.inr (Nat.lt_succ_self m), h.1⟩
    · obtain ⟨i, h1, h2, h3⟩ := ih; exact ⟨i, h1, by omega, h3⟩
theorem actN_aI {i : Nat} (h : i < 1000) : actN (aI i) = i := by
  unfold actN
  rw [aI_succ]
  exact nI_nn (by omega)
theorem bst_act (T : lm_T) (n k : Nat) (s : Int32) (hn : n ≤ 10) : (bst T n k s).1 = aI (actN (bst T n k s).1) ∧ actN (bst T n k s).1 ≤ n ∧ alw T (actN (bst T n k s).1) (awk s) s = true := by
  cases k with
  | zero =>
    have e : (bst T n 0 s).1 = aI 0 := rfl
    rw [e, actN_aI (by decide)]
    exact ⟨rfl, Nat.zero_le _, rfl⟩
  | succ k =>
    obtain ⟨i, h1, h2, h3⟩ := bsl_act T k (bst T n k) s (n + 1)
    have e : (bst T n (k + 1) s).1 = aI i := h1
    rw [e, actN_aI (by omega)]
    exact ⟨rfl, by omega, h3⟩
/-- what a rule says can be done -/
theorem chs_ok (T : lm_T) (n k a : Nat) (s : Int32) (hn : n ≤ 10) : chs T n k a s ≤ n ∧ alw T (chs T n k a s) (awk s) s = true := by
  unfold chs
  split
  · exact mto_le T n s _
  · split
    · exact mto_le T n s _
    · split
      · exact (bst_act T n _ s hn).2
      · split
        · exact mto_le T n s _
        · split
          · unfold oui
            split
            · exact mto_le T n s _
            · exact ⟨Nat.zero_le _, rfl⟩
          · have := faF_ok T s n 0
            exact ⟨by omega, this.2⟩
theorem r_mt1 {d : Nat} {hi : Nat → Nat → Int32} {hl : Nat → Nat → Int64} {X : lm_X} (S : sh_A X) {n : Nat} {T : lm_T} {s : Int32} (H : isT hi 65 T n) {both : Bool} {P : Option Value → lm_H → Prop} (k : ∀ (y z : Value) (x : Int32) (c : Int32), lm_wp (d + 2) 11 107 [.ref 103, .int s, .int (bz both), .int (nI (awk s)), .int (aI (mto T n s both)), .int x, .int c, y, z] [] (hi, hl, X) P) : ∀ (j m : Nat) (fs : Int32) (ms : Int32) (mk : Int32) (x7 : Value) (x8 : Value), m + j = n + 1 → (fs = aI (mtl T s both m).1) → (ms = (mtl T s both m).2) → (mk = aI m) → lm_wp (d + 2) 11 15 [.ref 103, .int s, .int (bz both), .int (nI (awk s)), .int fs, .int ms, .int mk, x7, x8] [] (hi, hl, X) P := by
  intro j
  induction j with
  | zero =>
    intro m fs ms mk x7 x8 hm e1 e2 e4
    have hn10 := isTle H
    refine w_N 2 18 [.ref 103, .int s, .int (bz both), .int (nI (awk s)), .int fs, .int ms, .int mk, x7, x8] [.ref 103, .int mk] rfl ?_
    refine w_gr 65 rfl rfl rfl (A_k S 103 (by decide)) (A_r S 103 0 (by decide)) ?_
    refine w_gi (v := nI n) rfl rfl rfl (T_kd (A_T65 S)) (isTn H) ?_
    refine w_icmp_ge_t (t := 107) rfl rfl (by rw [e4, aI_lt (by omega) (by omega)]; omega) ?_
    obtain rfl : m = n + 1 := by omega
    rw [e1]
    exact k _ _ _ _
  | succ j ih =>
    intro m fs ms mk x7 x8 hm e1 e2 e4
    have hn10 := isTle H
    have ev := e4.symm
    have h1m : nI (1 - awk s) = 1 - nI (awk s) := by
      rcases (by have := awk_lt s; omega : awk s = 0 ∨ awk s = 1) with q | q <;> rw [q] <;> rfl
    refine w_N 2 18 [.ref 103, .int s, .int (bz both), .int (nI (awk s)), .int fs, .int ms, .int mk, x7, x8] [.ref 103, .int mk] rfl ?_
    refine w_gr 65 rfl rfl rfl (A_k S 103 (by decide)) (A_r S 103 0 (by decide)) ?_
    refine w_gi (v := nI n) rfl rfl rfl (T_kd (A_T65 S)) (isTn H) ?_
    refine w_icmp_ge_f (t := 107) rfl rfl (by rw [e4, aI_lt (by omega) (by omega)]; omega) ?_
    refine w_N 1 28 [.ref 103, .int s, .int (bz both), .int (nI (awk s)), .int fs, .int ms, .int mk, x7, x8] [.ref 103] rfl ?_
    refine w_gr 65 rfl rfl rfl (A_k S 103 (by decide)) (A_r S 103 0 (by decide)) ?_
    refine w_N 3 35 [.ref 103, .int s, .int (bz both), .int (nI (awk s)), .int fs, .int ms, .int mk, x7, x8] [.int s, .int (nI (awk s)), .int mk, .ref 65] rfl ?_
    refine w_cc (w_vst rfl rfl rfl (Nat.le_of_ble_eq_true rfl) (Nat.le_of_ble_eq_true rfl) (T_kd (A_T65 S))) (ev ▸ t_allows (A_T65 S) H (by omega)) ?_
    show lm_wp _ 11 38 [.ref 103, .int s, .int (bz both), .int (nI (awk s)), .int fs, .int ms, .int mk, x7, x8] [.int (bz (alw T m (awk s) s))] (hi, hl, X) _
    refine w_zeq (t := 101) rfl rfl (fun c1 => ?_) (fun c1 => ?_)
    · refine w_N 2 15 [.ref 103, .int s, .int (bz both), .int (nI (awk s)), .int fs, .int ms, .int (mk + 1), x7, x8] [] rfl ?_
      have eb : mtl T s both (m + 1) = mtl T s both m := if_neg (fun z => by rw [c1] at z; exact absurd z.1 (by decide))
      exact ih (m + 1) _ _ _ _ _ (by omega) (by rw [e1, eb]) (by rw [e2, eb]) (by rw [e4, aI_succ])
    · refine w_N 1 42 [.ref 103, .int s, .int (bz both), .int (nI (awk s)), .int fs, .int ms, .int mk, x7, x8] [.ref 103] rfl ?_
      refine w_gr 65 rfl rfl rfl (A_k S 103 (by decide)) (A_r S 103 0 (by decide)) ?_
      refine w_N 2 48 [.ref 103, .int s, .int (bz both), .int (nI (awk s)), .int fs, .int ms, .int mk, x7, x8] [.int s, .int mk, .ref 65] rfl ?_
      refine w_cc (w_vst rfl rfl rfl (Nat.le_of_ble_eq_true rfl) (Nat.le_of_ble_eq_true rfl) (T_kd (A_T65 S))) (ev ▸ t_after (A_T65 S) H (by omega)) ?_
      show lm_wp _ 11 51 [.ref 103, .int s, .int (bz both), .int (nI (awk s)), .int fs, .int ms, .int mk, x7, x8] [.int (aft T m s)] (hi, hl, X) _
      refine w_N 2 54 [.ref 103, .int s, .int (bz both), .int (nI (awk s)), .int fs, .int ms, .int mk, .int (aft T m s), x8] [.ref 103] rfl ?_
      refine w_gr 65 rfl rfl rfl (A_k S 103 (by decide)) (A_r S 103 0 (by decide)) ?_
      refine w_N 2 60 [.ref 103, .int s, .int (bz both), .int (nI (awk s)), .int fs, .int ms, .int mk, .int (aft T m s), x8] [.int (aft T m s), .int (nI (awk s)), .ref 65] rfl ?_
      refine w_cc (w_vst rfl rfl rfl (Nat.le_of_ble_eq_true rfl) (Nat.le_of_ble_eq_true rfl) (T_kd (A_T65 S))) (t_valueTo (A_T65 S) H (awk_lt s)) ?_
      show lm_wp _ 11 63 [.ref 103, .int s, .int (bz both), .int (nI (awk s)), .int fs, .int ms, .int mk, .int (aft T m s), x8] [.int (val T (awk s) (aft T m s))] (hi, hl, X) _
      refine w_N 1 64 [.ref 103, .int s, .int (bz both), .int (nI (awk s)), .int fs, .int ms, .int mk, .int (aft T m s), x8] [.int (bz both), .int (val T (awk s) (aft T m s))] rfl ?_
      refine w_zeq (t := 82) rfl rfl (fun c2 => ?_) (fun c2 => ?_)
      · refine w_N 5 90 [.ref 103, .int s, .int (bz both), .int (nI (awk s)), .int fs, .int ms, .int mk, .int (aft T m s), .int ((val T (awk s) (aft T m s)) + 0)] [.int ms, .int ((val T (awk s) (aft T m s)) + 0)] rfl ?_
        refine w_icmp_le (t := 101) rfl rfl (fun c3 => ?_) (fun c3 => ?_)
        · refine w_N 2 15 [.ref 103, .int s, .int (bz both), .int (nI (awk s)), .int fs, .int ms, .int (mk + 1), .int (aft T m s), .int ((val T (awk s) (aft T m s)) + 0)] [] rfl ?_
          have eo : val T (awk s) (aft T m s) + 0 = mtv T s both m := by unfold mtv; rw [c2]; rfl
          have eb : mtl T s both (m + 1) = mtl T s both m := if_neg (fun z => by rw [← e2, ← eo] at z; exact c3 z.2)
          exact ih (m + 1) _ _ _ _ _ (by omega) (by rw [e1, eb]) (by rw [e2, eb]) (by rw [e4, aI_succ])
        · refine w_N 6 15 [.ref 103, .int s, .int (bz both), .int (nI (awk s)), .int mk, .int ((val T (awk s) (aft T m s)) + 0), .int (mk + 1), .int (aft T m s), .int ((val T (awk s) (aft T m s)) + 0)] [] rfl ?_
          have eo : val T (awk s) (aft T m s) + 0 = mtv T s both m := by unfold mtv; rw [c2]; rfl
          have eb : mtl T s both (m + 1) = (m, mtv T s both m) := if_pos ⟨c1, by rw [← e2, ← eo]; exact c3⟩
          exact ih (m + 1) _ _ _ _ _ (by omega) (by rw [eb]; exact e4) (by rw [eb]; exact eo) (by rw [e4, aI_succ])
      · refine w_N 1 68 [.ref 103, .int s, .int (bz both), .int (nI (awk s)), .int fs, .int ms, .int mk, .int (aft T m s), x8] [.ref 103, .int (val T (awk s) (aft T m s))] rfl ?_
        refine w_gr 65 rfl rfl rfl (A_k S 103 (by decide)) (A_r S 103 0 (by decide)) ?_
        refine w_N 4 76 [.ref 103, .int s, .int (bz both), .int (nI (awk s)), .int fs, .int ms, .int mk, .int (aft T m s), x8] [.int (aft T m s), .int (1 - (nI (awk s))), .ref 65, .int (val T (awk s) (aft T m s))] rfl ?_
        refine w_cc (w_vst rfl rfl rfl (Nat.le_of_ble_eq_true rfl) (Nat.le_of_ble_eq_true rfl) (T_kd (A_T65 S))) (h1m ▸ t_valueTo (hf := 1 - awk s) (A_T65 S) H (by omega)) ?_
        show lm_wp _ 11 79 [.ref 103, .int s, .int (bz both), .int (nI (awk s)), .int fs, .int ms, .int mk, .int (aft T m s), x8] [.int (val T (1 - awk s) (aft T m s)), .int (val T (awk s) (aft T m s))] (hi, hl, X) _
        refine w_N 5 90 [.ref 103, .int s, .int (bz both), .int (nI (awk s)), .int fs, .int ms, .int mk, .int (aft T m s), .int ((val T (awk s) (aft T m s)) + (val T (1 - awk s) (aft T m s)))] [.int ms, .int ((val T (awk s) (aft T m s)) + (val T (1 - awk s) (aft T m s)))] rfl ?_
        refine w_icmp_le (t := 101) rfl rfl (fun c4 => ?_) (fun c4 => ?_)
        · refine w_N 2 15 [.ref 103, .int s, .int (bz both), .int (nI (awk s)), .int fs, .int ms, .int (mk + 1), .int (aft T m s), .int ((val T (awk s) (aft T m s)) + (val T (1 - awk s) (aft T m s)))] [] rfl ?_
          have eo : val T (awk s) (aft T m s) + val T (1 - awk s) (aft T m s) = mtv T s both m := by unfold mtv; rw [c2]; rfl
          have eb : mtl T s both (m + 1) = mtl T s both m := if_neg (fun z => by rw [← e2, ← eo] at z; exact c4 z.2)
          exact ih (m + 1) _ _ _ _ _ (by omega) (by rw [e1, eb]) (by rw [e2, eb]) (by rw [e4, aI_succ])
        · refine w_N 6 15 [.ref 103, .int s, .int (bz both), .int (nI (awk s)), .int mk, .int ((val T (awk s) (aft T m s)) + (val T (1 - awk s) (aft T m s))), .int (mk + 1), .int (aft T m s), .int ((val T (awk s) (aft T m s)) + (val T (1 - awk s) (aft T m s)))] [] rfl ?_
          have eo : val T (awk s) (aft T m s) + val T (1 - awk s) (aft T m s) = mtv T s both m := by unfold mtv; rw [c2]; rfl
          have eb : mtl T s both (m + 1) = (m, mtv T s both m) := if_pos ⟨c1, by rw [← e2, ← eo]; exact c4⟩
          exact ih (m + 1) _ _ _ _ _ (by omega) (by rw [eb]; exact e4) (by rw [eb]; exact eo) (by rw [e4, aI_succ])
theorem r_mostToday {d : Nat} {hi : Nat → Nat → Int32} {hl : Nat → Nat → Int64} {X : lm_X} (S : sh_A X) {n : Nat} {T : lm_T} {s : Int32} (H : isT hi 65 T n) {both : Bool} : lm_c (d + 2) 11 [.ref 103, .int s, .int (bz both)] (hi, hl, X) (some (.int (aI (mto T n s both))), (hi, hl, X)) := by
  refine lm_c_of (lm_w_in (Nat.le_of_ble_eq_true rfl) ?_)
  show lm_wp (d + 2) 11 0 [.ref 103, .int s, .int (bz both), lm_jk, lm_jk, lm_jk, lm_jk, lm_jk, lm_jk] [] (hi, hl, X) _
  refine w_N 1 1 [.ref 103, .int s, .int (bz both), lm_jk, lm_jk, lm_jk, lm_jk, lm_jk, lm_jk] [.int s] rfl ?_
  refine w_cc rfl (c_awkz rfl) ?_
  show lm_wp _ 11 4 [.ref 103, .int s, .int (bz both), lm_jk, lm_jk, lm_jk, lm_jk, lm_jk, lm_jk] [.int (nI (awk s))] (hi, hl, X) _
  refine w_N 7 15 [.ref 103, .int s, .int (bz both), .int (nI (awk s)), .int (-1), .int (-2000000000), .int (-1), lm_jk, lm_jk] [] rfl ?_
  refine r_mt1 S H (fun y z x c => ?_) (n + 1) 0 _ _ _ _ _ (by omega) rfl rfl rfl
  refine w_N 1 109 _ [.int (aI (mto T n s both))] rfl ?_
  exact w_ri rfl rfl rfl
theorem r_isContent {d : Nat} {hi : Nat → Nat → Int32} {hl : Nat → Nat → Int64} {X : lm_X} (S : sh_A X) {n : Nat} {T : lm_T} {s : Int32} (H : isT hi 65 T n) {a : Nat} : lm_c (d + 2) 12 [.ref 103, .int s, .int (nI a)] (hi, hl, X) (some (.int (bz (ctt T s a))), (hi, hl, X)) := by
  refine lm_c_of (lm_w_in (Nat.le_of_ble_eq_true rfl) ?_)
  show lm_wp (d + 2) 12 0 [.ref 103, .int s, .int (nI a)] [] (hi, hl, X) _
  refine w_N 1 1 [.ref 103, .int s, .int (nI a)] [.ref 103] rfl ?_
  refine w_gr 65 rfl rfl rfl (A_k S 103 (by decide)) (A_r S 103 0 (by decide)) ?_
  refine w_N 1 5 [.ref 103, .int s, .int (nI a)] [.int s, .ref 65] rfl ?_
  refine w_cc rfl (c_awkz rfl) ?_
  show lm_wp _ 12 8 [.ref 103, .int s, .int (nI a)] [.int (nI (awk s)), .ref 65] (hi, hl, X) _
  refine w_N 1 9 [.ref 103, .int s, .int (nI a)] [.int s, .int (nI (awk s)), .ref 65] rfl ?_
  refine w_cc (w_vst rfl rfl rfl (Nat.le_of_ble_eq_true rfl) (Nat.le_of_ble_eq_true rfl) (T_kd (A_T65 S))) (t_valueTo (A_T65 S) H (awk_lt s)) ?_
  show lm_wp _ 12 12 [.ref 103, .int s, .int (nI a)] [.int (val T (awk s) s)] (hi, hl, X) _
  refine w_N 3 16 [.ref 103, .int s, .int (nI a)] [.int ((nI a) - 50), .int (val T (awk s) s)] rfl ?_
  refine w_icmp_lt (t := 23) rfl rfl (fun c1 => ?_) (fun c1 => ?_)
  · refine w_N 1 24 [.ref 103, .int s, .int (nI a)] [.int 0] rfl ?_
    refine w_rz rfl rfl (by decide) ?_
    simp [bz, ctt, *]
  · refine w_N 2 24 [.ref 103, .int s, .int (nI a)] [.int 1] rfl ?_
    refine w_rz rfl rfl (by decide) ?_
    simp [bz, ctt, *]
theorem r_own {d : Nat} {hi : Nat → Nat → Int32} {hl : Nat → Nat → Int64} {X : lm_X} (S : sh_A X) {n : Nat} {T : lm_T} {s : Int32} (H : isT hi 65 T n) {a : Nat} : lm_c (d + 3) 13 [.ref 103, .int s, .int (nI a)] (hi, hl, X) (some (.int (aI (oui T n s a))), (hi, hl, X)) := by
  refine lm_c_of (lm_w_in (Nat.le_of_ble_eq_true rfl) ?_)
  show lm_wp (d + 3) 13 0 [.ref 103, .int s, .int (nI a), lm_jk, lm_jk, lm_jk] [] (hi, hl, X) _
  have hn10 := isTle H
  have hm := (mto_le T n s false).1
  refine w_N 1 1 [.ref 103, .int s, .int (nI a), lm_jk, lm_jk, lm_jk] [.int s] rfl ?_
  refine w_cc rfl (c_awkz rfl) ?_
  show lm_wp _ 13 4 [.ref 103, .int s, .int (nI a), lm_jk, lm_jk, lm_jk] [.int (nI (awk s))] (hi, hl, X) _
  refine w_N 4 8 [.ref 103, .int s, .int (nI a), .int (nI (awk s)), lm_jk, lm_jk] [.int 0, .int s, .ref 103] rfl ?_
  refine w_cc (w_vst rfl rfl rfl (Nat.le_of_ble_eq_true rfl) (Nat.le_of_ble_eq_true rfl) (A_k S 103 (by decide))) (r_mostToday (both := false) S H) ?_
  show lm_wp _ 13 11 [.ref 103, .int s, .int (nI a), .int (nI (awk s)), lm_jk, lm_jk] [.int (aI (mto T n s false))] (hi, hl, X) _
  refine w_N 2 14 [.ref 103, .int s, .int (nI a), .int (nI (awk s)), .int (aI (mto T n s false)), lm_jk] [.ref 103] rfl ?_
  refine w_gr 65 rfl rfl rfl (A_k S 103 (by decide)) (A_r S 103 0 (by decide)) ?_
  refine w_N 2 19 [.ref 103, .int s, .int (nI a), .int (nI (awk s)), .int (aI (mto T n s false)), lm_jk] [.ref 103, .int (nI (awk s)), .ref 65] rfl ?_
  refine w_gr 65 rfl rfl rfl (A_k S 103 (by decide)) (A_r S 103 0 (by decide)) ?_
  refine w_N 2 25 [.ref 103, .int s, .int (nI a), .int (nI (awk s)), .int (aI (mto T n s false)), lm_jk] [.int s, .int (aI (mto T n s false)), .ref 65, .int (nI (awk s)), .ref 65] rfl ?_
  refine w_cc (w_vst rfl rfl rfl (Nat.le_of_ble_eq_true rfl) (Nat.le_of_ble_eq_true rfl) (T_kd (A_T65 S))) (t_after (d := d + 1) (A_T65 S) H (by omega)) ?_
  show lm_wp _ 13 28 [.ref 103, .int s, .int (nI a), .int (nI (awk s)), .int (aI (mto T n s false)), lm_jk] [.int (aft T (mto T n s false) s), .int (nI (awk s)), .ref 65] (hi, hl, X) _
  refine w_cc (w_vst rfl rfl rfl (Nat.le_of_ble_eq_true rfl) (Nat.le_of_ble_eq_true rfl) (T_kd (A_T65 S))) (t_valueTo (d := d + 1) (A_T65 S) H (awk_lt s)) ?_
  show lm_wp _ 13 31 [.ref 103, .int s, .int (nI a), .int (nI (awk s)), .int (aI (mto T n s false)), lm_jk] [.int (val T (awk s) (aft T (mto T n s false) s))] (hi, hl, X) _
  refine w_N 1 32 [.ref 103, .int s, .int (nI a), .int (nI (awk s)), .int (aI (mto T n s false)), lm_jk] [.ref 103, .int (val T (awk s) (aft T (mto T n s false) s))] rfl ?_
  refine w_gr 65 rfl rfl rfl (A_k S 103 (by decide)) (A_r S 103 0 (by decide)) ?_
  refine w_N 2 37 [.ref 103, .int s, .int (nI a), .int (nI (awk s)), .int (aI (mto T n s false)), lm_jk] [.int s, .int (nI (awk s)), .ref 65, .int (val T (awk s) (aft T (mto T n s false) s))] rfl ?_
  refine w_cc (w_vst rfl rfl rfl (Nat.le_of_ble_eq_true rfl) (Nat.le_of_ble_eq_true rfl) (T_kd (A_T65 S))) (t_valueTo (d := d + 1) (A_T65 S) H (awk_lt s)) ?_
  show lm_wp _ 13 40 [.ref 103, .int s, .int (nI a), .int (nI (awk s)), .int (aI (mto T n s false)), lm_jk] [.int (val T (awk s) s), .int (val T (awk s) (aft T (mto T n s false) s))] (hi, hl, X) _
  refine w_N 4 46 [.ref 103, .int s, .int (nI a), .int (nI (awk s)), .int (aI (mto T n s false)), .int ((val T (awk s) (aft T (mto T n s false) s)) - (val T (awk s) s))] [.int (nI a), .int ((val T (awk s) (aft T (mto T n s false) s)) - (val T (awk s) s))] rfl ?_
  refine w_icmp_gt (t := 53) rfl rfl (fun c1 => ?_) (fun c1 => ?_)
  · refine w_N 1 55 [.ref 103, .int s, .int (nI a), .int (nI (awk s)), .int (aI (mto T n s false)), .int ((val T (awk s) (aft T (mto T n s false) s)) - (val T (awk s) s))] [.int (aI (mto T n s false))] rfl ?_
    refine w_ri rfl rfl ?_
    simp [oui, *] <;> rfl
  · refine w_N 2 55 [.ref 103, .int s, .int (nI a), .int (nI (awk s)), .int (aI (mto T n s false)), .int ((val T (awk s) (aft T (mto T n s false) s)) - (val T (awk s) s))] [.int (-1)] rfl ?_
    refine w_ri rfl rfl ?_
    simp [oui, *] <;> rfl
theorem r_fa1 {d : Nat} {hi : Nat → Nat → Int32} {hl : Nat → Nat → Int64} {X : lm_X} (S : sh_A X) {n : Nat} {T : lm_T} {s : Int32} (H : isT hi 65 T n) {P : Option Value → lm_H → Prop} : ∀ (j m : Nat) (mk : Int32), m + j = n → (mk = nI m) → (∀ v h1, (v, h1) = (some (.int (aI (faF T s m j))), (hi, hl, X)) → P v h1) → lm_wp (d + 2) 14 2 [.ref 103, .int s, .int mk] [] (hi, hl, X) P := by
  intro j
  induction j with
  | zero =>
    intro m mk hm e2 hP
    have hn10 := isTle H
    refine w_N 2 4 [.ref 103, .int s, .int mk] [.ref 103, .int mk] rfl ?_
    refine w_gr 65 rfl rfl rfl (A_k S 103 (by decide)) (A_r S 103 0 (by decide)) ?_
    refine w_gi (v := nI n) rfl rfl rfl (T_kd (A_T65 S)) (isTn H) ?_
    refine w_icmp_ge_t (t := 37) rfl rfl (by rw [e2, show m = n by omega]; exact fun z => Int32.lt_irrefl z) ?_
    refine w_N 1 38 [.ref 103, .int s, .int mk] [.int (-1)] rfl ?_
    refine w_ri rfl rfl ?_
    exact hP _ _ rfl
  | succ j ih =>
    intro m mk hm e2 hP
    have hn10 := isTle H
    refine w_N 2 4 [.ref 103, .int s, .int mk] [.ref 103, .int mk] rfl ?_
    refine w_gr 65 rfl rfl rfl (A_k S 103 (by decide)) (A_r S 103 0 (by decide)) ?_
    refine w_gi (v := nI n) rfl rfl rfl (T_kd (A_T65 S)) (isTn H) ?_
    refine w_icmp_ge_f (t := 37) rfl rfl (by rw [e2]; exact nI_lt (by omega) (by omega)) ?_
    refine w_N 1 14 [.ref 103, .int s, .int mk] [.ref 103] rfl ?_
    refine w_gr 65 rfl rfl rfl (A_k S 103 (by decide)) (A_r S 103 0 (by decide)) ?_
    refine w_N 2 19 [.ref 103, .int s, .int mk] [.int s, .int mk, .ref 65] rfl ?_
    refine w_cc rfl (c_awkz rfl) ?_
    show lm_wp _ 14 22 [.ref 103, .int s, .int mk] [.int (nI (awk s)), .int mk, .ref 65] (hi, hl, X) _
    refine w_N 1 23 [.ref 103, .int s, .int mk] [.int s, .int (nI (awk s)), .int mk, .ref 65] rfl ?_
    refine w_cc (w_vst rfl rfl rfl (Nat.le_of_ble_eq_true rfl) (Nat.le_of_ble_eq_true rfl) (T_kd (A_T65 S))) (t_allowsE (i := m + 1) (A_T65 S) H e2 rfl (by omega)) ?_
    show lm_wp _ 14 26 [.ref 103, .int s, .int mk] [.int (bz (alw T (m + 1) (awk s) s))] (hi, hl, X) _
    refine w_zeq (t := 31) rfl rfl (fun c1 => ?_) (fun c1 => ?_)
    · refine w_N 2 2 [.ref 103, .int s, .int (mk + 1)] [] rfl ?_
      have eb : faF T s m (j + 1) = faF T s (m + 1) j := if_neg (by rw [c1]; decide)
      rw [eb] at hP
      exact ih (m + 1) _ (by omega) (by rw [e2, nI_succ]) hP
    · refine w_N 1 30 [.ref 103, .int s, .int mk] [.int mk] rfl ?_
      refine w_ri rfl rfl ?_
      exact hP _ _ (by rw [show faF T s m (j + 1) = m + 1 from if_pos c1, e2]; rfl)
theorem r_fa {d : Nat} {hi : Nat → Nat → Int32} {hl : Nat → Nat → Int64} {X : lm_X} (S : sh_A X) {n : Nat} {T : lm_T} {s : Int32} (H : isT hi 65 T n) : lm_c (d + 2) 14 [.ref 103, .int s] (hi, hl, X) (some (.int (aI (faF T s 0 n))), (hi, hl, X)) := by
  refine lm_c_of (lm_w_in (Nat.le_of_ble_eq_true rfl) ?_)
  show lm_wp (d + 2) 14 0 [.ref 103, .int s, lm_jk] [] (hi, hl, X) _
  refine w_N 2 2 [.ref 103, .int s, .int 0] [] rfl ?_
  exact r_fa1 S H n 0 _ (by omega) rfl (fun _ _ q => q)
theorem sf_ruleKind {d : Nat} {hi : Nat → Nat → Int32} {hl : Nat → Nat → Int64} {X : lm_X} {k q : Nat} (Q : sh_Sf X q) (q1 : hi q 1 = nI (10 + k)) (h6 : k ≤ 6) : lm_c d 22 [.ref q] (hi, hl, X) (some (.int (nI k)), (hi, hl, X)) := by
  refine lm_c_of (lm_w_in (Nat.le_of_ble_eq_true rfl) ?_)
  show lm_wp d 22 0 [.ref q] [] (hi, hl, X) _
  refine w_N 1 1 [.ref q] [.ref q] rfl ?_
  refine w_gi (v := nI (10 + k)) rfl rfl rfl (Sf_kd Q) (q1) ?_
  refine w_N 2 7 [.ref q] [.int ((nI (10 + k)) - 10)] rfl ?_
  refine w_ri rfl rfl ?_
  rw [show (10 : Int32) = nI 10 from rfl, nI_sub (by omega), Nat.add_sub_cancel_left]
theorem rem4 {a : Nat} (ha : a ≤ 99) : nI a - nI a / 4 * 4 + 1 = nI (a % 4 + 1) := by
  have : ∀ a, a < 100 → nI a - nI a / 4 * 4 + 1 = nI (a % 4 + 1) := by decide
  exact this a (by omega)
theorem r_choose {d : Nat} {hi : Nat → Nat → Int32} {hl : Nat → Nat → Int64} {X : lm_X} (S : sh_A X) {n : Nat} {T : lm_T} {s : Int32} (H : isT hi 65 T n) {C k a q : Nat} (FO : fok hi T n C) (hT : okT T n) (hs : okS s) (Q : sh_Sf X q) (q1 : hi q 1 = nI (10 + k)) (q3 : hi q 3 = nI a) (h1 : 1 ≤ k) (h6 : k ≤ 6) (ha : a ≤ 99) : lm_w (d + 14) 10 [.ref 103, .ref q, .int s] (hi, hl, X) (fun v h1 => ∃ hi', v = some (.int (aI (chs T n k a s))) ∧ h1 = (hi', hl, X) ∧ fr 98 103 hi hi' ∧ fok hi' T n C) := by
  refine lm_w_in (Nat.le_of_ble_eq_true rfl) ?_
  show lm_wp (d + 14) 10 0 [.ref 103, .ref q, .int s] [] (hi, hl, X) _
  have hn10 := isTle H
  refine w_N 1 1 [.ref 103, .ref q, .int s] [.ref q] rfl ?_
  refine w_cc (w_vst rfl rfl rfl (Nat.le_of_ble_eq_true rfl) (Nat.le_of_ble_eq_true rfl) (Sf_kd Q)) (sf_ruleKind Q q1 h6) ?_
  show lm_wp _ 10 4 [.ref 103, .ref q, .int s] [.int (nI k)] (hi, hl, X) _
  refine lm_by (x := nI k) 1 ?_ ?_
  · intro c1
    refine w_ts (t := 40) rfl (by decide) (by rw [c1]; rfl) ?_
    refine w_N 3 43 [.ref 103, .ref q, .int s] [.int 0, .int s, .ref 103] rfl ?_
    refine w_cc (w_vst rfl rfl rfl (Nat.le_of_ble_eq_true rfl) (Nat.le_of_ble_eq_true rfl) (A_k S 103 (by decide))) (r_mostToday (d := d + 11) (both := false) S H) ?_
    show lm_wp _ 10 46 [.ref 103, .ref q, .int s] [.int (aI (mto T n s false))] (hi, hl, X) _
    refine w_ri rfl rfl ?_
    have ek : k = 1 := (nI_inj (b := 1) (by omega) (by decide)).mp c1
    refine ⟨hi, ?_, rfl, fr_rfl, FO⟩
    unfold chs
    simp only [ek]
    rfl
  intro c1_0
  refine lm_by (x := nI k) 2 ?_ ?_
  · intro c1
    refine w_ts (t := 47) rfl (by decide) (by rw [c1]; rfl) ?_
    refine w_N 3 50 [.ref 103, .ref q, .int s] [.int 1, .int s, .ref 103] rfl ?_
    refine w_cc (w_vst rfl rfl rfl (Nat.le_of_ble_eq_true rfl) (Nat.le_of_ble_eq_true rfl) (A_k S 103 (by decide))) (r_mostToday (d := d + 11) (both := true) S H) ?_
    show lm_wp _ 10 53 [.ref 103, .ref q, .int s] [.int (aI (mto T n s true))] (hi, hl, X) _
    refine w_ri rfl rfl ?_
    have ek : k = 2 := (nI_inj (b := 2) (by omega) (by decide)).mp c1
    refine ⟨hi, ?_, rfl, fr_rfl, FO⟩
    unfold chs
    simp only [ek]
    rfl
  intro c1_1
  refine lm_by (x := nI k) 3 ?_ ?_
  · intro c1
    refine w_ts (t := 54) rfl (by decide) (by rw [c1]; rfl) ?_
    refine w_N 1 55 [.ref 103, .ref q, .int s] [.ref 103] rfl ?_
    refine w_gr 98 rfl rfl rfl (A_k S 103 (by decide)) (A_r S 103 1 (by decide)) ?_
    refine w_N 2 60 [.ref 103, .ref q, .int s] [.ref q, .int s, .ref 98] rfl ?_
    refine w_gi (v := nI a) rfl rfl rfl (Sf_kd Q) (q3) ?_
    refine w_N 1 64 [.ref 103, .ref q, .int s] [.int 4, .int (nI a), .int s, .ref 98] rfl ?_
    refine w_rem rfl (by decide) ?_
    refine w_N 2 67 [.ref 103, .ref q, .int s] [.int (((nI a) - (nI a) / 4 * 4) + 1), .int s, .ref 98] rfl ?_
    refine w_ca (w_vst rfl rfl rfl (Nat.le_of_ble_eq_true rfl) (Nat.le_of_ble_eq_true rfl) (A_k S 98 (by decide))) ((rem4 ha).symm ▸ f_firstAct (k := a % 4 + 1) S FO H hT hs (by omega) (by omega)) ?_
    rintro _ _ ⟨hi1, rfl, rfl, F1, FO1⟩
    show lm_wp _ 10 70 [.ref 103, .ref q, .int s] [.int ((bst T n (a % 4 + 1) s).1)] (hi1, hl, X) _
    refine w_ri rfl rfl ?_
    have ek : k = 3 := (nI_inj (b := 3) (by omega) (by decide)).mp c1
    refine ⟨hi1, ?_, rfl, F1, FO1⟩
    unfold chs
    rw [if_neg (by omega), if_neg (by omega), if_pos ek, ← (bst_act T n (a % 4 + 1) s hn10).1]
  intro c1_2
  refine lm_by (x := nI k) 4 ?_ ?_
  · intro c1
    refine w_ts (t := 71) rfl (by decide) (by rw [c1]; rfl) ?_
    refine w_N 5 76 [.ref 103, .ref q, .int s] [.ref q, .int s, .ref 103, .int s, .ref 103] rfl ?_
    refine w_gi (v := nI a) rfl rfl rfl (Sf_kd Q) (q3) ?_
    refine w_cc (w_vst rfl rfl rfl (Nat.le_of_ble_eq_true rfl) (Nat.le_of_ble_eq_true rfl) (A_k S 103 (by decide))) (r_isContent (d := d + 11) (a := a) S H) ?_
    show lm_wp _ 10 82 [.ref 103, .ref q, .int s] [.int (bz (ctt T s a)), .int s, .ref 103] (hi, hl, X) _
    refine w_cc (w_vst rfl rfl rfl (Nat.le_of_ble_eq_true rfl) (Nat.le_of_ble_eq_true rfl) (A_k S 103 (by decide))) (r_mostToday (d := d + 11) (both := ctt T s a) S H) ?_
    show lm_wp _ 10 85 [.ref 103, .ref q, .int s] [.int (aI (mto T n s (ctt T s a)))] (hi, hl, X) _
    refine w_ri rfl rfl ?_
    have ek : k = 4 := (nI_inj (b := 4) (by omega) (by decide)).mp c1
    refine ⟨hi, ?_, rfl, fr_rfl, FO⟩
    unfold chs
    simp only [ek]
    rfl
  intro c1_3
  refine lm_by (x := nI k) 5 ?_ ?_
  · intro c1
    refine w_ts (t := 86) rfl (by decide) (by rw [c1]; rfl) ?_
    refine w_N 3 89 [.ref 103, .ref q, .int s] [.ref q, .int s, .ref 103] rfl ?_
    refine w_gi (v := nI a) rfl rfl rfl (Sf_kd Q) (q3) ?_
    refine w_cc (w_vst rfl rfl rfl (Nat.le_of_ble_eq_true rfl) (Nat.le_of_ble_eq_true rfl) (A_k S 103 (by decide))) (r_own (d := d + 10) (a := a) S H) ?_
    show lm_wp _ 10 95 [.ref 103, .ref q, .int s] [.int (aI (oui T n s a))] (hi, hl, X) _
    refine w_ri rfl rfl ?_
    have ek : k = 5 := (nI_inj (b := 5) (by omega) (by decide)).mp c1
    refine ⟨hi, ?_, rfl, fr_rfl, FO⟩
    unfold chs
    simp only [ek]
    rfl
  intro c1_4
  refine w_ts (t := 96) rfl (by decide) (congrArg (lm_tg _) (lm_sw_n c1_0 (lm_sw_n c1_1 (lm_sw_n c1_2 (lm_sw_n c1_3 (lm_sw_n c1_4 (lm_sw_0))))))) ?_
  refine w_N 2 98 [.ref 103, .ref q, .int s] [.int s, .ref 103] rfl ?_
  refine w_cc (w_vst rfl rfl rfl (Nat.le_of_ble_eq_true rfl) (Nat.le_of_ble_eq_true rfl) (A_k S 103 (by decide))) (r_fa (d := d + 11) S H) ?_
  show lm_wp _ 10 101 [.ref 103, .ref q, .int s] [.int (aI (faF T s 0 n))] (hi, hl, X) _
  refine w_ri rfl rfl ?_
  refine ⟨hi, ?_, rfl, fr_rfl, FO⟩
  have z : ∀ j, j ≤ 5 → k ≠ j ∨ j = 0 := by
    intro j hj
    rcases (by omega : j = 0 ∨ j = 1 ∨ j = 2 ∨ j = 3 ∨ j = 4 ∨ j = 5) with rfl | rfl | rfl | rfl | rfl | rfl
    · exact Or.inr rfl
    · exact Or.inl (fun e => c1_0 (by rw [e]; rfl))
    · exact Or.inl (fun e => c1_1 (by rw [e]; rfl))
    · exact Or.inl (fun e => c1_2 (by rw [e]; rfl))
    · exact Or.inl (fun e => c1_3 (by rw [e]; rfl))
    · exact Or.inl (fun e => c1_4 (by rw [e]; rfl))
  unfold chs
  rw [if_neg (by have := z 1; omega), if_neg (by have := z 2; omega), if_neg (by have := z 3; omega), if_neg (by have := z 4; omega), if_neg (by have := z 5; omega)]
def und (k b : Nat) : Bool := decide (b = 0) || decide (k = b) || (decide (b = 1) && (decide (k = 2) || decide (k = 4) || decide (k = 5))) || (decide (b = 2) && decide (k = 4))
def isO (hi : Nat → Nat → Int32) (X : lm_X) : Prop := X.2.1 60 = 1 ∧ X.2.2.1 60 = 7 ∧ ∀ j, j < 7 → hi 60 j = lm_ra.getD j 0
theorem r_isUnder1 {d : Nat} {hi : Nat → Nat → Int32} {hl : Nat → Nat → Int64} {X : lm_X} (O : isO hi X) {ab : Nat} (hb : ab ≤ 6) : lm_c d 9 [.int 1, .int (nI ab)] (hi, hl, X) (some (.int (bz (und 1 ab))), (hi, hl, X)) := by
  refine lm_c_of (lm_w_in (Nat.le_of_ble_eq_true rfl) ?_)
  show lm_wp d 9 0 [.int 1, .int (nI ab), lm_jk, lm_jk] [] (hi, hl, X) _
  refine w_N 6 8 [.int 1, .int (nI ab), .int 1, .int 0] [.ref 60, .int 0] rfl ?_
  refine w_al 7 rfl ⟨by rw [O.1]; decide, by rw [O.1]; decide⟩ O.2.1 ?_
  refine w_icmp_ge_f (t := 33) rfl rfl (by decide) ?_
  refine w_N 1 13 [.int 1, .int (nI ab), .int 1, .int 0] [.int 1] rfl ?_
  refine w_if_lt_f (t := 33) rfl rfl (by decide) ?_
  refine w_N 2 18 [.int 1, .int (nI ab), .int 1, .int 0] [.int (nI ab), .int 1] rfl ?_
  refine w_icmp_eq (t := 33) rfl rfl (fun c1 => ?_) (fun c1 => ?_)
  · refine w_N 2 35 [.int 1, .int (nI ab), .int 1, .int 0] [.int (nI ab), .int 1] rfl ?_
    refine w_icmp_ne (t := 42) rfl rfl (fun c2 => ?_) (fun c2 => ?_)
    · refine w_N 1 43 [.int 1, .int (nI ab), .int 1, .int 0] [.int 0] rfl ?_
      refine w_rz rfl rfl (by decide) ?_
      rcases (by omega : ab = 0 ∨ ab = 1 ∨ ab = 2 ∨ ab = 3 ∨ ab = 4 ∨ ab = 5 ∨ ab = 6) with rfl | rfl | rfl | rfl | rfl | rfl | rfl <;> first | rfl | (exfalso; revert c1 c2; decide)
    · refine w_N 2 43 [.int 1, .int (nI ab), .int 1, .int 0] [.int 1] rfl ?_
      refine w_rz rfl rfl (by decide) ?_
      rcases (by omega : ab = 0 ∨ ab = 1 ∨ ab = 2 ∨ ab = 3 ∨ ab = 4 ∨ ab = 5 ∨ ab = 6) with rfl | rfl | rfl | rfl | rfl | rfl | rfl <;> first | rfl | (exfalso; revert c1 c2; decide)
  · refine w_N 2 25 [.int 1, .int (nI ab), .int 1, .int 0] [.int 1, .ref 60] rfl ?_
    refine w_ia 1 (v := 0) rfl O.1 O.2.1 rfl (by decide) (by decide) ((O.2.2 1 (by decide))) ?_
    refine w_N 5 8 [.int 1, .int (nI ab), .int 0, .int 1] [.ref 60, .int 1] rfl ?_
    refine w_al 7 rfl ⟨by rw [O.1]; decide, by rw [O.1]; decide⟩ O.2.1 ?_
    refine w_icmp_ge_f (t := 33) rfl rfl (by decide) ?_
    refine w_N 1 13 [.int 1, .int (nI ab), .int 0, .int 1] [.int 0] rfl ?_
    refine w_if_lt_f (t := 33) rfl rfl (by decide) ?_
    refine w_N 2 18 [.int 1, .int (nI ab), .int 0, .int 1] [.int (nI ab), .int 0] rfl ?_
    refine w_icmp_eq (t := 33) rfl rfl (fun c3 => ?_) (fun c3 => ?_)
    · refine w_N 2 35 [.int 1, .int (nI ab), .int 0, .int 1] [.int (nI ab), .int 0] rfl ?_
      refine w_icmp_ne (t := 42) rfl rfl (fun c4 => ?_) (fun c4 => ?_)
      · refine w_N 1 43 [.int 1, .int (nI ab), .int 0, .int 1] [.int 0] rfl ?_
        refine w_rz rfl rfl (by decide) ?_
        rcases (by omega : ab = 0 ∨ ab = 1 ∨ ab = 2 ∨ ab = 3 ∨ ab = 4 ∨ ab = 5 ∨ ab = 6) with rfl | rfl | rfl | rfl | rfl | rfl | rfl <;> first | rfl | (exfalso; revert c1 c3 c4; decide)
      · refine w_N 2 43 [.int 1, .int (nI ab), .int 0, .int 1] [.int 1] rfl ?_
        refine w_rz rfl rfl (by decide) ?_
        rcases (by omega : ab = 0 ∨ ab = 1 ∨ ab = 2 ∨ ab = 3 ∨ ab = 4 ∨ ab = 5 ∨ ab = 6) with rfl | rfl | rfl | rfl | rfl | rfl | rfl <;> first | rfl | (exfalso; revert c1 c3 c4; decide)
    · refine w_N 2 25 [.int 1, .int (nI ab), .int 0, .int 1] [.int 0, .ref 60] rfl ?_
      refine w_ia 0 (v := (-1)) rfl O.1 O.2.1 rfl (by decide) (by decide) ((O.2.2 0 (by decide))) ?_
      refine w_N 5 8 [.int 1, .int (nI ab), .int (-1), .int 2] [.ref 60, .int 2] rfl ?_
      refine w_al 7 rfl ⟨by rw [O.1]; decide, by rw [O.1]; decide⟩ O.2.1 ?_
      refine w_icmp_ge_f (t := 33) rfl rfl (by decide) ?_
      refine w_N 1 13 [.int 1, .int (nI ab), .int (-1), .int 2] [.int (-1)] rfl ?_
      refine w_if_lt_t (t := 33) rfl rfl (by decide) ?_
      refine w_N 2 35 [.int 1, .int (nI ab), .int (-1), .int 2] [.int (nI ab), .int (-1)] rfl ?_
      refine w_icmp_ne (t := 42) rfl rfl (fun c5 => ?_) (fun c5 => ?_)
      · refine w_N 1 43 [.int 1, .int (nI ab), .int (-1), .int 2] [.int 0] rfl ?_
        refine w_rz rfl rfl (by decide) ?_
        rcases (by omega : ab = 0 ∨ ab = 1 ∨ ab = 2 ∨ ab = 3 ∨ ab = 4 ∨ ab = 5 ∨ ab = 6) with rfl | rfl | rfl | rfl | rfl | rfl | rfl <;> first | rfl | (exfalso; revert c1 c3 c5; decide)
      · refine w_N 2 43 [.int 1, .int (nI ab), .int (-1), .int 2] [.int 1] rfl ?_
        refine w_rz rfl rfl (by decide) ?_
        rcases (by omega : ab = 0 ∨ ab = 1 ∨ ab = 2 ∨ ab = 3 ∨ ab = 4 ∨ ab = 5 ∨ ab = 6) with rfl | rfl | rfl | rfl | rfl | rfl | rfl <;> first | rfl | (exfalso; revert c1 c3 c5; decide)
theorem r_isUnder2 {d : Nat} {hi : Nat → Nat → Int32} {hl : Nat → Nat → Int64} {X : lm_X} (O : isO hi X) {ab : Nat} (hb : ab ≤ 6) : lm_c d 9 [.int 2, .int (nI ab)] (hi, hl, X) (some (.int (bz (und 2 ab))), (hi, hl, X)) := by
  refine lm_c_of (lm_w_in (Nat.le_of_ble_eq_true rfl) ?_)
  show lm_wp d 9 0 [.int 2, .int (nI ab), lm_jk, lm_jk] [] (hi, hl, X) _
  refine w_N 6 8 [.int 2, .int (nI ab), .int 2, .int 0] [.ref 60, .int 0] rfl ?_
  refine w_al 7 rfl ⟨by rw [O.1]; decide, by rw [O.1]; decide⟩ O.2.1 ?_
  refine w_icmp_ge_f (t := 33) rfl rfl (by decide) ?_
  refine w_N 1 13 [.int 2, .int (nI ab), .int 2, .int 0] [.int 2] rfl ?_
  refine w_if_lt_f (t := 33) rfl rfl (by decide) ?_
  refine w_N 2 18 [.int 2, .int (nI ab), .int 2, .int 0] [.int (nI ab), .int 2] rfl ?_
  refine w_icmp_eq (t := 33) rfl rfl (fun c1 => ?_) (fun c1 => ?_)
  · refine w_N 2 35 [.int 2, .int (nI ab), .int 2, .int 0] [.int (nI ab), .int 2] rfl ?_
    refine w_icmp_ne (t := 42) rfl rfl (fun c2 => ?_) (fun c2 => ?_)
    · refine w_N 1 43 [.int 2, .int (nI ab), .int 2, .int 0] [.int 0] rfl ?_
      refine w_rz rfl rfl (by decide) ?_
      rcases (by omega : ab = 0 ∨ ab = 1 ∨ ab = 2 ∨ ab = 3 ∨ ab = 4 ∨ ab = 5 ∨ ab = 6) with rfl | rfl | rfl | rfl | rfl | rfl | rfl <;> first | rfl | (exfalso; revert c1 c2; decide)
    · refine w_N 2 43 [.int 2, .int (nI ab), .int 2, .int 0] [.int 1] rfl ?_
      refine w_rz rfl rfl (by decide) ?_
      rcases (by omega : ab = 0 ∨ ab = 1 ∨ ab = 2 ∨ ab = 3 ∨ ab = 4 ∨ ab = 5 ∨ ab = 6) with rfl | rfl | rfl | rfl | rfl | rfl | rfl <;> first | rfl | (exfalso; revert c1 c2; decide)
  · refine w_N 2 25 [.int 2, .int (nI ab), .int 2, .int 0] [.int 2, .ref 60] rfl ?_
    refine w_ia 2 (v := 1) rfl O.1 O.2.1 rfl (by decide) (by decide) ((O.2.2 2 (by decide))) ?_
    refine w_N 5 8 [.int 2, .int (nI ab), .int 1, .int 1] [.ref 60, .int 1] rfl ?_
    refine w_al 7 rfl ⟨by rw [O.1]; decide, by rw [O.1]; decide⟩ O.2.1 ?_
    refine w_icmp_ge_f (t := 33) rfl rfl (by decide) ?_
    refine w_N 1 13 [.int 2, .int (nI ab), .int 1, .int 1] [.int 1] rfl ?_
    refine w_if_lt_f (t := 33) rfl rfl (by decide) ?_
    refine w_N 2 18 [.int 2, .int (nI ab), .int 1, .int 1] [.int (nI ab), .int 1] rfl ?_
    refine w_icmp_eq (t := 33) rfl rfl (fun c3 => ?_) (fun c3 => ?_)
    · refine w_N 2 35 [.int 2, .int (nI ab), .int 1, .int 1] [.int (nI ab), .int 1] rfl ?_
      refine w_icmp_ne (t := 42) rfl rfl (fun c4 => ?_) (fun c4 => ?_)
      · refine w_N 1 43 [.int 2, .int (nI ab), .int 1, .int 1] [.int 0] rfl ?_
        refine w_rz rfl rfl (by decide) ?_
        rcases (by omega : ab = 0 ∨ ab = 1 ∨ ab = 2 ∨ ab = 3 ∨ ab = 4 ∨ ab = 5 ∨ ab = 6) with rfl | rfl | rfl | rfl | rfl | rfl | rfl <;> first | rfl | (exfalso; revert c1 c3 c4; decide)
      · refine w_N 2 43 [.int 2, .int (nI ab), .int 1, .int 1] [.int 1] rfl ?_
        refine w_rz rfl rfl (by decide) ?_
        rcases (by omega : ab = 0 ∨ ab = 1 ∨ ab = 2 ∨ ab = 3 ∨ ab = 4 ∨ ab = 5 ∨ ab = 6) with rfl | rfl | rfl | rfl | rfl | rfl | rfl <;> first | rfl | (exfalso; revert c1 c3 c4; decide)
    · refine w_N 2 25 [.int 2, .int (nI ab), .int 1, .int 1] [.int 1, .ref 60] rfl ?_
      refine w_ia 1 (v := 0) rfl O.1 O.2.1 rfl (by decide) (by decide) ((O.2.2 1 (by decide))) ?_
      refine w_N 5 8 [.int 2, .int (nI ab), .int 0, .int 2] [.ref 60, .int 2] rfl ?_
      refine w_al 7 rfl ⟨by rw [O.1]; decide, by rw [O.1]; decide⟩ O.2.1 ?_
      refine w_icmp_ge_f (t := 33) rfl rfl (by decide) ?_
      refine w_N 1 13 [.int 2, .int (nI ab), .int 0, .int 2] [.int 0] rfl ?_
      refine w_if_lt_f (t := 33) rfl rfl (by decide) ?_
      refine w_N 2 18 [.int 2, .int (nI ab), .int 0, .int 2] [.int (nI ab), .int 0] rfl ?_
      refine w_icmp_eq (t := 33) rfl rfl (fun c5 => ?_) (fun c5 => ?_)
      · refine w_N 2 35 [.int 2, .int (nI ab), .int 0, .int 2] [.int (nI ab), .int 0] rfl ?_
        refine w_icmp_ne (t := 42) rfl rfl (fun c6 => ?_) (fun c6 => ?_)
        · refine w_N 1 43 [.int 2, .int (nI ab), .int 0, .int 2] [.int 0] rfl ?_
          refine w_rz rfl rfl (by decide) ?_
          rcases (by omega : ab = 0 ∨ ab = 1 ∨ ab = 2 ∨ ab = 3 ∨ ab = 4 ∨ ab = 5 ∨ ab = 6) with rfl | rfl | rfl | rfl | rfl | rfl | rfl <;> first | rfl | (exfalso; revert c1 c3 c5 c6; decide)
        · refine w_N 2 43 [.int 2, .int (nI ab), .int 0, .int 2] [.int 1] rfl ?_
          refine w_rz rfl rfl (by decide) ?_
          rcases (by omega : ab = 0 ∨ ab = 1 ∨ ab = 2 ∨ ab = 3 ∨ ab = 4 ∨ ab = 5 ∨ ab = 6) with rfl | rfl | rfl | rfl | rfl | rfl | rfl <;> first | rfl | (exfalso; revert c1 c3 c5 c6; decide)
      · refine w_N 2 25 [.int 2, .int (nI ab), .int 0, .int 2] [.int 0, .ref 60] rfl ?_
        refine w_ia 0 (v := (-1)) rfl O.1 O.2.1 rfl (by decide) (by decide) ((O.2.2 0 (by decide))) ?_
        refine w_N 5 8 [.int 2, .int (nI ab), .int (-1), .int 3] [.ref 60, .int 3] rfl ?_
        refine w_al 7 rfl ⟨by rw [O.1]; decide, by rw [O.1]; decide⟩ O.2.1 ?_
        refine w_icmp_ge_f (t := 33) rfl rfl (by decide) ?_
        refine w_N 1 13 [.int 2, .int (nI ab), .int (-1), .int 3] [.int (-1)] rfl ?_
        refine w_if_lt_t (t := 33) rfl rfl (by decide) ?_
        refine w_N 2 35 [.int 2, .int (nI ab), .int (-1), .int 3] [.int (nI ab), .int (-1)] rfl ?_
        refine w_icmp_ne (t := 42) rfl rfl (fun c7 => ?_) (fun c7 => ?_)
        · refine w_N 1 43 [.int 2, .int (nI ab), .int (-1), .int 3] [.int 0] rfl ?_
          refine w_rz rfl rfl (by decide) ?_
          rcases (by omega : ab = 0 ∨ ab = 1 ∨ ab = 2 ∨ ab = 3 ∨ ab = 4 ∨ ab = 5 ∨ ab = 6) with rfl | rfl | rfl | rfl | rfl | rfl | rfl <;> first | rfl | (exfalso; revert c1 c3 c5 c7; decide)
        · refine w_N 2 43 [.int 2, .int (nI ab), .int (-1), .int 3] [.int 1] rfl ?_
          refine w_rz rfl rfl (by decide) ?_
          rcases (by omega : ab = 0 ∨ ab = 1 ∨ ab = 2 ∨ ab = 3 ∨ ab = 4 ∨ ab = 5 ∨ ab = 6) with rfl | rfl | rfl | rfl | rfl | rfl | rfl <;> first | rfl | (exfalso; revert c1 c3 c5 c7; decide)
theorem r_isUnder3 {d : Nat} {hi : Nat → Nat → Int32} {hl : Nat → Nat → Int64} {X : lm_X} (O : isO hi X) {ab : Nat} (hb : ab ≤ 6) : lm_c d 9 [.int 3, .int (nI ab)] (hi, hl, X) (some (.int (bz (und 3 ab))), (hi, hl, X)) := by
  refine lm_c_of (lm_w_in (Nat.le_of_ble_eq_true rfl) ?_)
  show lm_wp d 9 0 [.int 3, .int (nI ab), lm_jk, lm_jk] [] (hi, hl, X) _
  refine w_N 6 8 [.int 3, .int (nI ab), .int 3, .int 0] [.ref 60, .int 0] rfl ?_
  refine w_al 7 rfl ⟨by rw [O.1]; decide, by rw [O.1]; decide⟩ O.2.1 ?_
  refine w_icmp_ge_f (t := 33) rfl rfl (by decide) ?_
  refine w_N 1 13 [.int 3, .int (nI ab), .int 3, .int 0] [.int 3] rfl ?_
  refine w_if_lt_f (t := 33) rfl rfl (by decide) ?_
  refine w_N 2 18 [.int 3, .int (nI ab), .int 3, .int 0] [.int (nI ab), .int 3] rfl ?_
  refine w_icmp_eq (t := 33) rfl rfl (fun c1 => ?_) (fun c1 => ?_)
  · refine w_N 2 35 [.int 3, .int (nI ab), .int 3, .int 0] [.int (nI ab), .int 3] rfl ?_
    refine w_icmp_ne (t := 42) rfl rfl (fun c2 => ?_) (fun c2 => ?_)
    · refine w_N 1 43 [.int 3, .int (nI ab), .int 3, .int 0] [.int 0] rfl ?_
      refine w_rz rfl rfl (by decide) ?_
      rcases (by omega : ab = 0 ∨ ab = 1 ∨ ab = 2 ∨ ab = 3 ∨ ab = 4 ∨ ab = 5 ∨ ab = 6) with rfl | rfl | rfl | rfl | rfl | rfl | rfl <;> first | rfl | (exfalso; revert c1 c2; decide)
    · refine w_N 2 43 [.int 3, .int (nI ab), .int 3, .int 0] [.int 1] rfl ?_
      refine w_rz rfl rfl (by decide) ?_
      rcases (by omega : ab = 0 ∨ ab = 1 ∨ ab = 2 ∨ ab = 3 ∨ ab = 4 ∨ ab = 5 ∨ ab = 6) with rfl | rfl | rfl | rfl | rfl | rfl | rfl <;> first | rfl | (exfalso; revert c1 c2; decide)
  · refine w_N 2 25 [.int 3, .int (nI ab), .int 3, .int 0] [.int 3, .ref 60] rfl ?_
    refine w_ia 3 (v := 0) rfl O.1 O.2.1 rfl (by decide) (by decide) ((O.2.2 3 (by decide))) ?_
    refine w_N 5 8 [.int 3, .int (nI ab), .int 0, .int 1] [.ref 60, .int 1] rfl ?_
    refine w_al 7 rfl ⟨by rw [O.1]; decide, by rw [O.1]; decide⟩ O.2.1 ?_
    refine w_icmp_ge_f (t := 33) rfl rfl (by decide) ?_
    refine w_N 1 13 [.int 3, .int (nI ab), .int 0, .int 1] [.int 0] rfl ?_
    refine w_if_lt_f (t := 33) rfl rfl (by decide) ?_
    refine w_N 2 18 [.int 3, .int (nI ab), .int 0, .int 1] [.int (nI ab), .int 0] rfl ?_
    refine w_icmp_eq (t := 33) rfl rfl (fun c3 => ?_) (fun c3 => ?_)
    · refine w_N 2 35 [.int 3, .int (nI ab), .int 0, .int 1] [.int (nI ab), .int 0] rfl ?_
      refine w_icmp_ne (t := 42) rfl rfl (fun c4 => ?_) (fun c4 => ?_)
      · refine w_N 1 43 [.int 3, .int (nI ab), .int 0, .int 1] [.int 0] rfl ?_
        refine w_rz rfl rfl (by decide) ?_
        rcases (by omega : ab = 0 ∨ ab = 1 ∨ ab = 2 ∨ ab = 3 ∨ ab = 4 ∨ ab = 5 ∨ ab = 6) with rfl | rfl | rfl | rfl | rfl | rfl | rfl <;> first | rfl | (exfalso; revert c1 c3 c4; decide)
      · refine w_N 2 43 [.int 3, .int (nI ab), .int 0, .int 1] [.int 1] rfl ?_
        refine w_rz rfl rfl (by decide) ?_
        rcases (by omega : ab = 0 ∨ ab = 1 ∨ ab = 2 ∨ ab = 3 ∨ ab = 4 ∨ ab = 5 ∨ ab = 6) with rfl | rfl | rfl | rfl | rfl | rfl | rfl <;> first | rfl | (exfalso; revert c1 c3 c4; decide)
    · refine w_N 2 25 [.int 3, .int (nI ab), .int 0, .int 1] [.int 0, .ref 60] rfl ?_
      refine w_ia 0 (v := (-1)) rfl O.1 O.2.1 rfl (by decide) (by decide) ((O.2.2 0 (by decide))) ?_
      refine w_N 5 8 [.int 3, .int (nI ab), .int (-1), .int 2] [.ref 60, .int 2] rfl ?_
      refine w_al 7 rfl ⟨by rw [O.1]; decide, by rw [O.1]; decide⟩ O.2.1 ?_
      refine w_icmp_ge_f (t := 33) rfl rfl (by decide) ?_
      refine w_N 1 13 [.int 3, .int (nI ab), .int (-1), .int 2] [.int (-1)] rfl ?_
      refine w_if_lt_t (t := 33) rfl rfl (by decide) ?_
      refine w_N 2 35 [.int 3, .int (nI ab), .int (-1), .int 2] [.int (nI ab), .int (-1)] rfl ?_
      refine w_icmp_ne (t := 42) rfl rfl (fun c5 => ?_) (fun c5 => ?_)
      · refine w_N 1 43 [.int 3, .int (nI ab), .int (-1), .int 2] [.int 0] rfl ?_
        refine w_rz rfl rfl (by decide) ?_
        rcases (by omega : ab = 0 ∨ ab = 1 ∨ ab = 2 ∨ ab = 3 ∨ ab = 4 ∨ ab = 5 ∨ ab = 6) with rfl | rfl | rfl | rfl | rfl | rfl | rfl <;> first | rfl | (exfalso; revert c1 c3 c5; decide)
      · refine w_N 2 43 [.int 3, .int (nI ab), .int (-1), .int 2] [.int 1] rfl ?_
        refine w_rz rfl rfl (by decide) ?_
        rcases (by omega : ab = 0 ∨ ab = 1 ∨ ab = 2 ∨ ab = 3 ∨ ab = 4 ∨ ab = 5 ∨ ab = 6) with rfl | rfl | rfl | rfl | rfl | rfl | rfl <;> first | rfl | (exfalso; revert c1 c3 c5; decide)
theorem r_isUnder4 {d : Nat} {hi : Nat → Nat → Int32} {hl : Nat → Nat → Int64} {X : lm_X} (O : isO hi X) {ab : Nat} (hb : ab ≤ 6) : lm_c d 9 [.int 4, .int (nI ab)] (hi, hl, X) (some (.int (bz (und 4 ab))), (hi, hl, X)) := by
  refine lm_c_of (lm_w_in (Nat.le_of_ble_eq_true rfl) ?_)
  show lm_wp d 9 0 [.int 4, .int (nI ab), lm_jk, lm_jk] [] (hi, hl, X) _
  refine w_N 6 8 [.int 4, .int (nI ab), .int 4, .int 0] [.ref 60, .int 0] rfl ?_
  refine w_al 7 rfl ⟨by rw [O.1]; decide, by rw [O.1]; decide⟩ O.2.1 ?_
  refine w_icmp_ge_f (t := 33) rfl rfl (by decide) ?_
  refine w_N 1 13 [.int 4, .int (nI ab), .int 4, .int 0] [.int 4] rfl ?_
  refine w_if_lt_f (t := 33) rfl rfl (by decide) ?_
  refine w_N 2 18 [.int 4, .int (nI ab), .int 4, .int 0] [.int (nI ab), .int 4] rfl ?_
  refine w_icmp_eq (t := 33) rfl rfl (fun c1 => ?_) (fun c1 => ?_)
  · refine w_N 2 35 [.int 4, .int (nI ab), .int 4, .int 0] [.int (nI ab), .int 4] rfl ?_
    refine w_icmp_ne (t := 42) rfl rfl (fun c2 => ?_) (fun c2 => ?_)
    · refine w_N 1 43 [.int 4, .int (nI ab), .int 4, .int 0] [.int 0] rfl ?_
      refine w_rz rfl rfl (by decide) ?_
      rcases (by omega : ab = 0 ∨ ab = 1 ∨ ab = 2 ∨ ab = 3 ∨ ab = 4 ∨ ab = 5 ∨ ab = 6) with rfl | rfl | rfl | rfl | rfl | rfl | rfl <;> first | rfl | (exfalso; revert c1 c2; decide)
    · refine w_N 2 43 [.int 4, .int (nI ab), .int 4, .int 0] [.int 1] rfl ?_
      refine w_rz rfl rfl (by decide) ?_
      rcases (by omega : ab = 0 ∨ ab = 1 ∨ ab = 2 ∨ ab = 3 ∨ ab = 4 ∨ ab = 5 ∨ ab = 6) with rfl | rfl | rfl | rfl | rfl | rfl | rfl <;> first | rfl | (exfalso; revert c1 c2; decide)
  · refine w_N 2 25 [.int 4, .int (nI ab), .int 4, .int 0] [.int 4, .ref 60] rfl ?_
    refine w_ia 4 (v := 2) rfl O.1 O.2.1 rfl (by decide) (by decide) ((O.2.2 4 (by decide))) ?_
    refine w_N 5 8 [.int 4, .int (nI ab), .int 2, .int 1] [.ref 60, .int 1] rfl ?_
    refine w_al 7 rfl ⟨by rw [O.1]; decide, by rw [O.1]; decide⟩ O.2.1 ?_
    refine w_icmp_ge_f (t := 33) rfl rfl (by decide) ?_
    refine w_N 1 13 [.int 4, .int (nI ab), .int 2, .int 1] [.int 2] rfl ?_
    refine w_if_lt_f (t := 33) rfl rfl (by decide) ?_
    refine w_N 2 18 [.int 4, .int (nI ab), .int 2, .int 1] [.int (nI ab), .int 2] rfl ?_
    refine w_icmp_eq (t := 33) rfl rfl (fun c3 => ?_) (fun c3 => ?_)
    · refine w_N 2 35 [.int 4, .int (nI ab), .int 2, .int 1] [.int (nI ab), .int 2] rfl ?_
      refine w_icmp_ne (t := 42) rfl rfl (fun c4 => ?_) (fun c4 => ?_)
      · refine w_N 1 43 [.int 4, .int (nI ab), .int 2, .int 1] [.int 0] rfl ?_
        refine w_rz rfl rfl (by decide) ?_
        rcases (by omega : ab = 0 ∨ ab = 1 ∨ ab = 2 ∨ ab = 3 ∨ ab = 4 ∨ ab = 5 ∨ ab = 6) with rfl | rfl | rfl | rfl | rfl | rfl | rfl <;> first | rfl | (exfalso; revert c1 c3 c4; decide)
      · refine w_N 2 43 [.int 4, .int (nI ab), .int 2, .int 1] [.int 1] rfl ?_
        refine w_rz rfl rfl (by decide) ?_
        rcases (by omega : ab = 0 ∨ ab = 1 ∨ ab = 2 ∨ ab = 3 ∨ ab = 4 ∨ ab = 5 ∨ ab = 6) with rfl | rfl | rfl | rfl | rfl | rfl | rfl <;> first | rfl | (exfalso; revert c1 c3 c4; decide)
    · refine w_N 2 25 [.int 4, .int (nI ab), .int 2, .int 1] [.int 2, .ref 60] rfl ?_
      refine w_ia 2 (v := 1) rfl O.1 O.2.1 rfl (by decide) (by decide) ((O.2.2 2 (by decide))) ?_
      refine w_N 5 8 [.int 4, .int (nI ab), .int 1, .int 2] [.ref 60, .int 2] rfl ?_
      refine w_al 7 rfl ⟨by rw [O.1]; decide, by rw [O.1]; decide⟩ O.2.1 ?_
      refine w_icmp_ge_f (t := 33) rfl rfl (by decide) ?_
      refine w_N 1 13 [.int 4, .int (nI ab), .int 1, .int 2] [.int 1] rfl ?_
      refine w_if_lt_f (t := 33) rfl rfl (by decide) ?_
      refine w_N 2 18 [.int 4, .int (nI ab), .int 1, .int 2] [.int (nI ab), .int 1] rfl ?_
      refine w_icmp_eq (t := 33) rfl rfl (fun c5 => ?_) (fun c5 => ?_)
      · refine w_N 2 35 [.int 4, .int (nI ab), .int 1, .int 2] [.int (nI ab), .int 1] rfl ?_
        refine w_icmp_ne (t := 42) rfl rfl (fun c6 => ?_) (fun c6 => ?_)
        · refine w_N 1 43 [.int 4, .int (nI ab), .int 1, .int 2] [.int 0] rfl ?_
          refine w_rz rfl rfl (by decide) ?_
          rcases (by omega : ab = 0 ∨ ab = 1 ∨ ab = 2 ∨ ab = 3 ∨ ab = 4 ∨ ab = 5 ∨ ab = 6) with rfl | rfl | rfl | rfl | rfl | rfl | rfl <;> first | rfl | (exfalso; revert c1 c3 c5 c6; decide)
        · refine w_N 2 43 [.int 4, .int (nI ab), .int 1, .int 2] [.int 1] rfl ?_
          refine w_rz rfl rfl (by decide) ?_
          rcases (by omega : ab = 0 ∨ ab = 1 ∨ ab = 2 ∨ ab = 3 ∨ ab = 4 ∨ ab = 5 ∨ ab = 6) with rfl | rfl | rfl | rfl | rfl | rfl | rfl <;> first | rfl | (exfalso; revert c1 c3 c5 c6; decide)
      · refine w_N 2 25 [.int 4, .int (nI ab), .int 1, .int 2] [.int 1, .ref 60] rfl ?_
        refine w_ia 1 (v := 0) rfl O.1 O.2.1 rfl (by decide) (by decide) ((O.2.2 1 (by decide))) ?_
        refine w_N 5 8 [.int 4, .int (nI ab), .int 0, .int 3] [.ref 60, .int 3] rfl ?_
        refine w_al 7 rfl ⟨by rw [O.1]; decide, by rw [O.1]; decide⟩ O.2.1 ?_
        refine w_icmp_ge_f (t := 33) rfl rfl (by decide) ?_
        refine w_N 1 13 [.int 4, .int (nI ab), .int 0, .int 3] [.int 0] rfl ?_
        refine w_if_lt_f (t := 33) rfl rfl (by decide) ?_
        refine w_N 2 18 [.int 4, .int (nI ab), .int 0, .int 3] [.int (nI ab), .int 0] rfl ?_
        refine w_icmp_eq (t := 33) rfl rfl (fun c7 => ?_) (fun c7 => ?_)
        · refine w_N 2 35 [.int 4, .int (nI ab), .int 0, .int 3] [.int (nI ab), .int 0] rfl ?_
          refine w_icmp_ne (t := 42) rfl rfl (fun c8 => ?_) (fun c8 => ?_)
          · refine w_N 1 43 [.int 4, .int (nI ab), .int 0, .int 3] [.int 0] rfl ?_
            refine w_rz rfl rfl (by decide) ?_
            rcases (by omega : ab = 0 ∨ ab = 1 ∨ ab = 2 ∨ ab = 3 ∨ ab = 4 ∨ ab = 5 ∨ ab = 6) with rfl | rfl | rfl | rfl | rfl | rfl | rfl <;> first | rfl | (exfalso; revert c1 c3 c5 c7 c8; decide)
          · refine w_N 2 43 [.int 4, .int (nI ab), .int 0, .int 3] [.int 1] rfl ?_
            refine w_rz rfl rfl (by decide) ?_
            rcases (by omega : ab = 0 ∨ ab = 1 ∨ ab = 2 ∨ ab = 3 ∨ ab = 4 ∨ ab = 5 ∨ ab = 6) with rfl | rfl | rfl | rfl | rfl | rfl | rfl <;> first | rfl | (exfalso; revert c1 c3 c5 c7 c8; decide)
        · refine w_N 2 25 [.int 4, .int (nI ab), .int 0, .int 3] [.int 0, .ref 60] rfl ?_
          refine w_ia 0 (v := (-1)) rfl O.1 O.2.1 rfl (by decide) (by decide) ((O.2.2 0 (by decide))) ?_
          refine w_N 5 8 [.int 4, .int (nI ab), .int (-1), .int 4] [.ref 60, .int 4] rfl ?_
          refine w_al 7 rfl ⟨by rw [O.1]; decide, by rw [O.1]; decide⟩ O.2.1 ?_
          refine w_icmp_ge_f (t := 33) rfl rfl (by decide) ?_
          refine w_N 1 13 [.int 4, .int (nI ab), .int (-1), .int 4] [.int (-1)] rfl ?_
          refine w_if_lt_t (t := 33) rfl rfl (by decide) ?_
          refine w_N 2 35 [.int 4, .int (nI ab), .int (-1), .int 4] [.int (nI ab), .int (-1)] rfl ?_
          refine w_icmp_ne (t := 42) rfl rfl (fun c9 => ?_) (fun c9 => ?_)
          · refine w_N 1 43 [.int 4, .int (nI ab), .int (-1), .int 4] [.int 0] rfl ?_
            refine w_rz rfl rfl (by decide) ?_
            rcases (by omega : ab = 0 ∨ ab = 1 ∨ ab = 2 ∨ ab = 3 ∨ ab = 4 ∨ ab = 5 ∨ ab = 6) with rfl | rfl | rfl | rfl | rfl | rfl | rfl <;> first | rfl | (exfalso; revert c1 c3 c5 c7 c9; decide)
          · refine w_N 2 43 [.int 4, .int (nI ab), .int (-1), .int 4] [.int 1] rfl ?_
            refine w_rz rfl rfl (by decide) ?_
            rcases (by omega : ab = 0 ∨ ab = 1 ∨ ab = 2 ∨ ab = 3 ∨ ab = 4 ∨ ab = 5 ∨ ab = 6) with rfl | rfl | rfl | rfl | rfl | rfl | rfl <;> first | rfl | (exfalso; revert c1 c3 c5 c7 c9; decide)
theorem r_isUnder5 {d : Nat} {hi : Nat → Nat → Int32} {hl : Nat → Nat → Int64} {X : lm_X} (O : isO hi X) {ab : Nat} (hb : ab ≤ 6) : lm_c d 9 [.int 5, .int (nI ab)] (hi, hl, X) (some (.int (bz (und 5 ab))), (hi, hl, X)) := by
  refine lm_c_of (lm_w_in (Nat.le_of_ble_eq_true rfl) ?_)
  show lm_wp d 9 0 [.int 5, .int (nI ab), lm_jk, lm_jk] [] (hi, hl, X) _
  refine w_N 6 8 [.int 5, .int (nI ab), .int 5, .int 0] [.ref 60, .int 0] rfl ?_
  refine w_al 7 rfl ⟨by rw [O.1]; decide, by rw [O.1]; decide⟩ O.2.1 ?_
  refine w_icmp_ge_f (t := 33) rfl rfl (by decide) ?_
  refine w_N 1 13 [.int 5, .int (nI ab), .int 5, .int 0] [.int 5] rfl ?_
  refine w_if_lt_f (t := 33) rfl rfl (by decide) ?_
  refine w_N 2 18 [.int 5, .int (nI ab), .int 5, .int 0] [.int (nI ab), .int 5] rfl ?_
  refine w_icmp_eq (t := 33) rfl rfl (fun c1 => ?_) (fun c1 => ?_)
  · refine w_N 2 35 [.int 5, .int (nI ab), .int 5, .int 0] [.int (nI ab), .int 5] rfl ?_
    refine w_icmp_ne (t := 42) rfl rfl (fun c2 => ?_) (fun c2 => ?_)
    · refine w_N 1 43 [.int 5, .int (nI ab), .int 5, .int 0] [.int 0] rfl ?_
      refine w_rz rfl rfl (by decide) ?_
      rcases (by omega : ab = 0 ∨ ab = 1 ∨ ab = 2 ∨ ab = 3 ∨ ab = 4 ∨ ab = 5 ∨ ab = 6) with rfl | rfl | rfl | rfl | rfl | rfl | rfl <;> first | rfl | (exfalso; revert c1 c2; decide)
    · refine w_N 2 43 [.int 5, .int (nI ab), .int 5, .int 0] [.int 1] rfl ?_
      refine w_rz rfl rfl (by decide) ?_
      rcases (by omega : ab = 0 ∨ ab = 1 ∨ ab = 2 ∨ ab = 3 ∨ ab = 4 ∨ ab = 5 ∨ ab = 6) with rfl | rfl | rfl | rfl | rfl | rfl | rfl <;> first | rfl | (exfalso; revert c1 c2; decide)
  · refine w_N 2 25 [.int 5, .int (nI ab), .int 5, .int 0] [.int 5, .ref 60] rfl ?_
    refine w_ia 5 (v := 1) rfl O.1 O.2.1 rfl (by decide) (by decide) ((O.2.2 5 (by decide))) ?_
    refine w_N 5 8 [.int 5, .int (nI ab), .int 1, .int 1] [.ref 60, .int 1] rfl ?_
    refine w_al 7 rfl ⟨by rw [O.1]; decide, by rw [O.1]; decide⟩ O.2.1 ?_
    refine w_icmp_ge_f (t := 33) rfl rfl (by decide) ?_
    refine w_N 1 13 [.int 5, .int (nI ab), .int 1, .int 1] [.int 1] rfl ?_
    refine w_if_lt_f (t := 33) rfl rfl (by decide) ?_
    refine w_N 2 18 [.int 5, .int (nI ab), .int 1, .int 1] [.int (nI ab), .int 1] rfl ?_
    refine w_icmp_eq (t := 33) rfl rfl (fun c3 => ?_) (fun c3 => ?_)
    · refine w_N 2 35 [.int 5, .int (nI ab), .int 1, .int 1] [.int (nI ab), .int 1] rfl ?_
      refine w_icmp_ne (t := 42) rfl rfl (fun c4 => ?_) (fun c4 => ?_)
      · refine w_N 1 43 [.int 5, .int (nI ab), .int 1, .int 1] [.int 0] rfl ?_
        refine w_rz rfl rfl (by decide) ?_
        rcases (by omega : ab = 0 ∨ ab = 1 ∨ ab = 2 ∨ ab = 3 ∨ ab = 4 ∨ ab = 5 ∨ ab = 6) with rfl | rfl | rfl | rfl | rfl | rfl | rfl <;> first | rfl | (exfalso; revert c1 c3 c4; decide)
      · refine w_N 2 43 [.int 5, .int (nI ab), .int 1, .int 1] [.int 1] rfl ?_
        refine w_rz rfl rfl (by decide) ?_
        rcases (by omega : ab = 0 ∨ ab = 1 ∨ ab = 2 ∨ ab = 3 ∨ ab = 4 ∨ ab = 5 ∨ ab = 6) with rfl | rfl | rfl | rfl | rfl | rfl | rfl <;> first | rfl | (exfalso; revert c1 c3 c4; decide)
    · refine w_N 2 25 [.int 5, .int (nI ab), .int 1, .int 1] [.int 1, .ref 60] rfl ?_
      refine w_ia 1 (v := 0) rfl O.1 O.2.1 rfl (by decide) (by decide) ((O.2.2 1 (by decide))) ?_
      refine w_N 5 8 [.int 5, .int (nI ab), .int 0, .int 2] [.ref 60, .int 2] rfl ?_
      refine w_al 7 rfl ⟨by rw [O.1]; decide, by rw [O.1]; decide⟩ O.2.1 ?_
      refine w_icmp_ge_f (t := 33) rfl rfl (by decide) ?_
      refine w_N 1 13 [.int 5, .int (nI ab), .int 0, .int 2] [.int 0] rfl ?_
      refine w_if_lt_f (t := 33) rfl rfl (by decide) ?_
      refine w_N 2 18 [.int 5, .int (nI ab), .int 0, .int 2] [.int (nI ab), .int 0] rfl ?_
      refine w_icmp_eq (t := 33) rfl rfl (fun c5 => ?_) (fun c5 => ?_)
      · refine w_N 2 35 [.int 5, .int (nI ab), .int 0, .int 2] [.int (nI ab), .int 0] rfl ?_
        refine w_icmp_ne (t := 42) rfl rfl (fun c6 => ?_) (fun c6 => ?_)
        · refine w_N 1 43 [.int 5, .int (nI ab), .int 0, .int 2] [.int 0] rfl ?_
          refine w_rz rfl rfl (by decide) ?_
          rcases (by omega : ab = 0 ∨ ab = 1 ∨ ab = 2 ∨ ab = 3 ∨ ab = 4 ∨ ab = 5 ∨ ab = 6) with rfl | rfl | rfl | rfl | rfl | rfl | rfl <;> first | rfl | (exfalso; revert c1 c3 c5 c6; decide)
        · refine w_N 2 43 [.int 5, .int (nI ab), .int 0, .int 2] [.int 1] rfl ?_
          refine w_rz rfl rfl (by decide) ?_
          rcases (by omega : ab = 0 ∨ ab = 1 ∨ ab = 2 ∨ ab = 3 ∨ ab = 4 ∨ ab = 5 ∨ ab = 6) with rfl | rfl | rfl | rfl | rfl | rfl | rfl <;> first | rfl | (exfalso; revert c1 c3 c5 c6; decide)
      · refine w_N 2 25 [.int 5, .int (nI ab), .int 0, .int 2] [.int 0, .ref 60] rfl ?_
        refine w_ia 0 (v := (-1)) rfl O.1 O.2.1 rfl (by decide) (by decide) ((O.2.2 0 (by decide))) ?_
        refine w_N 5 8 [.int 5, .int (nI ab), .int (-1), .int 3] [.ref 60, .int 3] rfl ?_
        refine w_al 7 rfl ⟨by rw [O.1]; decide, by rw [O.1]; decide⟩ O.2.1 ?_
        refine w_icmp_ge_f (t := 33) rfl rfl (by decide) ?_
        refine w_N 1 13 [.int 5, .int (nI ab), .int (-1), .int 3] [.int (-1)] rfl ?_
        refine w_if_lt_t (t := 33) rfl rfl (by decide) ?_
        refine w_N 2 35 [.int 5, .int (nI ab), .int (-1), .int 3] [.int (nI ab), .int (-1)] rfl ?_
        refine w_icmp_ne (t := 42) rfl rfl (fun c7 => ?_) (fun c7 => ?_)
        · refine w_N 1 43 [.int 5, .int (nI ab), .int (-1), .int 3] [.int 0] rfl ?_
          refine w_rz rfl rfl (by decide) ?_
          rcases (by omega : ab = 0 ∨ ab = 1 ∨ ab = 2 ∨ ab = 3 ∨ ab = 4 ∨ ab = 5 ∨ ab = 6) with rfl | rfl | rfl | rfl | rfl | rfl | rfl <;> first | rfl | (exfalso; revert c1 c3 c5 c7; decide)
        · refine w_N 2 43 [.int 5, .int (nI ab), .int (-1), .int 3] [.int 1] rfl ?_
          refine w_rz rfl rfl (by decide) ?_
          rcases (by omega : ab = 0 ∨ ab = 1 ∨ ab = 2 ∨ ab = 3 ∨ ab = 4 ∨ ab = 5 ∨ ab = 6) with rfl | rfl | rfl | rfl | rfl | rfl | rfl <;> first | rfl | (exfalso; revert c1 c3 c5 c7; decide)
theorem r_isUnder6 {d : Nat} {hi : Nat → Nat → Int32} {hl : Nat → Nat → Int64} {X : lm_X} (O : isO hi X) {ab : Nat} (hb : ab ≤ 6) : lm_c d 9 [.int 6, .int (nI ab)] (hi, hl, X) (some (.int (bz (und 6 ab))), (hi, hl, X)) := by
  refine lm_c_of (lm_w_in (Nat.le_of_ble_eq_true rfl) ?_)
  show lm_wp d 9 0 [.int 6, .int (nI ab), lm_jk, lm_jk] [] (hi, hl, X) _
  refine w_N 6 8 [.int 6, .int (nI ab), .int 6, .int 0] [.ref 60, .int 0] rfl ?_
  refine w_al 7 rfl ⟨by rw [O.1]; decide, by rw [O.1]; decide⟩ O.2.1 ?_
  refine w_icmp_ge_f (t := 33) rfl rfl (by decide) ?_
  refine w_N 1 13 [.int 6, .int (nI ab), .int 6, .int 0] [.int 6] rfl ?_
  refine w_if_lt_f (t := 33) rfl rfl (by decide) ?_
  refine w_N 2 18 [.int 6, .int (nI ab), .int 6, .int 0] [.int (nI ab), .int 6] rfl ?_
  refine w_icmp_eq (t := 33) rfl rfl (fun c1 => ?_) (fun c1 => ?_)
  · refine w_N 2 35 [.int 6, .int (nI ab), .int 6, .int 0] [.int (nI ab), .int 6] rfl ?_
    refine w_icmp_ne (t := 42) rfl rfl (fun c2 => ?_) (fun c2 => ?_)
    · refine w_N 1 43 [.int 6, .int (nI ab), .int 6, .int 0] [.int 0] rfl ?_
      refine w_rz rfl rfl (by decide) ?_
      rcases (by omega : ab = 0 ∨ ab = 1 ∨ ab = 2 ∨ ab = 3 ∨ ab = 4 ∨ ab = 5 ∨ ab = 6) with rfl | rfl | rfl | rfl | rfl | rfl | rfl <;> first | rfl | (exfalso; revert c1 c2; decide)
    · refine w_N 2 43 [.int 6, .int (nI ab), .int 6, .int 0] [.int 1] rfl ?_
      refine w_rz rfl rfl (by decide) ?_
      rcases (by omega : ab = 0 ∨ ab = 1 ∨ ab = 2 ∨ ab = 3 ∨ ab = 4 ∨ ab = 5 ∨ ab = 6) with rfl | rfl | rfl | rfl | rfl | rfl | rfl <;> first | rfl | (exfalso; revert c1 c2; decide)
  · refine w_N 2 25 [.int 6, .int (nI ab), .int 6, .int 0] [.int 6, .ref 60] rfl ?_
    refine w_ia 6 (v := 0) rfl O.1 O.2.1 rfl (by decide) (by decide) ((O.2.2 6 (by decide))) ?_
    refine w_N 5 8 [.int 6, .int (nI ab), .int 0, .int 1] [.ref 60, .int 1] rfl ?_
    refine w_al 7 rfl ⟨by rw [O.1]; decide, by rw [O.1]; decide⟩ O.2.1 ?_
    refine w_icmp_ge_f (t := 33) rfl rfl (by decide) ?_
    refine w_N 1 13 [.int 6, .int (nI ab), .int 0, .int 1] [.int 0] rfl ?_
    refine w_if_lt_f (t := 33) rfl rfl (by decide) ?_
    refine w_N 2 18 [.int 6, .int (nI ab), .int 0, .int 1] [.int (nI ab), .int 0] rfl ?_
    refine w_icmp_eq (t := 33) rfl rfl (fun c3 => ?_) (fun c3 => ?_)
    · refine w_N 2 35 [.int 6, .int (nI ab), .int 0, .int 1] [.int (nI ab), .int 0] rfl ?_
      refine w_icmp_ne (t := 42) rfl rfl (fun c4 => ?_) (fun c4 => ?_)
      · refine w_N 1 43 [.int 6, .int (nI ab), .int 0, .int 1] [.int 0] rfl ?_
        refine w_rz rfl rfl (by decide) ?_
        rcases (by omega : ab = 0 ∨ ab = 1 ∨ ab = 2 ∨ ab = 3 ∨ ab = 4 ∨ ab = 5 ∨ ab = 6) with rfl | rfl | rfl | rfl | rfl | rfl | rfl <;> first | rfl | (exfalso; revert c1 c3 c4; decide)
      · refine w_N 2 43 [.int 6, .int (nI ab), .int 0, .int 1] [.int 1] rfl ?_
        refine w_rz rfl rfl (by decide) ?_
        rcases (by omega : ab = 0 ∨ ab = 1 ∨ ab = 2 ∨ ab = 3 ∨ ab = 4 ∨ ab = 5 ∨ ab = 6) with rfl | rfl | rfl | rfl | rfl | rfl | rfl <;> first | rfl | (exfalso; revert c1 c3 c4; decide)
    · refine w_N 2 25 [.int 6, .int (nI ab), .int 0, .int 1] [.int 0, .ref 60] rfl ?_
      refine w_ia 0 (v := (-1)) rfl O.1 O.2.1 rfl (by decide) (by decide) ((O.2.2 0 (by decide))) ?_
      refine w_N 5 8 [.int 6, .int (nI ab), .int (-1), .int 2] [.ref 60, .int 2] rfl ?_
      refine w_al 7 rfl ⟨by rw [O.1]; decide, by rw [O.1]; decide⟩ O.2.1 ?_
      refine w_icmp_ge_f (t := 33) rfl rfl (by decide) ?_
      refine w_N 1 13 [.int 6, .int (nI ab), .int (-1), .int 2] [.int (-1)] rfl ?_
      refine w_if_lt_t (t := 33) rfl rfl (by decide) ?_
      refine w_N 2 35 [.int 6, .int (nI ab), .int (-1), .int 2] [.int (nI ab), .int (-1)] rfl ?_
      refine w_icmp_ne (t := 42) rfl rfl (fun c5 => ?_) (fun c5 => ?_)
      · refine w_N 1 43 [.int 6, .int (nI ab), .int (-1), .int 2] [.int 0] rfl ?_
        refine w_rz rfl rfl (by decide) ?_
        rcases (by omega : ab = 0 ∨ ab = 1 ∨ ab = 2 ∨ ab = 3 ∨ ab = 4 ∨ ab = 5 ∨ ab = 6) with rfl | rfl | rfl | rfl | rfl | rfl | rfl <;> first | rfl | (exfalso; revert c1 c3 c5; decide)
      · refine w_N 2 43 [.int 6, .int (nI ab), .int (-1), .int 2] [.int 1] rfl ?_
        refine w_rz rfl rfl (by decide) ?_
        rcases (by omega : ab = 0 ∨ ab = 1 ∨ ab = 2 ∨ ab = 3 ∨ ab = 4 ∨ ab = 5 ∨ ab = 6) with rfl | rfl | rfl | rfl | rfl | rfl | rfl <;> first | rfl | (exfalso; revert c1 c3 c5; decide)
theorem r_isUnder {d : Nat} {hi : Nat → Nat → Int32} {hl : Nat → Nat → Int64} {X : lm_X} (O : isO hi X) {k ab : Nat} (h1 : 1 ≤ k) (h6 : k ≤ 6) (hb : ab ≤ 6) : lm_c d 9 [.int (nI k), .int (nI ab)] (hi, hl, X) (some (.int (bz (und k ab))), (hi, hl, X)) := by
  rcases (by omega : k = 1 ∨ k = 2 ∨ k = 3 ∨ k = 4 ∨ k = 5 ∨ k = 6) with rfl | rfl | rfl | rfl | rfl | rfl
  · exact r_isUnder1 O hb
  · exact r_isUnder2 O hb
  · exact r_isUnder3 O hb
  · exact r_isUnder4 O hb
  · exact r_isUnder5 O hb
  · exact r_isUnder6 O hb
