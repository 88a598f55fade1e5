set_option maxRecDepth 16384
/-! Foresight: what was worked out stands in places, by keys -/
def memoX (hi : Nat → Nat → Int32) (T : lm_T) (n q : Nat) : Prop := ∀ p, p < 512 → p ≠ q → hi 99 p = 0 ∨ ∃ k s, 1 ≤ k ∧ k ≤ 4 ∧ okS s ∧ hi 99 p = key k s ∧ hi 100 p = (bst T n k s).1 ∧ hi 101 p = (bst T n k s).2.1 ∧ hi 102 p = (bst T n k s).2.2
def memo (hi : Nat → Nat → Int32) (T : lm_T) (n : Nat) : Prop := memoX hi T n 512
def poP (hi : Nat → Nat → Int32) (hl : Nat → Nat → Int64) (X : lm_X) (T : lm_T) (n k : Nat) (s : Int32) : Option Value → lm_H → Prop := fun v h1 => ∃ hi' p, v = some (.int (nI p)) ∧ h1 = (hi', hl, X) ∧ p < 512 ∧ fr 99 103 hi hi' ∧ memo hi' T n ∧ hi' 100 p = (bst T n k s).1 ∧ hi' 101 p = (bst T n k s).2.1 ∧ hi' 102 p = (bst T n k s).2.2
def PO (d k : Nat) : Prop := ∀ (hi : Nat → Nat → Int32) (hl : Nat → Nat → Int64) (X : lm_X) (T : lm_T) (n : Nat) (s x : Int32), sh_A X → isT hi 65 T n → okT T n → memo hi T n → okS s → x = nI k → lm_w d 6 [.ref 98, .int s, .int x] (hi, hl, X) (poP hi hl X T n k s)
theorem memo_fr {hi hi' : Nat → Nat → Int32} {T : lm_T} {n q lo up : Nat} (f : fr lo up hi hi') (hd : 103 ≤ lo ∨ up ≤ 99) (H : memoX hi T n q) : memoX hi' T n q := by
  intro p h1 h2
  rw [f 99 (by omega), f 100 (by omega), f 101 (by omega), f 102 (by omega)]
  exact H p h1 h2
theorem spr_lt (x : Int32) : ∃ p, p < 512 ∧ (x.toUInt32 >>> (Int32.toUInt32 23 &&& Int32.toUInt32 31)).toInt32 = nI p := by
  refine ⟨(x.toUInt32 >>> 23).toNat, ?_, ?_⟩
  · rw [UInt32.toNat_shiftRight]
    have : x.toUInt32.toNat < 4294967296 := x.toUInt32.toNat_lt
    rw [show (23 : UInt32).toNat % 32 = 23 from rfl, Nat.shiftRight_eq_div_pow]
    omega
  · rw [show Int32.toUInt32 23 &&& Int32.toUInt32 31 = 23 from rfl]
    generalize x.toUInt32 >>> 23 = y
    apply Int32.toBitVec_inj.mp
    show y.toBitVec = BitVec.ofNat 32 y.toNat
    rw [← UInt32.toNat_toBitVec, BitVec.ofNat_toNat, BitVec.setWidth_eq]
theorem f_gainAt {d : Nat} {hi : Nat → Nat → Int32} {hl : Nat → Nat → Int64} {X : lm_X} (S : sh_A X) {p hf : Nat} (hp : p < 512) : lm_c d 5 [.ref 98, .int (nI p), .int (nI hf)] (hi, hl, X) (some (.int (if nI hf = 0 then hi 101 p else hi 102 p)), (hi, hl, X)) := by
  refine lm_c_of (lm_w_in (Nat.le_of_ble_eq_true rfl) ?_)
  show lm_wp d 5 0 [.ref 98, .int (nI p), .int (nI hf)] [] (hi, hl, X) _
  refine w_N 1 1 [.ref 98, .int (nI p), .int (nI hf)] [.int (nI hf)] rfl ?_
  refine w_if_ne (t := 13) rfl rfl (fun c1 => ?_) (fun c1 => ?_)
  · refine w_N 1 14 [.ref 98, .int (nI p), .int (nI hf)] [.ref 98] rfl ?_
    refine w_gr 102 rfl rfl rfl (A_k S 98 (by decide)) (A_r S 98 4 (by decide)) ?_
    refine w_N 1 18 [.ref 98, .int (nI p), .int (nI hf)] [.int (nI p), .ref 102] rfl ?_
    refine w_ia p (v := hi 102 p) rfl (A_k S 102 (by decide)) (show X.2.2.1 102 = 512 from A_l S 102 (by decide)) rfl (by omega) (by decide) (rfl) ?_
    refine w_ri rfl rfl ?_
    simp [*]
  · refine w_N 1 5 [.ref 98, .int (nI p), .int (nI hf)] [.ref 98] rfl ?_
    refine w_gr 101 rfl rfl rfl (A_k S 98 (by decide)) (A_r S 98 3 (by decide)) ?_
    refine w_N 1 9 [.ref 98, .int (nI p), .int (nI hf)] [.int (nI p), .ref 101] rfl ?_
    refine w_ia p (v := hi 101 p) rfl (A_k S 101 (by decide)) (show X.2.2.1 101 = 512 from A_l S 101 (by decide)) rfl (by omega) (by decide) (rfl) ?_
    refine w_N 1 19 [.ref 98, .int (nI p), .int (nI hf)] [.int (hi 101 p)] rfl ?_
    refine w_ri rfl rfl ?_
    simp [*]
theorem f_wo1 {d : Nat} {hi : Nat → Nat → Int32} {hl : Nat → Nat → Int64} {X : lm_X} (S : sh_A X) {n k p : Nat} {T : lm_T} {s : Int32} (hT : okT T n) (hs : okS s) (hk : k < 4) (hp : p < 512) (hPO : 1 ≤ k → PO d k) {P : Option Value → lm_H → Prop} (k' : ∀ (hi' : Nat → Nat → Int32) (x8 x9 x10 x11 x12 : Value), fr 99 103 hi hi' → memo hi' T n → isT hi' 65 T n → lm_wp (d + 2) 7 143 [.ref 98, .int (nI p), .int s, .int (nI (k + 1)), .int (nI (awk s)), .int (bsl T k (bst T n k) s (n + 1)).1, .int (bsl T k (bst T n k) s (n + 1)).2.1, .int (bsl T k (bst T n k) s (n + 1)).2.2, x8, x9, x10, x11, x12] [] (hi', hl, X) P) : ∀ (j m : Nat) (hi' : Nat → Nat → Int32) (fs : Int32) (ms : Int32) (os : Int32) (mk : Int32) (x9 : Value) (x10 : Value) (x11 : Value) (x12 : Value), m + j = n + 1 → fs = (bsl T k (bst T n k) s m).1 → ms = (bsl T k (bst T n k) s m).2.1 → os = (bsl T k (bst T n k) s m).2.2 → mk = aI m → isT hi' 65 T n → memo hi' T n → fr 99 103 hi hi' → lm_wp (d + 2) 7 19 [.ref 98, .int (nI p), .int s, .int (nI (k + 1)), .int (nI (awk s)), .int fs, .int ms, .int os, .int mk, x9, x10, x11, x12] [] (hi', hl, X) P := by
  intro j
  induction j with
  | zero =>
    intro m hi' fs ms os mk x9 x10 x11 x12 hm e1 e2 e3 e4 H M F
    have hn10 := isTle H
    refine w_N 2 22 [.ref 98, .int (nI p), .int s, .int (nI (k + 1)), .int (nI (awk s)), .int fs, .int ms, .int os, .int mk, x9, x10, x11, x12] [.ref 98, .int mk] rfl ?_
    refine w_gr 65 rfl rfl rfl (A_k S 98 (by decide)) (A_r S 98 0 (by decide)) ?_
    refine w_gi (v := nI n) rfl rfl rfl (T_kd (A_T65 S)) (isTn H) ?_
    refine w_icmp_ge_t (t := 143) rfl rfl (by rw [e4, aI_lt (by omega) (by omega)]; omega) ?_
    obtain rfl : m = n + 1 := by omega
    rw [e1, e2, e3]
    exact k' hi' _ _ _ _ _ F M H
  | succ j ih =>
    intro m hi' fs ms os mk x9 x10 x11 x12 hm e1 e2 e3 e4 H M F
    have hn10 := isTle H
    have ev := e4.symm
    have h1m : nI (1 - awk s) = 1 - nI (awk s) := by
      rcases (by have := awk_lt s; omega : awk s = 0 ∨ awk s = 1) with q | q <;> rw [q] <;> rfl
    refine w_N 2 22 [.ref 98, .int (nI p), .int s, .int (nI (k + 1)), .int (nI (awk s)), .int fs, .int ms, .int os, .int mk, x9, x10, x11, x12] [.ref 98, .int mk] rfl ?_
    refine w_gr 65 rfl rfl rfl (A_k S 98 (by decide)) (A_r S 98 0 (by decide)) ?_
    refine w_gi (v := nI n) rfl rfl rfl (T_kd (A_T65 S)) (isTn H) ?_
    refine w_icmp_ge_f (t := 143) rfl rfl (by rw [e4, aI_lt (by omega) (by omega)]; omega) ?_
    refine w_N 1 32 [.ref 98, .int (nI p), .int s, .int (nI (k + 1)), .int (nI (awk s)), .int fs, .int ms, .int os, .int mk, x9, x10, x11, x12] [.ref 98] rfl ?_
    refine w_gr 65 rfl rfl rfl (A_k S 98 (by decide)) (A_r S 98 0 (by decide)) ?_
    refine w_N 3 40 [.ref 98, .int (nI p), .int s, .int (nI (k + 1)), .int (nI (awk s)), .int fs, .int ms, .int os, .int mk, x9, x10, x11, x12] [.int s, .int (nI (awk s)), .int mk, .ref 65] rfl ?_
    refine w_cc (w_vst rfl rfl rfl (Nat.le_of_ble_eq_true rfl) (Nat.le_of_ble_eq_true rfl) (T_kd (A_T65 S))) (ev ▸ t_allows (A_T65 S) H (by omega)) ?_
    show lm_wp _ 7 43 [.ref 98, .int (nI p), .int s, .int (nI (k + 1)), .int (nI (awk s)), .int fs, .int ms, .int os, .int mk, x9, x10, x11, x12] [.int (bz (alw T m (awk s) s))] (hi', hl, X) _
    refine w_zeq (t := 137) rfl rfl (fun c1 => ?_) (fun c1 => ?_)
    · refine w_N 2 19 [.ref 98, .int (nI p), .int s, .int (nI (k + 1)), .int (nI (awk s)), .int fs, .int ms, .int os, .int (mk + 1), x9, x10, x11, x12] [] rfl ?_
      have eb : bsl T k (bst T n k) s (m + 1) = bsl T k (bst T n k) s m := if_neg (fun z => by rw [c1] at z; exact absurd z.1 (by decide))
      exact ih (m + 1) _ _ _ _ _ _ _ _ _ (by omega) (by rw [e1, eb]) (by rw [e2, eb]) (by rw [e3, eb]) (by rw [e4, aI_succ]) H M F
    · refine w_N 1 47 [.ref 98, .int (nI p), .int s, .int (nI (k + 1)), .int (nI (awk s)), .int fs, .int ms, .int os, .int mk, x9, x10, x11, x12] [.ref 98] rfl ?_
      refine w_gr 65 rfl rfl rfl (A_k S 98 (by decide)) (A_r S 98 0 (by decide)) ?_
      refine w_N 2 53 [.ref 98, .int (nI p), .int s, .int (nI (k + 1)), .int (nI (awk s)), .int fs, .int ms, .int os, .int mk, x9, x10, x11, x12] [.int s, .int mk, .ref 65] rfl ?_
      refine w_cc (w_vst rfl rfl rfl (Nat.le_of_ble_eq_true rfl) (Nat.le_of_ble_eq_true rfl) (T_kd (A_T65 S))) (ev ▸ t_after (A_T65 S) H (by omega)) ?_
      show lm_wp _ 7 56 [.ref 98, .int (nI p), .int s, .int (nI (k + 1)), .int (nI (awk s)), .int fs, .int ms, .int os, .int mk, x9, x10, x11, x12] [.int (aft T m s)] (hi', hl, X) _
      refine w_N 2 59 [.ref 98, .int (nI p), .int s, .int (nI (k + 1)), .int (nI (awk s)), .int fs, .int ms, .int os, .int mk, .int (aft T m s), x10, x11, x12] [.ref 98] rfl ?_
      refine w_gr 65 rfl rfl rfl (A_k S 98 (by decide)) (A_r S 98 0 (by decide)) ?_
      refine w_N 2 66 [.ref 98, .int (nI p), .int s, .int (nI (k + 1)), .int (nI (awk s)), .int fs, .int ms, .int os, .int mk, .int (aft T m s), x10, x11, x12] [.int (aft T m s), .int (nI (awk s)), .ref 65] rfl ?_
      refine w_cc (w_vst rfl rfl rfl (Nat.le_of_ble_eq_true rfl) (Nat.le_of_ble_eq_true rfl) (T_kd (A_T65 S))) (t_valueTo (A_T65 S) H (awk_lt s)) ?_
      show lm_wp _ 7 69 [.ref 98, .int (nI p), .int s, .int (nI (k + 1)), .int (nI (awk s)), .int fs, .int ms, .int os, .int mk, .int (aft T m s), x10, x11, x12] [.int (val T (awk s) (aft T m s))] (hi', hl, X) _
      refine w_N 5 76 [.ref 98, .int (nI p), .int s, .int (nI (k + 1)), .int (nI (awk s)), .int fs, .int ms, .int os, .int mk, .int (aft T m s), .int (val T (awk s) (aft T m s)), .int 0, x12] [.int 1, .int (nI (k + 1))] rfl ?_
      refine w_icmp_le (t := 118) rfl rfl (fun c2 => ?_) (fun c2 => ?_)
      · refine w_N 2 122 [.ref 98, .int (nI p), .int s, .int (nI (k + 1)), .int (nI (awk s)), .int fs, .int ms, .int os, .int mk, .int (aft T m s), .int (val T (awk s) (aft T m s)), .int 0, x12] [.int ms, .int (val T (awk s) (aft T m s))] rfl ?_
        refine w_icmp_le (t := 137) rfl rfl (fun c3 => ?_) (fun c3 => ?_)
        · refine w_N 2 19 [.ref 98, .int (nI p), .int s, .int (nI (k + 1)), .int (nI (awk s)), .int fs, .int ms, .int os, .int (mk + 1), .int (aft T m s), .int (val T (awk s) (aft T m s)), .int 0, x12] [] rfl ?_
          have hk0 : k = 0 := by
            rw [show (1 : Int32) = nI 1 from rfl, nI_lt_iff (by omega) (by omega)] at c2
            omega
          have eo : val T (awk s) (aft T m s) = bso T k (bst T n k) s m := by
            unfold bso
            rw [if_pos hk0]
          have eh : (0 : Int32) = bsh T k (bst T n k) s m := by
            unfold bsh
            rw [if_pos hk0]
          have eb : bsl T k (bst T n k) s (m + 1) = bsl T k (bst T n k) s m := if_neg (fun z => by rw [← e2, ← eo] at z; exact c3 z.2)
          exact ih (m + 1) _ _ _ _ _ _ _ _ _ (by omega) (by rw [e1, eb]) (by rw [e2, eb]) (by rw [e3, eb]) (by rw [e4, aI_succ]) H M F
        · refine w_N 8 19 [.ref 98, .int (nI p), .int s, .int (nI (k + 1)), .int (nI (awk s)), .int mk, .int (val T (awk s) (aft T m s)), .int 0, .int (mk + 1), .int (aft T m s), .int (val T (awk s) (aft T m s)), .int 0, x12] [] rfl ?_
          have hk0 : k = 0 := by
            rw [show (1 : Int32) = nI 1 from rfl, nI_lt_iff (by omega) (by omega)] at c2
            omega
          have eo : val T (awk s) (aft T m s) = bso T k (bst T n k) s m := by
            unfold bso
            rw [if_pos hk0]
          have eh : (0 : Int32) = bsh T k (bst T n k) s m := by
            unfold bsh
            rw [if_pos hk0]
          have eb : bsl T k (bst T n k) s (m + 1) = (aI m, bso T k (bst T n k) s m, bsh T k (bst T n k) s m) := if_pos ⟨c1, by rw [← e2, ← eo]; exact c3⟩
          exact ih (m + 1) _ _ _ _ _ _ _ _ _ (by omega) (by rw [eb]; exact e4) (by rw [eb]; exact eo) (by rw [eb]; exact eh) (by rw [e4, aI_succ]) H M F
      · refine w_N 2 82 [.ref 98, .int (nI p), .int s, .int (nI (k + 1)), .int (nI (awk s)), .int fs, .int ms, .int os, .int mk, .int (aft T m s), .int (val T (awk s) (aft T m s)), .int 0, x12] [.int (aft T m s), .ref 98] rfl ?_
        refine w_cc rfl c_X4_nextDay ?_
        show lm_wp _ 7 85 [.ref 98, .int (nI p), .int s, .int (nI (k + 1)), .int (nI (awk s)), .int fs, .int ms, .int os, .int mk, .int (aft T m s), .int (val T (awk s) (aft T m s)), .int 0, x12] [.int (s_next (aft T m s)), .ref 98] (hi', hl, X) _
        refine w_N 3 88 [.ref 98, .int (nI p), .int s, .int (nI (k + 1)), .int (nI (awk s)), .int fs, .int ms, .int os, .int mk, .int (aft T m s), .int (val T (awk s) (aft T m s)), .int 0, x12] [.int ((nI (k + 1)) - 1), .int (s_next (aft T m s)), .ref 98] rfl ?_
        have hk1 : 1 ≤ k := by
          rw [show (1 : Int32) = nI 1 from rfl, nI_lt_iff (by omega) (by omega)] at c2
          omega
        have hok := aft_ok hT (show m ≤ n by omega) c1
        refine w_ca (w_vst rfl rfl rfl (Nat.le_of_ble_eq_true rfl) (Nat.le_of_ble_eq_true rfl) (A_k S 98 (by decide))) (lm_w_dep (Nat.le_succ d) (hPO hk1 _ _ _ _ _ _ _ S H hT M (okS_next (hok.1 hs)) (show nI (k + 1) - 1 = nI k from by rw [show (1 : Int32) = nI 1 from rfl, nI_sub (by omega)]; rfl))) ?_
        rintro _ _ ⟨hi1, p1, rfl, rfl, hp1, F1, M1, g1, g2, g3⟩
        show lm_wp _ 7 91 [.ref 98, .int (nI p), .int s, .int (nI (k + 1)), .int (nI (awk s)), .int fs, .int ms, .int os, .int mk, .int (aft T m s), .int (val T (awk s) (aft T m s)), .int 0, x12] [.int (nI p1)] (hi1, hl, X) _
        refine w_N 5 100 [.ref 98, .int (nI p), .int s, .int (nI (k + 1)), .int (nI (awk s)), .int fs, .int ms, .int os, .int mk, .int (aft T m s), .int (val T (awk s) (aft T m s)), .int 0, .int (nI p1)] [.int (nI (awk s)), .int (nI p1), .ref 98, .int (val T (awk s) (aft T m s))] rfl ?_
        refine w_cc (w_vst rfl rfl rfl (Nat.le_of_ble_eq_true rfl) (Nat.le_of_ble_eq_true rfl) (A_k S 98 (by decide))) (f_gainAt S hp1) ?_
        show lm_wp _ 7 103 [.ref 98, .int (nI p), .int s, .int (nI (k + 1)), .int (nI (awk s)), .int fs, .int ms, .int os, .int mk, .int (aft T m s), .int (val T (awk s) (aft T m s)), .int 0, .int (nI p1)] [.int (if nI (awk s) = 0 then hi1 101 p1 else hi1 102 p1), .int (val T (awk s) (aft T m s))] (hi1, hl, X) _
        refine w_N 7 113 [.ref 98, .int (nI p), .int s, .int (nI (k + 1)), .int (nI (awk s)), .int fs, .int ms, .int os, .int mk, .int (aft T m s), .int ((val T (awk s) (aft T m s)) + (if nI (awk s) = 0 then hi1 101 p1 else hi1 102 p1)), .int 0, .int (nI p1)] [.int (1 - (nI (awk s))), .int (nI p1), .ref 98] rfl ?_
        refine w_cc (w_vst rfl rfl rfl (Nat.le_of_ble_eq_true rfl) (Nat.le_of_ble_eq_true rfl) (A_k S 98 (by decide))) (f_gainAt (hf := 1 - awk s) S hp1 |> fun q => (h1m ▸ q)) ?_
        show lm_wp _ 7 116 [.ref 98, .int (nI p), .int s, .int (nI (k + 1)), .int (nI (awk s)), .int fs, .int ms, .int os, .int mk, .int (aft T m s), .int ((val T (awk s) (aft T m s)) + (if nI (awk s) = 0 then hi1 101 p1 else hi1 102 p1)), .int 0, .int (nI p1)] [.int (if 1 - nI (awk s) = 0 then hi1 101 p1 else hi1 102 p1)] (hi1, hl, X) _
        refine w_N 3 122 [.ref 98, .int (nI p), .int s, .int (nI (k + 1)), .int (nI (awk s)), .int fs, .int ms, .int os, .int mk, .int (aft T m s), .int ((val T (awk s) (aft T m s)) + (if nI (awk s) = 0 then hi1 101 p1 else hi1 102 p1)), .int (if 1 - nI (awk s) = 0 then hi1 101 p1 else hi1 102 p1), .int (nI p1)] [.int ms, .int ((val T (awk s) (aft T m s)) + (if nI (awk s) = 0 then hi1 101 p1 else hi1 102 p1))] rfl ?_
        refine w_icmp_le (t := 137) rfl rfl (fun c4 => ?_) (fun c4 => ?_)
        · refine w_N 2 19 [.ref 98, .int (nI p), .int s, .int (nI (k + 1)), .int (nI (awk s)), .int fs, .int ms, .int os, .int (mk + 1), .int (aft T m s), .int ((val T (awk s) (aft T m s)) + (if nI (awk s) = 0 then hi1 101 p1 else hi1 102 p1)), .int (if 1 - nI (awk s) = 0 then hi1 101 p1 else hi1 102 p1), .int (nI p1)] [] rfl ?_
          have hk0 : ¬ k = 0 := by omega
          have eo : val T (awk s) (aft T m s) + (if nI (awk s) = 0 then hi1 101 p1 else hi1 102 p1) = bso T k (bst T n k) s m := by
            unfold bso gAt
            rw [if_neg hk0, g2, g3]
            rcases (by have := awk_lt s; omega : awk s = 0 ∨ awk s = 1) with q | q <;> rw [q] <;> rfl
          have eh : (if 1 - nI (awk s) = 0 then hi1 101 p1 else hi1 102 p1) = bsh T k (bst T n k) s m := by
            unfold bsh gAt
            rw [if_neg hk0, g2, g3]
            rcases (by have := awk_lt s; omega : awk s = 0 ∨ awk s = 1) with q | q <;> rw [q] <;> rfl
          have eb : bsl T k (bst T n k) s (m + 1) = bsl T k (bst T n k) s m := if_neg (fun z => by rw [← e2, ← eo] at z; exact c4 z.2)
          exact ih (m + 1) _ _ _ _ _ _ _ _ _ (by omega) (by rw [e1, eb]) (by rw [e2, eb]) (by rw [e3, eb]) (by rw [e4, aI_succ]) (isT_fr F1 (by omega) H) M1 (fr_trans F F1)
        · refine w_N 8 19 [.ref 98, .int (nI p), .int s, .int (nI (k + 1)), .int (nI (awk s)), .int mk, .int ((val T (awk s) (aft T m s)) + (if nI (awk s) = 0 then hi1 101 p1 else hi1 102 p1)), .int (if 1 - nI (awk s) = 0 then hi1 101 p1 else hi1 102 p1), .int (mk + 1), .int (aft T m s), .int ((val T (awk s) (aft T m s)) + (if nI (awk s) = 0 then hi1 101 p1 else hi1 102 p1)), .int (if 1 - nI (awk s) = 0 then hi1 101 p1 else hi1 102 p1), .int (nI p1)] [] rfl ?_
          have hk0 : ¬ k = 0 := by omega
          have eo : val T (awk s) (aft T m s) + (if nI (awk s) = 0 then hi1 101 p1 else hi1 102 p1) = bso T k (bst T n k) s m := by
            unfold bso gAt
            rw [if_neg hk0, g2, g3]
            rcases (by have := awk_lt s; omega : awk s = 0 ∨ awk s = 1) with q | q <;> rw [q] <;> rfl
          have eh : (if 1 - nI (awk s) = 0 then hi1 101 p1 else hi1 102 p1) = bsh T k (bst T n k) s m := by
            unfold bsh gAt
            rw [if_neg hk0, g2, g3]
            rcases (by have := awk_lt s; omega : awk s = 0 ∨ awk s = 1) with q | q <;> rw [q] <;> rfl
          have eb : bsl T k (bst T n k) s (m + 1) = (aI m, bso T k (bst T n k) s m, bsh T k (bst T n k) s m) := if_pos ⟨c1, by rw [← e2, ← eo]; exact c4⟩
          exact ih (m + 1) _ _ _ _ _ _ _ _ _ (by omega) (by rw [eb]; exact e4) (by rw [eb]; exact eo) (by rw [eb]; exact eh) (by rw [e4, aI_succ]) (isT_fr F1 (by omega) H) M1 (fr_trans F F1)
theorem f_workOut {d : Nat} {hi : Nat → Nat → Int32} {hl : Nat → Nat → Int64} {X : lm_X} (S : sh_A X) {n k p : Nat} {T : lm_T} {s : Int32} (hT : okT T n) (hs : okS s) (hk : k < 4) (hp : p < 512) (hPO : 1 ≤ k → PO d k) (H : isT hi 65 T n) (M : memo hi T n) : lm_w (d + 2) 7 [.ref 98, .int (nI p), .int s, .int (nI (k + 1))] (hi, hl, X) (fun v h1 => ∃ hi', v = none ∧ h1 = (hi', hl, X) ∧ fr 99 103 hi hi' ∧ memoX hi' T n p ∧ hi' 100 p = (bst T n (k + 1) s).1 ∧ hi' 101 p = (bst T n (k + 1) s).2.1 ∧ hi' 102 p = (bst T n (k + 1) s).2.2) := by
  refine lm_w_in (Nat.le_of_ble_eq_true rfl) ?_
  show lm_wp (d + 2) 7 0 [.ref 98, .int (nI p), .int s, .int (nI (k + 1)), lm_jk, lm_jk, lm_jk, lm_jk, lm_jk, lm_jk, lm_jk, lm_jk, lm_jk] [] (hi, hl, X) _
  refine w_N 1 1 [.ref 98, .int (nI p), .int s, .int (nI (k + 1)), lm_jk, lm_jk, lm_jk, lm_jk, lm_jk, lm_jk, lm_jk, lm_jk, lm_jk] [.int s] rfl ?_
  refine w_cc rfl (c_awkz rfl) ?_
  show lm_wp _ 7 4 [.ref 98, .int (nI p), .int s, .int (nI (k + 1)), lm_jk, lm_jk, lm_jk, lm_jk, lm_jk, lm_jk, lm_jk, lm_jk, lm_jk] [.int (nI (awk s))] (hi, hl, X) _
  refine w_N 9 19 [.ref 98, .int (nI p), .int s, .int (nI (k + 1)), .int (nI (awk s)), .int (-1), .int (-2000000000), .int 0, .int (-1), lm_jk, lm_jk, lm_jk, lm_jk] [] rfl ?_
  refine f_wo1 (k := k) S hT hs hk hp hPO (fun hi1 x8 x9 x10 x11 x12 F M H => ?_) (n + 1) 0 hi _ _ _ _ _ _ _ _ (by omega) rfl rfl rfl rfl H M fr_rfl
  refine w_N 1 144 [.ref 98, .int (nI p), .int s, .int (nI (k + 1)), .int (nI (awk s)), .int ((bsl T k (bst T n k) s (n + 1)).1), .int ((bsl T k (bst T n k) s (n + 1)).2.1), .int ((bsl T k (bst T n k) s (n + 1)).2.2), x8, x9, x10, x11, x12] [.ref 98] rfl ?_
  refine w_gr 100 rfl rfl rfl (A_k S 98 (by decide)) (A_r S 98 2 (by decide)) ?_
  refine w_N 2 150 [.ref 98, .int (nI p), .int s, .int (nI (k + 1)), .int (nI (awk s)), .int ((bsl T k (bst T n k) s (n + 1)).1), .int ((bsl T k (bst T n k) s (n + 1)).2.1), .int ((bsl T k (bst T n k) s (n + 1)).2.2), x8, x9, x10, x11, x12] [.int ((bsl T k (bst T n k) s (n + 1)).1), .int (nI p), .ref 100] rfl ?_
  refine w_is p rfl (A_k S 100 (by decide)) (by decide) (show X.2.2.1 100 = 512 from A_l S 100 (by decide)) rfl (by omega) (by decide) ?_
  refine w_N 1 152 [.ref 98, .int (nI p), .int s, .int (nI (k + 1)), .int (nI (awk s)), .int ((bsl T k (bst T n k) s (n + 1)).1), .int ((bsl T k (bst T n k) s (n + 1)).2.1), .int ((bsl T k (bst T n k) s (n + 1)).2.2), x8, x9, x10, x11, x12] [.ref 98] rfl ?_
  refine w_gr 101 rfl rfl rfl (A_k S 98 (by decide)) (A_r S 98 3 (by decide)) ?_
  refine w_N 2 158 [.ref 98, .int (nI p), .int s, .int (nI (k + 1)), .int (nI (awk s)), .int ((bsl T k (bst T n k) s (n + 1)).1), .int ((bsl T k (bst T n k) s (n + 1)).2.1), .int ((bsl T k (bst T n k) s (n + 1)).2.2), x8, x9, x10, x11, x12] [.int (nI (awk s)), .int (nI p), .ref 101] rfl ?_
  refine w_if_ne (t := 166) rfl rfl (fun c1 => ?_) (fun c1 => ?_)
  · refine w_N 1 168 [.ref 98, .int (nI p), .int s, .int (nI (k + 1)), .int (nI (awk s)), .int ((bsl T k (bst T n k) s (n + 1)).1), .int ((bsl T k (bst T n k) s (n + 1)).2.1), .int ((bsl T k (bst T n k) s (n + 1)).2.2), x8, x9, x10, x11, x12] [.int ((bsl T k (bst T n k) s (n + 1)).2.2), .int (nI p), .ref 101] rfl ?_
    refine w_is p rfl (A_k S 101 (by decide)) (by decide) (show X.2.2.1 101 = 512 from A_l S 101 (by decide)) rfl (by omega) (by decide) ?_
    refine w_N 1 170 [.ref 98, .int (nI p), .int s, .int (nI (k + 1)), .int (nI (awk s)), .int ((bsl T k (bst T n k) s (n + 1)).1), .int ((bsl T k (bst T n k) s (n + 1)).2.1), .int ((bsl T k (bst T n k) s (n + 1)).2.2), x8, x9, x10, x11, x12] [.ref 98] rfl ?_
    refine w_gr 102 rfl rfl rfl (A_k S 98 (by decide)) (A_r S 98 4 (by decide)) ?_
    refine w_N 2 176 [.ref 98, .int (nI p), .int s, .int (nI (k + 1)), .int (nI (awk s)), .int ((bsl T k (bst T n k) s (n + 1)).1), .int ((bsl T k (bst T n k) s (n + 1)).2.1), .int ((bsl T k (bst T n k) s (n + 1)).2.2), x8, x9, x10, x11, x12] [.int (nI (awk s)), .int (nI p), .ref 102] rfl ?_
    refine w_if_ne_t (t := 184) rfl rfl c1 ?_
    refine w_N 1 186 [.ref 98, .int (nI p), .int s, .int (nI (k + 1)), .int (nI (awk s)), .int ((bsl T k (bst T n k) s (n + 1)).1), .int ((bsl T k (bst T n k) s (n + 1)).2.1), .int ((bsl T k (bst T n k) s (n + 1)).2.2), x8, x9, x10, x11, x12] [.int ((bsl T k (bst T n k) s (n + 1)).2.1), .int (nI p), .ref 102] rfl ?_
    refine w_is p rfl (A_k S 102 (by decide)) (by decide) (show X.2.2.1 102 = 512 from A_l S 102 (by decide)) rfl (by omega) (by decide) ?_
    refine w_rv rfl rfl ?_
    have q : awk s ≠ 0 := by
      intro q; rw [q] at c1; exact c1 rfl
    refine ⟨_, rfl, rfl, fr_up (fr_up (fr_up F (by decide)) (by decide)) (by decide), ?_, ?_, ?_, ?_⟩
    · intro p1 h1 h2
      have := M p1 h1 (by omega)
      simp only [lm_up, h2, if_false, ite_self]
      exact this
    · simp [lm_up, bst, bsr]
    · simp [lm_up, bst, bsr, q]
    · simp [lm_up, bst, bsr, q]
  · refine w_N 2 168 [.ref 98, .int (nI p), .int s, .int (nI (k + 1)), .int (nI (awk s)), .int ((bsl T k (bst T n k) s (n + 1)).1), .int ((bsl T k (bst T n k) s (n + 1)).2.1), .int ((bsl T k (bst T n k) s (n + 1)).2.2), x8, x9, x10, x11, x12] [.int ((bsl T k (bst T n k) s (n + 1)).2.1), .int (nI p), .ref 101] rfl ?_
    refine w_is p rfl (A_k S 101 (by decide)) (by decide) (show X.2.2.1 101 = 512 from A_l S 101 (by decide)) rfl (by omega) (by decide) ?_
    refine w_N 1 170 [.ref 98, .int (nI p), .int s, .int (nI (k + 1)), .int (nI (awk s)), .int ((bsl T k (bst T n k) s (n + 1)).1), .int ((bsl T k (bst T n k) s (n + 1)).2.1), .int ((bsl T k (bst T n k) s (n + 1)).2.2), x8, x9, x10, x11, x12] [.ref 98] rfl ?_
    refine w_gr 102 rfl rfl rfl (A_k S 98 (by decide)) (A_r S 98 4 (by decide)) ?_
    refine w_N 2 176 [.ref 98, .int (nI p), .int s, .int (nI (k + 1)), .int (nI (awk s)), .int ((bsl T k (bst T n k) s (n + 1)).1), .int ((bsl T k (bst T n k) s (n + 1)).2.1), .int ((bsl T k (bst T n k) s (n + 1)).2.2), x8, x9, x10, x11, x12] [.int (nI (awk s)), .int (nI p), .ref 102] rfl ?_
    refine w_if_ne_f (t := 184) rfl rfl c1 ?_
    refine w_N 2 186 [.ref 98, .int (nI p), .int s, .int (nI (k + 1)), .int (nI (awk s)), .int ((bsl T k (bst T n k) s (n + 1)).1), .int ((bsl T k (bst T n k) s (n + 1)).2.1), .int ((bsl T k (bst T n k) s (n + 1)).2.2), x8, x9, x10, x11, x12] [.int ((bsl T k (bst T n k) s (n + 1)).2.2), .int (nI p), .ref 102] rfl ?_
    refine w_is p rfl (A_k S 102 (by decide)) (by decide) (show X.2.2.1 102 = 512 from A_l S 102 (by decide)) rfl (by omega) (by decide) ?_
    refine w_rv rfl rfl ?_
    have q : awk s = 0 := by
      exact (nI_inj (b := 0) (by have := awk_lt s; omega) (by decide)).mp c1
    refine ⟨_, rfl, rfl, fr_up (fr_up (fr_up F (by decide)) (by decide)) (by decide), ?_, ?_, ?_, ?_⟩
    · intro p1 h1 h2
      have := M p1 h1 (by omega)
      simp only [lm_up, h2, if_false, ite_self]
      exact this
    · simp [lm_up, bst, bsr]
    · simp [lm_up, bst, bsr, q]
    · simp [lm_up, bst, bsr, q]
theorem PO_of {d k : Nat} (hk : k < 4) (hPO : 1 ≤ k → PO d k) : PO (d + 3) (k + 1) := by
  intro hi hl X T n s x S H hT M hs hx
  subst hx
  obtain ⟨p, hp, ep⟩ := spr_lt (key (k + 1) s * (-1640531535))
  refine lm_w_in (Nat.le_of_ble_eq_true rfl) ?_
  show lm_wp (d + 3) 6 0 [.ref 98, .int s, .int (nI (k + 1)), lm_jk, lm_jk] [] (hi, hl, X) _
  refine w_N 13 17 [.ref 98, .int s, .int (nI (k + 1)), .int (((nI (k + 1)) <<< (29 &&& 31)) ||| s), .int ((((((nI (k + 1)) <<< (29 &&& 31)) ||| s) * (-1640531535)).toUInt32 >>> (Int32.toUInt32 23 &&& Int32.toUInt32 31)).toInt32)] [.ref 98] rfl ?_
  refine w_gr 99 rfl rfl rfl (A_k S 98 (by decide)) (A_r S 98 1 (by decide)) ?_
  refine w_N 1 22 [.ref 98, .int s, .int (nI (k + 1)), .int (((nI (k + 1)) <<< (29 &&& 31)) ||| s), .int ((((((nI (k + 1)) <<< (29 &&& 31)) ||| s) * (-1640531535)).toUInt32 >>> (Int32.toUInt32 23 &&& Int32.toUInt32 31)).toInt32)] [.int ((((((nI (k + 1)) <<< (29 &&& 31)) ||| s) * (-1640531535)).toUInt32 >>> (Int32.toUInt32 23 &&& Int32.toUInt32 31)).toInt32), .ref 99] rfl ?_
  refine w_ia p (v := hi 99 p) rfl (A_k S 99 (by decide)) (show X.2.2.1 99 = 512 from A_l S 99 (by decide)) ep hp (by decide) (rfl) ?_
  refine w_N 1 24 [.ref 98, .int s, .int (nI (k + 1)), .int (((nI (k + 1)) <<< (29 &&& 31)) ||| s), .int ((((((nI (k + 1)) <<< (29 &&& 31)) ||| s) * (-1640531535)).toUInt32 >>> (Int32.toUInt32 23 &&& Int32.toUInt32 31)).toInt32)] [.int (((nI (k + 1)) <<< (29 &&& 31)) ||| s), .int (hi 99 p)] rfl ?_
  refine w_icmp_eq (t := 43) rfl rfl (fun c1 => ?_) (fun c1 => ?_)
  · refine w_N 1 45 [.ref 98, .int s, .int (nI (k + 1)), .int (((nI (k + 1)) <<< (29 &&& 31)) ||| s), .int ((((((nI (k + 1)) <<< (29 &&& 31)) ||| s) * (-1640531535)).toUInt32 >>> (Int32.toUInt32 23 &&& Int32.toUInt32 31)).toInt32)] [.int ((((((nI (k + 1)) <<< (29 &&& 31)) ||| s) * (-1640531535)).toUInt32 >>> (Int32.toUInt32 23 &&& Int32.toUInt32 31)).toInt32)] rfl ?_
    refine w_ri rfl rfl ?_
    rcases M p hp (by omega) with z | ⟨k1, s1, h1, h2, h3, h4, h5, h6, h7⟩
    · exact absurd (c1.symm.trans z) (key_ne (by omega) (by omega) hs)
    · obtain ⟨rfl, rfl⟩ := key_inj (by omega) (by omega) hs h3 (show key (k + 1) s = key k1 s1 from c1.symm.trans h4)
      exact ⟨hi, p, congrArg (fun z => some (Value.int z)) ep, rfl, hp, fr_rfl, M, h5, h6, h7⟩
  · refine w_N 4 32 [.ref 98, .int s, .int (nI (k + 1)), .int (((nI (k + 1)) <<< (29 &&& 31)) ||| s), .int ((((((nI (k + 1)) <<< (29 &&& 31)) ||| s) * (-1640531535)).toUInt32 >>> (Int32.toUInt32 23 &&& Int32.toUInt32 31)).toInt32)] [.int (nI (k + 1)), .int s, .int ((((((nI (k + 1)) <<< (29 &&& 31)) ||| s) * (-1640531535)).toUInt32 >>> (Int32.toUInt32 23 &&& Int32.toUInt32 31)).toInt32), .ref 98] rfl ?_
    refine w_ca (w_vst rfl rfl rfl (Nat.le_of_ble_eq_true rfl) (Nat.le_of_ble_eq_true rfl) (A_k S 98 (by decide))) (ep ▸ f_workOut S hT hs hk hp hPO H M) ?_
    rintro _ _ ⟨hi1, rfl, rfl, F1, M1, g1, g2, g3⟩
    show lm_wp _ 6 35 [.ref 98, .int s, .int (nI (k + 1)), .int (((nI (k + 1)) <<< (29 &&& 31)) ||| s), .int ((((((nI (k + 1)) <<< (29 &&& 31)) ||| s) * (-1640531535)).toUInt32 >>> (Int32.toUInt32 23 &&& Int32.toUInt32 31)).toInt32)] [] (hi1, hl, X) _
    refine w_N 1 36 [.ref 98, .int s, .int (nI (k + 1)), .int (((nI (k + 1)) <<< (29 &&& 31)) ||| s), .int ((((((nI (k + 1)) <<< (29 &&& 31)) ||| s) * (-1640531535)).toUInt32 >>> (Int32.toUInt32 23 &&& Int32.toUInt32 31)).toInt32)] [.ref 98] rfl ?_
    refine w_gr 99 rfl rfl rfl (A_k S 98 (by decide)) (A_r S 98 1 (by decide)) ?_
    refine w_N 2 42 [.ref 98, .int s, .int (nI (k + 1)), .int (((nI (k + 1)) <<< (29 &&& 31)) ||| s), .int ((((((nI (k + 1)) <<< (29 &&& 31)) ||| s) * (-1640531535)).toUInt32 >>> (Int32.toUInt32 23 &&& Int32.toUInt32 31)).toInt32)] [.int (((nI (k + 1)) <<< (29 &&& 31)) ||| s), .int ((((((nI (k + 1)) <<< (29 &&& 31)) ||| s) * (-1640531535)).toUInt32 >>> (Int32.toUInt32 23 &&& Int32.toUInt32 31)).toInt32), .ref 99] rfl ?_
    refine w_is p rfl (A_k S 99 (by decide)) (by decide) (show X.2.2.1 99 = 512 from A_l S 99 (by decide)) ep hp (by decide) ?_
    refine w_N 1 45 [.ref 98, .int s, .int (nI (k + 1)), .int (((nI (k + 1)) <<< (29 &&& 31)) ||| s), .int ((((((nI (k + 1)) <<< (29 &&& 31)) ||| s) * (-1640531535)).toUInt32 >>> (Int32.toUInt32 23 &&& Int32.toUInt32 31)).toInt32)] [.int ((((((nI (k + 1)) <<< (29 &&& 31)) ||| s) * (-1640531535)).toUInt32 >>> (Int32.toUInt32 23 &&& Int32.toUInt32 31)).toInt32)] rfl ?_
    refine w_ri rfl rfl ?_
    refine ⟨_, p, congrArg (fun z => some (Value.int z)) ep, rfl, hp, fr_up F1 (by decide), ?_, ?_, ?_, ?_⟩
    · intro p1 h1 h2
      by_cases e : p1 = p
      · subst e
        refine Or.inr ⟨k + 1, s, by omega, by omega, hs, ?_, ?_, ?_, ?_⟩
        · simp [lm_up]; rfl
        · simp [lm_up, g1]
        · simp [lm_up, g2]
        · simp [lm_up, g3]
      · have := M1 p1 h1 e
        simp only [lm_up, e, if_false, ite_self]
        exact this
    · simp [lm_up, g1]
    · simp [lm_up, g2]
    · simp [lm_up, g3]
theorem PO_0 : ∀ k d, k < 4 → PO (d + 3 * k + 3) (k + 1) := by
  intro k
  induction k with
  | zero => intro d _; exact PO_of (by decide) (fun z => absurd z (by decide))
  | succ k ih => intro d h; exact PO_of h (fun _ => ih d (by omega))
theorem f_placeOf {d : Nat} {hi : Nat → Nat → Int32} {hl : Nat → Nat → Int64} {X : lm_X} (S : sh_A X) {n k : Nat} {T : lm_T} {s : Int32} (H : isT hi 65 T n) (hT : okT T n) (M : memo hi T n) (hs : okS s) (h1 : 1 ≤ k) (h4 : k ≤ 4) : lm_w (d + 12) 6 [.ref 98, .int s, .int (nI k)] (hi, hl, X) (poP hi hl X T n k s) := by
  obtain ⟨k, rfl⟩ : ∃ j, k = j + 1 := ⟨k - 1, by omega⟩
  exact lm_w_dep (d := d + 3 * k + 3) (by omega) (PO_0 k d (by omega) _ _ _ _ _ _ _ S H hT M hs rfl)
/-- what is kept is of this town, if nothing has changed since -/
def fok (hi : Nat → Nat → Int32) (T : lm_T) (n C : Nat) : Prop := ∃ c e : Nat, hi 98 5 = nI e ∧ hi 65 16 = nI c ∧ e ≤ c ∧ c ≤ C ∧ C < 2147483648 ∧ (e = c → memo hi T n)
theorem fok_fr {hi hi' : Nat → Nat → Int32} {T : lm_T} {n C lo up : Nat} (f : fr lo up hi hi') (hd : (66 ≤ lo ∧ up ≤ 98) ∨ 103 ≤ lo ∨ up ≤ 65) (H : fok hi T n C) : fok hi' T n C := by
  obtain ⟨c, e, h1, h2, h3, h4, h5, h6⟩ := H
  refine ⟨c, e, by rw [f 98 (by omega)]; exact h1, by rw [f 65 (by omega)]; exact h2, h3, h4, h5, fun z => memo_fr f (by omega) (h6 z)⟩
/-- the town has changed -/
theorem fok_ch {hi hi' : Nat → Nat → Int32} {T T' : lm_T} {n n' C : Nat} (f : fr 65 75 hi hi') (hc : hi' 65 16 = hi 65 16 + 1) (hC : C + 1 < 2147483648) (H : fok hi T n C) : fok hi' T' n' (C + 1) := by
  obtain ⟨c, e, h1, h2, h3, h4, h5, h6⟩ := H
  refine ⟨c + 1, e, by rw [f 98 (by omega)]; exact h1, by rw [hc, h2, nI_succ], by omega, by omega, hC, fun z => absurd z (by omega)⟩
theorem fok_same {hi hi' : Nat → Nat → Int32} {T : lm_T} {n C : Nat} (f : fr 65 75 hi hi') (hc : hi' 65 16 = hi 65 16) (H : fok hi T n C) : fok hi' T n C := by
  obtain ⟨c, e, h1, h2, h3, h4, h5, h6⟩ := H
  refine ⟨c, e, by rw [f 98 (by omega)]; exact h1, by rw [hc]; exact h2, h3, h4, h5, fun z => memo_fr f (by omega) (h6 z)⟩
theorem f_forget {d : Nat} {hi : Nat → Nat → Int32} {hl : Nat → Nat → Int64} {X : lm_X} (S : sh_A X) {n C : Nat} {T : lm_T} (FO : fok hi T n C) : lm_w (d + 1) 4 [.ref 98] (hi, hl, X) (fun v h1 => ∃ hi', v = none ∧ h1 = (hi', hl, X) ∧ fr 98 103 hi hi' ∧ memo hi' T n ∧ hi' 98 5 = hi 65 16) := by
  refine lm_w_in (Nat.le_of_ble_eq_true rfl) ?_
  show lm_wp (d + 1) 4 0 [.ref 98] [] (hi, hl, X) _
  refine w_N 1 1 [.ref 98] [.ref 98] rfl ?_
  refine w_gi (v := hi 98 5) rfl rfl rfl (A_k S 98 (by decide)) (rfl) ?_
  refine w_N 1 5 [.ref 98] [.ref 98, .int (hi 98 5)] rfl ?_
  refine w_gr 65 rfl rfl rfl (A_k S 98 (by decide)) (A_r S 98 0 (by decide)) ?_
  refine w_gi (v := hi 65 16) rfl rfl rfl (T_kd (A_T65 S)) (rfl) ?_
  refine w_icmp_eq (t := 33) rfl rfl (fun c1 => ?_) (fun c1 => ?_)
  · refine w_rv rfl rfl ?_
    obtain ⟨c, e, h1, h2, h3, h4, h5, h6⟩ := FO
    have ec : e = c := (nI_inj (by omega) (by omega)).mp (h1.symm.trans (c1.trans h2))
    exact ⟨hi, rfl, rfl, fr_rfl, h6 ec, c1⟩
  · refine w_N 1 15 [.ref 98] [.ref 98] rfl ?_
    refine w_gr 99 rfl rfl rfl (A_k S 98 (by decide)) (A_r S 98 1 (by decide)) ?_
    refine w_N 1 19 [.ref 98] [.int 0, .ref 99] rfl ?_
    refine w_cc rfl (c_fillI (A_k S 99 (by decide)) (by decide) (show X.2.2.1 99 = 512 from A_l S 99 (by decide)) (by decide)) ?_
    show lm_wp _ 4 22 [.ref 98] [] (lm_row hi 99 (flr (hi 99) 512 0), hl, X) _
    refine w_N 2 24 [.ref 98] [.ref 98, .ref 98] rfl ?_
    refine w_gr 65 rfl rfl rfl (A_k S 98 (by decide)) (A_r S 98 0 (by decide)) ?_
    refine w_gi (v := hi 65 16) rfl rfl rfl (T_kd (A_T65 S)) ((congrFun (lm_rw_na (by decide)) _).trans (rfl)) ?_
    refine w_pi rfl rfl rfl rfl (A_k S 98 (by decide)) (by decide) ?_
    refine w_rv rfl rfl ?_
    refine ⟨_, rfl, rfl, fr_up (fr_row fr_rfl (by decide)) (by decide), ?_, ?_⟩
    · intro p h1 h2
      left
      simp [lm_up, lm_row, flr, h1]
    · simp [lm_up]
theorem f_firstAct {d : Nat} {hi : Nat → Nat → Int32} {hl : Nat → Nat → Int64} {X : lm_X} (S : sh_A X) {n C : Nat} {T : lm_T} (FO : fok hi T n C) {k : Nat} {s : Int32} (H : isT hi 65 T n) (hT : okT T n) (hs : okS s) (h1 : 1 ≤ k) (h4 : k ≤ 4) : lm_w (d + 13) 2 [.ref 98, .int s, .int (nI k)] (hi, hl, X) (fun v h1 => ∃ hi', v = some (.int (bst T n k s).1) ∧ h1 = (hi', hl, X) ∧ fr 98 103 hi hi' ∧ fok hi' T n C) := by
  refine lm_w_in (Nat.le_of_ble_eq_true rfl) ?_
  show lm_wp (d + 13) 2 0 [.ref 98, .int s, .int (nI k)] [] (hi, hl, X) _
  refine w_N 1 1 [.ref 98, .int s, .int (nI k)] [.ref 98] rfl ?_
  refine w_ca (w_vst rfl rfl rfl (Nat.le_of_ble_eq_true rfl) (Nat.le_of_ble_eq_true rfl) (A_k S 98 (by decide))) (lm_w_dep (d := d + 1) (by omega) (f_forget S FO)) ?_
  rintro _ _ ⟨hi1, rfl, rfl, F1, M1, c1⟩
  show lm_wp _ 2 4 [.ref 98, .int s, .int (nI k)] [] (hi1, hl, X) _
  refine w_N 1 5 [.ref 98, .int s, .int (nI k)] [.ref 98] rfl ?_
  refine w_gr 100 rfl rfl rfl (A_k S 98 (by decide)) (A_r S 98 2 (by decide)) ?_
  refine w_N 3 11 [.ref 98, .int s, .int (nI k)] [.int (nI k), .int s, .ref 98, .ref 100] rfl ?_
  refine w_ca (w_vst rfl rfl rfl (Nat.le_of_ble_eq_true rfl) (Nat.le_of_ble_eq_true rfl) (A_k S 98 (by decide))) (f_placeOf S (isT_fr F1 (by omega) H) hT M1 hs h1 h4) ?_
  rintro _ _ ⟨hi2, p, rfl, rfl, hp, F2, M2, g1, g2, g3⟩
  show lm_wp _ 2 14 [.ref 98, .int s, .int (nI k)] [.int (nI p), .ref 100] (hi2, hl, X) _
  refine w_ia p (v := hi2 100 p) rfl (A_k S 100 (by decide)) (show X.2.2.1 100 = 512 from A_l S 100 (by decide)) rfl hp (by decide) (rfl) ?_
  refine w_ri rfl rfl ?_
  have F := fr_trans F1 (fr_mono F2 (show 98 ≤ 99 ∧ 103 ≤ 103 by decide))
  obtain ⟨c, e, q1, q2, q3, q4, q5, q6⟩ := FO
  have FOK : fok hi2 T n C := ⟨c, c, by rw [F2 98 (by omega), c1, q2], by rw [F 65 (by omega), q2], Nat.le_refl _, q4, q5, fun _ => M2⟩
  exact ⟨hi2, by rw [g1], rfl, F, FOK⟩
theorem f_gainOf {d : Nat} {hi : Nat → Nat → Int32} {hl : Nat → Nat → Int64} {X : lm_X} (S : sh_A X) {n C : Nat} {T : lm_T} (FO : fok hi T n C) {k : Nat} {s : Int32} (H : isT hi 65 T n) (hT : okT T n) (hs : okS s) (h1 : 1 ≤ k) (h4 : k ≤ 4) {hf : Nat} (hh : hf < 2) : lm_w (d + 13) 3 [.ref 98, .int (nI hf), .int s, .int (nI k)] (hi, hl, X) (fun v h1 => ∃ hi', v = some (.int (gAt (bst T n k s) hf)) ∧ h1 = (hi', hl, X) ∧ fr 98 103 hi hi' ∧ fok hi' T n C) := by
  refine lm_w_in (Nat.le_of_ble_eq_true rfl) ?_
  show lm_wp (d + 13) 3 0 [.ref 98, .int (nI hf), .int s, .int (nI k)] [] (hi, hl, X) _
  refine w_N 1 1 [.ref 98, .int (nI hf), .int s, .int (nI k)] [.ref 98] rfl ?_
  refine w_ca (w_vst rfl rfl rfl (Nat.le_of_ble_eq_true rfl) (Nat.le_of_ble_eq_true rfl) (A_k S 98 (by decide))) (lm_w_dep (d := d + 1) (by omega) (f_forget S FO)) ?_
  rintro _ _ ⟨hi1, rfl, rfl, F1, M1, c1⟩
  show lm_wp _ 3 4 [.ref 98, .int (nI hf), .int s, .int (nI k)] [] (hi1, hl, X) _
  refine w_N 4 8 [.ref 98, .int (nI hf), .int s, .int (nI k)] [.int (nI k), .int s, .ref 98, .ref 98] rfl ?_
  refine w_ca (w_vst rfl rfl rfl (Nat.le_of_ble_eq_true rfl) (Nat.le_of_ble_eq_true rfl) (A_k S 98 (by decide))) (f_placeOf S (isT_fr F1 (by omega) H) hT M1 hs h1 h4) ?_
  rintro _ _ ⟨hi2, p, rfl, rfl, hp, F2, M2, g1, g2, g3⟩
  show lm_wp _ 3 11 [.ref 98, .int (nI hf), .int s, .int (nI k)] [.int (nI p), .ref 98] (hi2, hl, X) _
  refine w_N 1 12 [.ref 98, .int (nI hf), .int s, .int (nI k)] [.int (nI hf), .int (nI p), .ref 98] rfl ?_
  refine w_cc (w_vst rfl rfl rfl (Nat.le_of_ble_eq_true rfl) (Nat.le_of_ble_eq_true rfl) (A_k S 98 (by decide))) (f_gainAt S hp) ?_
  show lm_wp _ 3 15 [.ref 98, .int (nI hf), .int s, .int (nI k)] [.int (if nI hf = 0 then hi2 101 p else hi2 102 p)] (hi2, hl, X) _
  refine w_ri rfl rfl ?_
  have F := fr_trans F1 (fr_mono F2 (show 98 ≤ 99 ∧ 103 ≤ 103 by decide))
  obtain ⟨c, e, q1, q2, q3, q4, q5, q6⟩ := FO
  have FOK : fok hi2 T n C := ⟨c, c, by rw [F2 98 (by omega), c1, q2], by rw [F 65 (by omega), q2], Nat.le_refl _, q4, q5, fun _ => M2⟩
  refine ⟨hi2, ?_, rfl, F, FOK⟩
  rw [g2, g3]
  rcases (by omega : hf = 0 ∨ hf = 1) with q | q <;> rw [q] <;> rfl
