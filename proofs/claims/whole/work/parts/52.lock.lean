set_option maxRecDepth 16384
/-! calls: up, locking, which -/
def upS (T : lm_T) (n k : Nat) (s : Int32) : Nat → Int32
  | 0 => gAt (bst T n k s) (awk s)
  | a + 1 => if alw T (a + 1) (awk s) s = true then mx (upS T n k s a) (gAt (bst T n k (aft T (a + 1) s)) (awk s)) else upS T n k s a
theorem x_up_b {d : Nat} {hi : Nat → Nat → Int32} {hl : Nat → Nat → Int64} {X : lm_X} {hi0 : Nat → Nat → Int32} {hl0 : Nat → Nat → Int64} {C n ts : Nat} {T : lm_T} {R : Nat → Int32} {KO : ab_K} {V : ab_V} {tl F : Nat → Int32} (P : cP hi0 hl0 hi hl X C T n R KO V ts tl F) {k : Int32}  (hb : (wi k 1 3) = false) (hC : C + 25 < 2147483648) : lm_w (d + 30) 123 [.ref 64, .int k] (hi, hl, X) (cQ hi0 hl0 X (C + 25) (.int (-1000002)) T n R KO V ts tl (rfU F (-2))) := by
  obtain ⟨S, O, H, HR, FO, HV, HT, HF, HK, E0, EL0⟩ := id P
  refine lm_w_in (Nat.le_of_ble_eq_true rfl) ?_
  show lm_wp (d + 30) 123 0 [.ref 64, .int k, lm_jk, lm_jk, lm_jk, lm_jk] [] (hi, hl, X) _
  refine w_N 3 3 [.ref 64, .int k, lm_jk, lm_jk, lm_jk, lm_jk] [.int 3, .int 1, .int k] rfl ?_
  refine w_cc rfl x_within ?_
  show lm_wp _ 123 6 [.ref 64, .int k, lm_jk, lm_jk, lm_jk, lm_jk] [.int (bz (wi k 1 3))] (hi, hl, X) _
  refine w_zne (t := 16) rfl rfl (fun c1 => ?_) (fun c1 => ?_)
  · exact absurd hb (by simp [c1])
  · refine w_N 2 12 [.ref 64, .int k, lm_jk, lm_jk, lm_jk, lm_jk] [.int (-2), .ref 64] rfl ?_
    refine w_ca (w_vst rfl rfl rfl (Nat.le_of_ble_eq_true rfl) (Nat.le_of_ble_eq_true rfl) (A_k S 64 (by decide))) (x_refuseGain P (by unfold isW; decide)) ?_
    rintro _ _ ⟨rfl, hi9, rfl, P9⟩
    show lm_wp _ 123 15 [.ref 64, .int k, lm_jk, lm_jk, lm_jk, lm_jk] [.int (-1000002)] (hi9, hl, X) _
    refine w_ri rfl rfl ?_
    exact cq_ P9 (by omega) hC
theorem y_up_b {d : Nat} {hi : Nat → Nat → Int32} {hl : Nat → Nat → Int64} {X : lm_X} {hi0 : Nat → Nat → Int32} {hl0 : Nat → Nat → Int64} {X0 : lm_X} {n ts : Nat} {T : lm_T} {R : Nat → Int32} {KO : ab_K} {V : ab_V} {tl F : Nat → Int32} (P : mP hi0 hl0 X0 hi hl X T n R KO V ts tl F) {k : Int32}  (hb : (wi k 1 3) = false) : lm_w (d + 30) 216 [.ref 123, .int k] (hi, hl, X) (mQ hi0 hl0 X0 (.int (-1000002)) T n R KO V ts tl (rfU F (-2))) := by
  obtain ⟨SR, O, H, HR, HV, HT, HF, HK, E0, EL0, EX0⟩ := id P
  have S := SR.1
  refine lm_w_in (Nat.le_of_ble_eq_true rfl) ?_
  show lm_wp (d + 30) 216 0 [.ref 123, .int k, lm_jk, lm_jk, lm_jk, lm_jk, lm_jk, lm_jk] [] (hi, hl, X) _
  refine w_N 4 6 [.ref 123, .int k, lm_jk, lm_jk, lm_jk, lm_jk, lm_jk, lm_jk] [.long 3, .long 1, .long k.toInt64] rfl ?_
  refine w_cc rfl (m_in (x := k) (lo := 1) (up := 3) rfl (by decide) (by decide)) ?_
  show lm_wp _ 216 9 [.ref 123, .int k, lm_jk, lm_jk, lm_jk, lm_jk, lm_jk, lm_jk] [.int (bz (wi k 1 3))] (hi, hl, X) _
  refine w_zne (t := 22) rfl rfl (fun c1 => ?_) (fun c1 => ?_)
  · exact absurd hb (by simp [c1])
  · refine w_N 3 17 [.ref 123, .int k, lm_jk, lm_jk, lm_jk, lm_jk, lm_jk, lm_jk] [.int (-2), .ref 123, .int (-1000000)] rfl ?_
    refine w_ca (w_vst rfl rfl rfl (Nat.le_of_ble_eq_true rfl) (Nat.le_of_ble_eq_true rfl) (M_kd S)) (m_refuse P (by unfold isW; decide)) ?_
    rintro _ _ ⟨rfl, hi9, rfl, P9⟩
    show lm_wp _ 216 20 [.ref 123, .int k, lm_jk, lm_jk, lm_jk, lm_jk, lm_jk, lm_jk] [.int (-2), .int (-1000000)] (hi9, hl, X) _
    refine w_N 1 21 [.ref 123, .int k, lm_jk, lm_jk, lm_jk, lm_jk, lm_jk, lm_jk] [.int (-1000002)] rfl ?_
    refine w_ri rfl rfl ?_
    exact mq_ P9
theorem x_up1 {d : Nat} {hi : Nat → Nat → Int32} {hl : Nat → Nat → Int64} {X : lm_X} {hi0 : Nat → Nat → Int32} {hl0 : Nat → Nat → Int64} {C n ts : Nat} {T : lm_T} {R : Nat → Int32} {KO : ab_K} {V : ab_V} {tl F : Nat → Int32} {B D : Nat} (Z : okZ B D T n R KO V ts tl) {k : Nat} (hk1 : 1 ≤ k) (hk3 : k ≤ 3) {Po : Option Value → lm_H → Prop} (kc : ∀ (c : Int32) (hi' : Nat → Nat → Int32), cP hi0 hl0 hi' hl X C T n R KO V ts tl F → lm_wp (d + 30) 123 120 [.ref 64, .int (nI k), .int (nI (awk (R 10))), .int (gAt (bst T n k (R 10)) (awk (R 10))), .int (upS T n k (R 10) n), .int c] [] (hi', hl, X) Po) : ∀ (r m : Nat) (hi' : Nat → Nat → Int32) (ms : Int32) (mk : Int32), m + r = n → (ms = upS T n k (R 10) m) → (mk = nI m) → (cP hi0 hl0 hi' hl X C T n R KO V ts tl F) → lm_wp (d + 30) 123 50 [.ref 64, .int (nI k), .int (nI (awk (R 10))), .int (gAt (bst T n k (R 10)) (awk (R 10))), .int ms, .int mk] [] (hi', hl, X) Po := by
  intro r
  induction r with
  | zero =>
    intro m hi' ms mk hm e1 e2 P
    obtain ⟨S, O, H, HR, FO, HV, HT, HF, HK, E0, EL0⟩ := id P
    refine w_N 2 53 [.ref 64, .int (nI k), .int (nI (awk (R 10))), .int (gAt (bst T n k (R 10)) (awk (R 10))), .int ms, .int mk] [.ref 64, .int mk] rfl ?_
    refine w_gr 65 rfl rfl rfl (A_k S 64 (by decide)) (A_r S 64 0 (by decide)) ?_
    refine w_gi (v := nI n) rfl rfl rfl (T_kd (A_T65 S)) (isTn H) ?_
    refine w_icmp_ge_t (t := 120) rfl rfl (by rw [e2, show m = n by omega]; exact fun z => Int32.lt_irrefl z) ?_
    obtain rfl : m = n := by omega
    rw [e1]
    exact kc _ _ P
  | succ r ih =>
    intro m hi' ms mk hm e1 e2 P
    obtain ⟨S, O, H, HR, FO, HV, HT, HF, HK, E0, EL0⟩ := id P
    obtain ⟨hT, hO, hV, hts, htl, hDB, hB0, hKO⟩ := id Z
    have hn10 := isTle H
    refine w_N 2 53 [.ref 64, .int (nI k), .int (nI (awk (R 10))), .int (gAt (bst T n k (R 10)) (awk (R 10))), .int ms, .int mk] [.ref 64, .int mk] rfl ?_
    refine w_gr 65 rfl rfl rfl (A_k S 64 (by decide)) (A_r S 64 0 (by decide)) ?_
    refine w_gi (v := nI n) rfl rfl rfl (T_kd (A_T65 S)) (isTn H) ?_
    refine w_icmp_ge_f (t := 120) rfl rfl (by rw [e2]; exact nI_lt (by omega) (by omega)) ?_
    refine w_N 1 63 [.ref 64, .int (nI k), .int (nI (awk (R 10))), .int (gAt (bst T n k (R 10)) (awk (R 10))), .int ms, .int mk] [.ref 64] rfl ?_
    refine w_gr 65 rfl rfl rfl (A_k S 64 (by decide)) (A_r S 64 0 (by decide)) ?_
    refine w_N 3 70 [.ref 64, .int (nI k), .int (nI (awk (R 10))), .int (gAt (bst T n k (R 10)) (awk (R 10))), .int ms, .int mk] [.ref 64, .int (nI (awk (R 10))), .int mk, .ref 65] rfl ?_
    refine w_gr 65 rfl rfl rfl (A_k S 64 (by decide)) (A_r S 64 0 (by decide)) ?_
    refine w_gi (v := R 10) rfl rfl rfl (T_kd (A_T65 S)) (HR.1) ?_
    refine w_cc (w_vst rfl rfl rfl (Nat.le_of_ble_eq_true rfl) (Nat.le_of_ble_eq_true rfl) (T_kd (A_T65 S))) (t_allowsE (d := d + 28) (i := m + 1) (hf := awk (R 10)) (A_T65 S) H e2 rfl (by omega)) ?_
    show lm_wp _ 123 79 [.ref 64, .int (nI k), .int (nI (awk (R 10))), .int (gAt (bst T n k (R 10)) (awk (R 10))), .int ms, .int mk] [.int (bz (alw T (m + 1) (awk (R 10)) (R 10)))] (hi', hl, X) _
    refine w_zeq (t := 114) rfl rfl (fun c1 => ?_) (fun c1 => ?_)
    · refine w_N 2 50 [.ref 64, .int (nI k), .int (nI (awk (R 10))), .int (gAt (bst T n k (R 10)) (awk (R 10))), .int ms, .int (mk + 1)] [] rfl ?_
      refine ih (m + 1) _ _ _ (by omega) ?_ (by rw [e2, nI_succ]) P
      show _ = if alw T (m + 1) (awk (R 10)) (R 10) = true then mx (upS T n k (R 10) m) (gAt (bst T n k (aft T (m + 1) (R 10))) (awk (R 10))) else upS T n k (R 10) m
      rw [c1, if_neg (by decide)]; exact e1
    · refine w_N 2 85 [.ref 64, .int (nI k), .int (nI (awk (R 10))), .int (gAt (bst T n k (R 10)) (awk (R 10))), .int ms, .int mk] [.ref 64, .int ms] rfl ?_
      refine w_gr 98 rfl rfl rfl (A_k S 64 (by decide)) (A_r S 64 6 (by decide)) ?_
      refine w_N 2 90 [.ref 64, .int (nI k), .int (nI (awk (R 10))), .int (gAt (bst T n k (R 10)) (awk (R 10))), .int ms, .int mk] [.ref 64, .int (nI (awk (R 10))), .ref 98, .int ms] rfl ?_
      refine w_gr 65 rfl rfl rfl (A_k S 64 (by decide)) (A_r S 64 0 (by decide)) ?_
      refine w_N 2 96 [.ref 64, .int (nI k), .int (nI (awk (R 10))), .int (gAt (bst T n k (R 10)) (awk (R 10))), .int ms, .int mk] [.ref 64, .int mk, .ref 65, .int (nI (awk (R 10))), .ref 98, .int ms] rfl ?_
      refine w_gr 65 rfl rfl rfl (A_k S 64 (by decide)) (A_r S 64 0 (by decide)) ?_
      refine w_gi (v := R 10) rfl rfl rfl (T_kd (A_T65 S)) (HR.1) ?_
      refine w_cc (w_vst rfl rfl rfl (Nat.le_of_ble_eq_true rfl) (Nat.le_of_ble_eq_true rfl) (T_kd (A_T65 S))) (t_afterE (d := d + 28) (i := m + 1) (A_T65 S) H e2 (by omega)) ?_
      show lm_wp _ 123 105 [.ref 64, .int (nI k), .int (nI (awk (R 10))), .int (gAt (bst T n k (R 10)) (awk (R 10))), .int ms, .int mk] [.int (aft T (m + 1) (R 10)), .int (nI (awk (R 10))), .ref 98, .int ms] (hi', hl, X) _
      refine w_N 1 106 [.ref 64, .int (nI k), .int (nI (awk (R 10))), .int (gAt (bst T n k (R 10)) (awk (R 10))), .int ms, .int mk] [.int (nI k), .int (aft T (m + 1) (R 10)), .int (nI (awk (R 10))), .ref 98, .int ms] rfl ?_
      refine w_ca (w_vst rfl rfl rfl (Nat.le_of_ble_eq_true rfl) (Nat.le_of_ble_eq_true rfl) (A_k S 98 (by decide))) (f_gainOf (d := d + 16) (hf := awk (R 10)) S FO H hT ((aft_ok hT (by omega) c1).1 hO.1) hk1 (show k ≤ 4 by omega) (awk_lt _)) ?_
      rintro _ _ ⟨hx1, rfl, rfl, f_hx1, FO_hx1⟩
      have P := cP_fore P (fr_mono f_hx1 (by decide)) FO_hx1
      obtain ⟨S, O, H, HR, FO, HV, HT, HF, HK, E0, EL0⟩ := id P
      show lm_wp _ 123 109 [.ref 64, .int (nI k), .int (nI (awk (R 10))), .int (gAt (bst T n k (R 10)) (awk (R 10))), .int ms, .int mk] [.int (gAt (bst T n k (aft T (m + 1) (R 10))) (awk (R 10))), .int ms] (hx1, hl, X) _
      refine w_N 4 50 [.ref 64, .int (nI k), .int (nI (awk (R 10))), .int (gAt (bst T n k (R 10)) (awk (R 10))), .int (if ms < gAt (bst T n k (aft T (m + 1) (R 10))) (awk (R 10)) then gAt (bst T n k (aft T (m + 1) (R 10))) (awk (R 10)) else ms), .int (mk + 1)] [] rfl ?_
      refine ih (m + 1) _ _ _ (by omega) ?_ (by rw [e2, nI_succ]) P
      show _ = if alw T (m + 1) (awk (R 10)) (R 10) = true then mx (upS T n k (R 10) m) (gAt (bst T n k (aft T (m + 1) (R 10))) (awk (R 10))) else upS T n k (R 10) m
      rw [c1, if_pos rfl, ← e1]; rfl
theorem x_up {d : Nat} {hi : Nat → Nat → Int32} {hl : Nat → Nat → Int64} {X : lm_X} {hi0 : Nat → Nat → Int32} {hl0 : Nat → Nat → Int64} {C n ts : Nat} {T : lm_T} {R : Nat → Int32} {KO : ab_K} {V : ab_V} {tl F : Nat → Int32} (P : cP hi0 hl0 hi hl X C T n R KO V ts tl F) {B D : Nat} (Z : okZ B D T n R KO V ts tl) {k : Nat} (hk1 : 1 ≤ k) (hk3 : k ≤ 3) (hC : C + 25 < 2147483648) : lm_w (d + 30) 123 [.ref 64, .int (nI k)] (hi, hl, X) (cQ hi0 hl0 X (C + 25) (.int (upS T n k (R 10) n - gAt (bst T n k (R 10)) (awk (R 10)))) T n R KO V ts tl F) := by
  obtain ⟨S, O, H, HR, FO, HV, HT, HF, HK, E0, EL0⟩ := id P
  obtain ⟨hT, hO, hV, hts, htl, hDB, hB0, hKO⟩ := id Z
  refine lm_w_in (Nat.le_of_ble_eq_true rfl) ?_
  show lm_wp (d + 30) 123 0 [.ref 64, .int (nI k), lm_jk, lm_jk, lm_jk, lm_jk] [] (hi, hl, X) _
  refine w_N 3 3 [.ref 64, .int (nI k), lm_jk, lm_jk, lm_jk, lm_jk] [.int 3, .int 1, .int (nI k)] rfl ?_
  refine w_cc rfl (x_within1 (wi_t1 (n := 3) hk1 hk3 (by decide))) ?_
  show lm_wp _ 123 6 [.ref 64, .int (nI k), lm_jk, lm_jk, lm_jk, lm_jk] [.int 1] (hi, hl, X) _
  refine w_if_ne_t (t := 16) rfl rfl (by decide) ?_
  refine w_N 1 17 [.ref 64, .int (nI k), lm_jk, lm_jk, lm_jk, lm_jk] [.ref 64] rfl ?_
  refine w_gr 65 rfl rfl rfl (A_k S 64 (by decide)) (A_r S 64 0 (by decide)) ?_
  refine w_gi (v := R 10) rfl rfl rfl (T_kd (A_T65 S)) (HR.1) ?_
  refine w_cc rfl (c_awkz rfl) ?_
  show lm_wp _ 123 26 [.ref 64, .int (nI k), lm_jk, lm_jk, lm_jk, lm_jk] [.int (nI (awk (R 10)))] (hi, hl, X) _
  refine w_N 2 28 [.ref 64, .int (nI k), .int (nI (awk (R 10))), lm_jk, lm_jk, lm_jk] [.ref 64] rfl ?_
  refine w_gr 98 rfl rfl rfl (A_k S 64 (by decide)) (A_r S 64 6 (by decide)) ?_
  refine w_N 2 33 [.ref 64, .int (nI k), .int (nI (awk (R 10))), lm_jk, lm_jk, lm_jk] [.ref 64, .int (nI (awk (R 10))), .ref 98] rfl ?_
  refine w_gr 65 rfl rfl rfl (A_k S 64 (by decide)) (A_r S 64 0 (by decide)) ?_
  refine w_gi (v := R 10) rfl rfl rfl (T_kd (A_T65 S)) (HR.1) ?_
  refine w_N 1 40 [.ref 64, .int (nI k), .int (nI (awk (R 10))), lm_jk, lm_jk, lm_jk] [.int (nI k), .int (R 10), .int (nI (awk (R 10))), .ref 98] rfl ?_
  refine w_ca (w_vst rfl rfl rfl (Nat.le_of_ble_eq_true rfl) (Nat.le_of_ble_eq_true rfl) (A_k S 98 (by decide))) (f_gainOf (d := d + 16) (hf := awk (R 10)) S FO H hT hO.1 hk1 (show k ≤ 4 by omega) (awk_lt _)) ?_
  rintro _ _ ⟨hx2, rfl, rfl, f_hx2, FO_hx2⟩
  have P := cP_fore P (fr_mono f_hx2 (by decide)) FO_hx2
  obtain ⟨S, O, H, HR, FO, HV, HT, HF, HK, E0, EL0⟩ := id P
  show lm_wp _ 123 43 [.ref 64, .int (nI k), .int (nI (awk (R 10))), lm_jk, lm_jk, lm_jk] [.int (gAt (bst T n k (R 10)) (awk (R 10)))] (hx2, hl, X) _
  refine w_N 5 50 [.ref 64, .int (nI k), .int (nI (awk (R 10))), .int (gAt (bst T n k (R 10)) (awk (R 10))), .int (gAt (bst T n k (R 10)) (awk (R 10))), .int 0] [] rfl ?_
  refine x_up1 (hi := hi) Z hk1 hk3 (fun c h7x P => ?_) n 0 _ _ _ (by omega) rfl rfl P
  refine w_N 3 124 _ [.int (upS T n k (R 10) n - gAt (bst T n k (R 10)) (awk (R 10)))] rfl ?_
  refine w_ri rfl rfl ?_
  exact cq_ P (by omega) hC
theorem y_up1 {d : Nat} {hi : Nat → Nat → Int32} {hl : Nat → Nat → Int64} {X : lm_X} {hi0 : Nat → Nat → Int32} {hl0 : Nat → Nat → Int64} {X0 : lm_X} {n ts : Nat} {T : lm_T} {R : Nat → Int32} {KO : ab_K} {V : ab_V} {tl F : Nat → Int32} {B D : Nat} (Z : okZ B D T n R KO V ts tl) {k : Nat} (hk1 : 1 ≤ k) (hk3 : k ≤ 3) {Po : Option Value → lm_H → Prop} (kc : ∀ (c : Int32) (hi' : Nat → Nat → Int32), mP hi0 hl0 X0 hi' hl X T n R KO V ts tl F → lm_wp (d + 30) 216 133 [.ref 123, .int (nI k), .int (nI (awk (R 10))), .int (gAt (bst T n k (R 10)) (awk (R 10))), .int (upS T n k (R 10) n), .long (stg (R 10)), lm_jk, .int c] [] (hi', hl, X) Po) : ∀ (r m : Nat) (hi' : Nat → Nat → Int32) (ms : Int32) (mk : Int32), m + r = n → (ms = upS T n k (R 10) m) → (mk = nI m) → (mP hi0 hl0 X0 hi' hl X T n R KO V ts tl F) → lm_wp (d + 30) 216 59 [.ref 123, .int (nI k), .int (nI (awk (R 10))), .int (gAt (bst T n k (R 10)) (awk (R 10))), .int ms, .long (stg (R 10)), lm_jk, .int mk] [] (hi', hl, X) Po := by
  intro r
  induction r with
  | zero =>
    intro m hi' ms mk hm e1 e2 P
    obtain ⟨SR, O, H, HR, HV, HT, HF, HK, E0, EL0, EX0⟩ := id P
    have S := SR.1
    refine w_N 2 62 [.ref 123, .int (nI k), .int (nI (awk (R 10))), .int (gAt (bst T n k (R 10)) (awk (R 10))), .int ms, .long (stg (R 10)), lm_jk, .int mk] [.ref 123, .int mk] rfl ?_
    refine w_gi (v := nI n) rfl rfl rfl (M_kd S) (rTn H) ?_
    refine w_icmp_ge_t (t := 133) rfl rfl (by rw [e2, show m = n by omega]; exact fun z => Int32.lt_irrefl z) ?_
    obtain rfl : m = n := by omega
    rw [e1]
    exact kc _ _ P
  | succ r ih =>
    intro m hi' ms mk hm e1 e2 P
    obtain ⟨SR, O, H, HR, HV, HT, HF, HK, E0, EL0, EX0⟩ := id P
    have S := SR.1
    obtain ⟨hT, hO, hV, hts, htl, hDB, hB0, hKO⟩ := id Z
    have hn10 := rTle H
    refine w_N 2 62 [.ref 123, .int (nI k), .int (nI (awk (R 10))), .int (gAt (bst T n k (R 10)) (awk (R 10))), .int ms, .long (stg (R 10)), lm_jk, .int mk] [.ref 123, .int mk] rfl ?_
    refine w_gi (v := nI n) rfl rfl rfl (M_kd S) (rTn H) ?_
    refine w_icmp_ge_f (t := 133) rfl rfl (by rw [e2]; exact nI_lt (by omega) (by omega)) ?_
    refine w_N 3 72 [.ref 123, .int (nI k), .int (nI (awk (R 10))), .int (gAt (bst T n k (R 10)) (awk (R 10))), .int ms, .long (stg (R 10)), lm_jk, .int mk] [.int (nI (awk (R 10))), .int mk, .ref 123] rfl ?_
    refine w_cc (w_vst rfl rfl rfl (Nat.le_of_ble_eq_true rfl) (Nat.le_of_ble_eq_true rfl) (M_kd S)) (m_canBeE (d := d + 28) (a := m) (hf := awk (R 10)) S H HR.1 hT e2 rfl (by omega)) ?_
    show lm_wp _ 216 75 [.ref 123, .int (nI k), .int (nI (awk (R 10))), .int (gAt (bst T n k (R 10)) (awk (R 10))), .int ms, .long (stg (R 10)), lm_jk, .int mk] [.int (bz (alw T (m + 1) (awk (R 10)) (R 10)))] (hi', hl, X) _
    refine w_zeq (t := 127) rfl rfl (fun c1 => ?_) (fun c1 => ?_)
    · refine w_N 2 59 [.ref 123, .int (nI k), .int (nI (awk (R 10))), .int (gAt (bst T n k (R 10)) (awk (R 10))), .int ms, .long (stg (R 10)), lm_jk, .int (mk + 1)] [] rfl ?_
      refine ih (m + 1) _ _ _ (by omega) ?_ (by rw [e2, nI_succ]) P
      show _ = if alw T (m + 1) (awk (R 10)) (R 10) = true then mx (upS T n k (R 10) m) (gAt (bst T n k (aft T (m + 1) (R 10))) (awk (R 10))) else upS T n k (R 10) m
      rw [c1, if_neg (by decide)]; exact e1
    · refine w_N 2 81 [.ref 123, .int (nI k), .int (nI (awk (R 10))), .int (gAt (bst T n k (R 10)) (awk (R 10))), .int ms, .long (stg (R 10)), lm_jk, .int mk] [.int mk, .ref 123] rfl ?_
      refine w_ca (w_vst rfl rfl rfl (Nat.le_of_ble_eq_true rfl) (Nat.le_of_ble_eq_true rfl) (M_kd S)) (m_doIt (d := d + 29) (hf := awk (R 10)) (i := m + 1) S H HR.1 hT e2 (by omega) c1) ?_
      rintro _ _ ⟨h1x, rfl, rfl, S1, X1, D1⟩
      have H1 := rT_X X1 H
      have D1a : h1x 123 14 = nI D := D1.trans (HR.2.2.1.trans hO.2.2.1)
      show lm_wp _ 216 84 [.ref 123, .int (nI k), .int (nI (awk (R 10))), .int (gAt (bst T n k (R 10)) (awk (R 10))), .int ms, .long (stg (R 10)), lm_jk, .int mk] [] (h1x, hl, X) _
      refine w_N 3 87 [.ref 123, .int (nI k), .int (nI (awk (R 10))), .int (gAt (bst T n k (R 10)) (awk (R 10))), .int ms, .long (stg (R 10)), lm_jk, .int mk] [.ref 123, .int (nI k), .ref 123] rfl ?_
      refine w_gi (v := nI D) rfl rfl rfl (M_kd S) (D1a) ?_
      refine w_ca (w_vst rfl rfl rfl (Nat.le_of_ble_eq_true rfl) (Nat.le_of_ble_eq_true rfl) (M_kd S)) (m_findBest (d := d + 24) (k := k) S H1 S1 hT ((aft_ok hT (by omega) c1).2.trans hO.2.2.2.1) (by omega) hk1 (by omega) rfl rfl) ?_
      rintro _ _ ⟨h2x, rfl, rfl, f2, -, g5a, g5b, g5c⟩
      have g2 := gAt_of g5a g5b (awk_lt (R 10))
      show lm_wp _ 216 93 [.ref 123, .int (nI k), .int (nI (awk (R 10))), .int (gAt (bst T n k (R 10)) (awk (R 10))), .int ms, .long (stg (R 10)), lm_jk, .int mk] [] (h2x, hl, X) _
      refine w_N 2 96 [.ref 123, .int (nI k), .int (nI (awk (R 10))), .int (gAt (bst T n k (R 10)) (awk (R 10))), .int ms, .long (stg (R 10)), lm_jk, .int mk] [.long (stg (R 10)), .ref 123] rfl ?_
      refine w_ca (w_vst rfl rfl rfl (Nat.le_of_ble_eq_true rfl) (Nat.le_of_ble_eq_true rfl) (M_kd S)) (m_putBack (d := d + 29) (s := R 10) S) ?_
      rintro _ _ ⟨h3x, rfl, rfl, S3, X3, D3⟩
      have D3a : h3x 123 14 = hi' 123 14 := by rw [D3, f2 123 (by decide), D1]
      have P := mP_scr P (rX_back X1 f2 X3 (by decide) HR.1 S3 D3a)
      have g3 : h3x (123 + (37 + k)) (awk (R 10)) = gAt (bst T n k (aft T (m + 1) (R 10))) (awk (R 10)) := by rw [X3.1 _ (by omega) (by omega)]; exact g2
      obtain ⟨SR, O, H, HR, HV, HT, HF, HK, E0, EL0, EX0⟩ := id P
      have S := SR.1
      show lm_wp _ 216 99 [.ref 123, .int (nI k), .int (nI (awk (R 10))), .int (gAt (bst T n k (R 10)) (awk (R 10))), .int ms, .long (stg (R 10)), lm_jk, .int mk] [] (h3x, hl, X) _
      refine w_N 1 100 [.ref 123, .int (nI k), .int (nI (awk (R 10))), .int (gAt (bst T n k (R 10)) (awk (R 10))), .int ms, .long (stg (R 10)), lm_jk, .int mk] [.ref 123] rfl ?_
      refine w_gr 159 rfl rfl rfl (M_kd S) (M_r S (k := 33) (o := 36) rfl) ?_
      refine w_N 1 104 [.ref 123, .int (nI k), .int (nI (awk (R 10))), .int (gAt (bst T n k (R 10)) (awk (R 10))), .int ms, .long (stg (R 10)), lm_jk, .int mk] [.int (nI k), .ref 159] rfl ?_
      refine w_aa k (123 + (37 + k)) rfl (M_kk S (o := 36) (by decide)) (show X.2.2.1 (159) = 5 from M_l S 36 (by decide)) rfl (by omega) (by decide) (M_bgr S (by omega)) ?_
      refine w_N 1 106 [.ref 123, .int (nI k), .int (nI (awk (R 10))), .int (gAt (bst T n k (R 10)) (awk (R 10))), .int ms, .long (stg (R 10)), lm_jk, .int mk] [.int (nI (awk (R 10))), .ref (123 + (37 + k))] rfl ?_
      refine w_ia (awk (R 10)) (v := gAt (bst T n k (aft T (m + 1) (R 10))) (awk (R 10))) rfl (M_bgk S (by omega)) (M_bgl S (by omega)) rfl (awk_lt _) (by decide) (g3) ?_
      refine w_N 1 109 [.ref 123, .int (nI k), .int (nI (awk (R 10))), .int (gAt (bst T n k (R 10)) (awk (R 10))), .int ms, .long (stg (R 10)), lm_jk, .int mk] [.int ms, .int (gAt (bst T n k (aft T (m + 1) (R 10))) (awk (R 10)))] rfl ?_
      refine w_icmp_le (t := 123) rfl rfl (fun c2 => ?_) (fun c2 => ?_)
      · refine w_N 4 59 [.ref 123, .int (nI k), .int (nI (awk (R 10))), .int (gAt (bst T n k (R 10)) (awk (R 10))), .int ms, .long (stg (R 10)), lm_jk, .int (mk + 1)] [] rfl ?_
        refine ih (m + 1) _ _ _ (by omega) ?_ (by rw [e2, nI_succ]) P
        show _ = if alw T (m + 1) (awk (R 10)) (R 10) = true then mx (upS T n k (R 10) m) (gAt (bst T n k (aft T (m + 1) (R 10))) (awk (R 10))) else upS T n k (R 10) m
        rw [c1, if_pos rfl, ← e1]
        unfold mx
        rw [if_neg c2]
      · refine w_N 1 113 [.ref 123, .int (nI k), .int (nI (awk (R 10))), .int (gAt (bst T n k (R 10)) (awk (R 10))), .int ms, .long (stg (R 10)), lm_jk, .int mk] [.ref 123] rfl ?_
        refine w_gr 159 rfl rfl rfl (M_kd S) (M_r S (k := 33) (o := 36) rfl) ?_
        refine w_N 1 117 [.ref 123, .int (nI k), .int (nI (awk (R 10))), .int (gAt (bst T n k (R 10)) (awk (R 10))), .int ms, .long (stg (R 10)), lm_jk, .int mk] [.int (nI k), .ref 159] rfl ?_
        refine w_aa k (123 + (37 + k)) rfl (M_kk S (o := 36) (by decide)) (show X.2.2.1 (159) = 5 from M_l S 36 (by decide)) rfl (by omega) (by decide) (M_bgr S (by omega)) ?_
        refine w_N 1 119 [.ref 123, .int (nI k), .int (nI (awk (R 10))), .int (gAt (bst T n k (R 10)) (awk (R 10))), .int ms, .long (stg (R 10)), lm_jk, .int mk] [.int (nI (awk (R 10))), .ref (123 + (37 + k))] rfl ?_
        refine w_ia (awk (R 10)) (v := gAt (bst T n k (aft T (m + 1) (R 10))) (awk (R 10))) rfl (M_bgk S (by omega)) (M_bgl S (by omega)) rfl (awk_lt _) (by decide) (g3) ?_
        refine w_N 4 59 [.ref 123, .int (nI k), .int (nI (awk (R 10))), .int (gAt (bst T n k (R 10)) (awk (R 10))), .int (gAt (bst T n k (aft T (m + 1) (R 10))) (awk (R 10))), .long (stg (R 10)), lm_jk, .int (mk + 1)] [] rfl ?_
        refine ih (m + 1) _ _ _ (by omega) ?_ (by rw [e2, nI_succ]) P
        show _ = if alw T (m + 1) (awk (R 10)) (R 10) = true then mx (upS T n k (R 10) m) (gAt (bst T n k (aft T (m + 1) (R 10))) (awk (R 10))) else upS T n k (R 10) m
        rw [c1, if_pos rfl, ← e1]
        unfold mx
        rw [if_pos c2]
theorem y_up {d : Nat} {hi : Nat → Nat → Int32} {hl : Nat → Nat → Int64} {X : lm_X} {hi0 : Nat → Nat → Int32} {hl0 : Nat → Nat → Int64} {X0 : lm_X} {n ts : Nat} {T : lm_T} {R : Nat → Int32} {KO : ab_K} {V : ab_V} {tl F : Nat → Int32} (P : mP hi0 hl0 X0 hi hl X T n R KO V ts tl F) {B D : Nat} (Z : okZ B D T n R KO V ts tl) {k : Nat} (hk1 : 1 ≤ k) (hk3 : k ≤ 3) : lm_w (d + 30) 216 [.ref 123, .int (nI k)] (hi, hl, X) (mQ hi0 hl0 X0 (.int (upS T n k (R 10) n - gAt (bst T n k (R 10)) (awk (R 10)))) T n R KO V ts tl F) := by
  obtain ⟨SR, O, H, HR, HV, HT, HF, HK, E0, EL0, EX0⟩ := id P
  have S := SR.1
  obtain ⟨hT, hO, hV, hts, htl, hDB, hB0, hKO⟩ := id Z
  refine lm_w_in (Nat.le_of_ble_eq_true rfl) ?_
  show lm_wp (d + 30) 216 0 [.ref 123, .int (nI k), lm_jk, lm_jk, lm_jk, lm_jk, lm_jk, lm_jk] [] (hi, hl, X) _
  refine w_N 4 6 [.ref 123, .int (nI k), lm_jk, lm_jk, lm_jk, lm_jk, lm_jk, lm_jk] [.long 3, .long 1, .long ((nI k).toInt64)] rfl ?_
  refine w_cc rfl (lm_c_1 (m_in (x := nI k) (lo := 1) (up := 3) rfl (by decide) (by decide)) (wi_t1 (n := 3) hk1 hk3 (by decide))) ?_
  show lm_wp _ 216 9 [.ref 123, .int (nI k), lm_jk, lm_jk, lm_jk, lm_jk, lm_jk, lm_jk] [.int 1] (hi, hl, X) _
  refine w_if_ne_t (t := 22) rfl rfl (by decide) ?_
  refine w_N 1 23 [.ref 123, .int (nI k), lm_jk, lm_jk, lm_jk, lm_jk, lm_jk, lm_jk] [.ref 123] rfl ?_
  refine w_gi (v := nI D) rfl rfl rfl (M_kd S) (HR.2.2.1.trans hO.2.2.1) ?_
  refine w_N 1 27 [.ref 123, .int (nI k), lm_jk, lm_jk, lm_jk, lm_jk, lm_jk, lm_jk] [.int 2, .int (nI D)] rfl ?_
  refine w_rem rfl (by decide) ?_
  rw [hrem (s := R 10) hO.2.2.2.1 (by omega)]
  refine w_N 4 32 [.ref 123, .int (nI k), .int (nI (awk (R 10))), lm_jk, lm_jk, lm_jk, lm_jk, lm_jk] [.ref 123, .int (nI k), .ref 123] rfl ?_
  refine w_gi (v := nI D) rfl rfl rfl (M_kd S) (HR.2.2.1.trans hO.2.2.1) ?_
  refine w_ca (w_vst rfl rfl rfl (Nat.le_of_ble_eq_true rfl) (Nat.le_of_ble_eq_true rfl) (M_kd S)) (m_findBest (d := d + 24) (k := k) S H HR.1 hT hO.2.2.2.1 (by omega) hk1 (by omega) rfl rfl) ?_
  rintro _ _ ⟨h5x, rfl, rfl, f5, -, g5a, g5b, g5c⟩
  have P := mP_scr P f5
  have g5 := gAt_of g5a g5b (awk_lt (R 10))
  obtain ⟨SR, O, H, HR, HV, HT, HF, HK, E0, EL0, EX0⟩ := id P
  have S := SR.1
  show lm_wp _ 216 38 [.ref 123, .int (nI k), .int (nI (awk (R 10))), lm_jk, lm_jk, lm_jk, lm_jk, lm_jk] [] (h5x, hl, X) _
  refine w_N 1 39 [.ref 123, .int (nI k), .int (nI (awk (R 10))), lm_jk, lm_jk, lm_jk, lm_jk, lm_jk] [.ref 123] rfl ?_
  refine w_gr 159 rfl rfl rfl (M_kd S) (M_r S (k := 33) (o := 36) rfl) ?_
  refine w_N 1 43 [.ref 123, .int (nI k), .int (nI (awk (R 10))), lm_jk, lm_jk, lm_jk, lm_jk, lm_jk] [.int (nI k), .ref 159] rfl ?_
  refine w_aa k (123 + (37 + k)) rfl (M_kk S (o := 36) (by decide)) (show X.2.2.1 (159) = 5 from M_l S 36 (by decide)) rfl (by omega) (by decide) (M_bgr S (by omega)) ?_
  refine w_N 1 45 [.ref 123, .int (nI k), .int (nI (awk (R 10))), lm_jk, lm_jk, lm_jk, lm_jk, lm_jk] [.int (nI (awk (R 10))), .ref (123 + (37 + k))] rfl ?_
  refine w_ia (awk (R 10)) (v := gAt (bst T n k (R 10)) (awk (R 10))) rfl (M_bgk S (by omega)) (M_bgl S (by omega)) rfl (awk_lt _) (by decide) (g5) ?_
  refine w_N 4 51 [.ref 123, .int (nI k), .int (nI (awk (R 10))), .int (gAt (bst T n k (R 10)) (awk (R 10))), .int (gAt (bst T n k (R 10)) (awk (R 10))), lm_jk, lm_jk, lm_jk] [.ref 123] rfl ?_
  refine w_cc (w_vst rfl rfl rfl (Nat.le_of_ble_eq_true rfl) (Nat.le_of_ble_eq_true rfl) (M_kd S)) (m_standing S HR.1) ?_
  show lm_wp _ 216 54 [.ref 123, .int (nI k), .int (nI (awk (R 10))), .int (gAt (bst T n k (R 10)) (awk (R 10))), .int (gAt (bst T n k (R 10)) (awk (R 10))), lm_jk, lm_jk, lm_jk] [.long (stg (R 10))] (h5x, hl, X) _
  refine w_N 3 59 [.ref 123, .int (nI k), .int (nI (awk (R 10))), .int (gAt (bst T n k (R 10)) (awk (R 10))), .int (gAt (bst T n k (R 10)) (awk (R 10))), .long (stg (R 10)), lm_jk, .int 0] [] rfl ?_
  refine y_up1 (hi := hi) Z hk1 hk3 (fun c h7x P => ?_) n 0 _ _ _ (by omega) rfl rfl P
  refine w_N 3 137 _ [.int (upS T n k (R 10) n - gAt (bst T n k (R 10)) (awk (R 10)))] rfl ?_
  refine w_ri rfl rfl ?_
  exact mq_ P
theorem st_up {B D : Nat} {n ts : Nat} {T : lm_T} {R : Nat → Int32} {KO : ab_K} {V : ab_V} {tl F : Nat → Int32} {k : Int32} (Z : okZ B D T n R KO V ts tl) (hB : B + 20 < 2000000) : STEP B 123 216 [.int k] T n R KO V ts tl F := by
  obtain ⟨hT, hO, hV, hts, htl, hDB, hB0, hKO⟩ := id Z
  cases hb : wi k 1 3
  · exact ⟨_, D, _, _, _, _, _, _, _, _, okZ_up Z hB, fun _ _ _ _ _ _ P hC => x_up_b (d := 10) P hb hC, fun _ _ _ _ _ _ P => y_up_b (d := 10) P hb⟩
  · obtain ⟨k, rfl, hk1, hk3⟩ := wi_e1 (n := 3) hb (by decide)
    exact ⟨_, D, _, _, _, _, _, _, _, _, okZ_up Z hB, fun _ _ _ _ _ _ P hC => x_up (d := 10) P Z hk1 hk3 hC, fun _ _ _ _ _ _ P => y_up (d := 10) P Z hk1 hk3⟩
theorem lk_back : ∀ l, l < 4 → ∀ h, h < 2 → lkd (nI l) h = false → lkS (lkS (nI l) h true) h false = nI l := by decide
theorem lk_sh : ∀ l, l < 4 → ∀ h, h < 2 → nI l ||| ((2 : Int32) >>> (nI h &&& 31)) = lkS (nI l) (1 - h) true := by decide
theorem lk_un : ∀ l, l < 4 → ∀ h, h < 2 → l &&& 1 = l &&& 1 → lkS (nI l) (1 - h) true &&& (((2 : Int32) >>> (nI h &&& 31)) ^^^ (-1)) = lkS (lkS (nI l) (1 - h) true) (1 - h) false := by decide
/-- the town with an act locked for the other half -/
def lkT (T : lm_T) (a h : Nat) : lm_T := lm_up T 6 a (lkS (T 6 a) (1 - h) true)
theorem okT_lk {T : lm_T} {n a h : Nat} (hT : okT T n) (ha : a < n) (hh : h < 2) : okT (lkT T a h) n := by
  obtain ⟨k0, m0, c0, x0, dd, bb, l, -, -, -, -, -, -, -, -, -, -, -, -, -, el, hl4⟩ := hT.1 a ha
  obtain ⟨l2, hl2, e2⟩ := lk_ok l hl4 (1 - h) (by omega) true
  exact okT_l hT hl2 (by rw [el]; exact e2)
theorem lkT_b {T : lm_T} {n a h : Nat} (hT : okT T n) (ha : a < n) (hh : h < 2) (h0 : lkd (T 6 a) (1 - h) = false) : lm_up (lkT T a h) 6 a (lkS (lkT T a h 6 a) (1 - h) false) = T := by
  obtain ⟨k0, m0, c0, x0, dd, bb, l, -, -, -, -, -, -, -, -, -, -, -, -, -, el, hl4⟩ := hT.1 a ha
  have e : lkS (lkT T a h 6 a) (1 - h) false = T 6 a := by
    unfold lkT
    rw [lm_up_eq, el]
    rw [el] at h0
    exact lk_back l hl4 (1 - h) (by omega) h0
  rw [e]
  unfold lkT
  funext k j
  unfold lm_up
  by_cases q1 : k = 6
  · by_cases q2 : j = a
    · rw [if_pos q1, if_pos q2, q1, q2]
    · rw [if_pos q1, if_neg q2, if_pos q1, if_neg q2]
  · rw [if_neg q1, if_neg q1]
theorem x_gwl {d : Nat} {hi : Nat → Nat → Int32} {hl : Nat → Nat → Int64} {X : lm_X} {hi0 : Nat → Nat → Int32} {hl0 : Nat → Nat → Int64} {C n ts : Nat} {T : lm_T} {R : Nat → Int32} {KO : ab_K} {V : ab_V} {tl F : Nat → Int32} (P : cP hi0 hl0 hi hl X C T n R KO V ts tl F) {B D : Nat} (Z : okZ B D T n R KO V ts tl)  {a k : Nat} (ha : a < n) (hk1 : 1 ≤ k) (hk4 : k ≤ 4) (h0 : lkd (T 6 a) (1 - awk (R 10)) = false) (hC2 : C + 2 < 2147483648) : lm_w (d + 20) 121 [.ref 64, .int (nI a), .int (nI k)] (hi, hl, X) (fun r h1 => r = some (.int (gAt (bst (lkT T a (awk (R 10))) n k (R 10)) (awk (R 10)))) ∧ ∃ hi', h1 = (hi', hl, X) ∧ cP hi0 hl0 hi' hl X (C + 2) T n R KO V ts tl F) := by
  obtain ⟨S, O, H, HR, FO, HV, HT, HF, HK, E0, EL0⟩ := id P
  obtain ⟨hT, hO, hV, hts, htl, hDB, hB0, hKO⟩ := id Z
  have hn10 := isTle H
  refine lm_w_in (Nat.le_of_ble_eq_true rfl) ?_
  show lm_wp (d + 20) 121 0 [.ref 64, .int (nI a), .int (nI k), lm_jk, lm_jk] [] (hi, hl, X) _
  refine w_N 1 1 [.ref 64, .int (nI a), .int (nI k), lm_jk, lm_jk] [.ref 64] rfl ?_
  refine w_gr 65 rfl rfl rfl (A_k S 64 (by decide)) (A_r S 64 0 (by decide)) ?_
  refine w_gi (v := R 10) rfl rfl rfl (T_kd (A_T65 S)) (HR.1) ?_
  refine w_cc rfl (c_awkz rfl) ?_
  show lm_wp _ 121 10 [.ref 64, .int (nI a), .int (nI k), lm_jk, lm_jk] [.int (nI (awk (R 10)))] (hi, hl, X) _
  refine w_N 2 12 [.ref 64, .int (nI a), .int (nI k), .int (nI (awk (R 10))), lm_jk] [.ref 64] rfl ?_
  refine w_gr 65 rfl rfl rfl (A_k S 64 (by decide)) (A_r S 64 0 (by decide)) ?_
  refine w_N 5 20 [.ref 64, .int (nI a), .int (nI k), .int (nI (awk (R 10))), lm_jk] [.int 1, .int (nI a), .int (1 - (nI (awk (R 10)))), .ref 65] rfl ?_
  rw [one_sub]
  refine w_ca (w_vst rfl rfl rfl (Nat.le_of_ble_eq_true rfl) (Nat.le_of_ble_eq_true rfl) (T_kd (A_T65 S))) (t_setLocked (d := d + 19) (hf := 1 - awk (R 10)) (is := true) (A_T65 S) H HR (by omega)) ?_
  rintro _ _ ⟨h5x, rfl, rfl, H5, R5, c5, f5⟩
  have P : cP hi0 hl0 h5x hl X (C + 1) (lkT T a (awk (R 10))) n R KO V ts tl F := cP_town P f5 H5 R5 (fok_ch f5 c5 (by omega) FO)
  obtain ⟨S, O, H, HR, FO, HV, HT, HF, HK, E0, EL0⟩ := id P
  show lm_wp _ 121 23 [.ref 64, .int (nI a), .int (nI k), .int (nI (awk (R 10))), lm_jk] [] (h5x, hl, X) _
  refine w_N 1 24 [.ref 64, .int (nI a), .int (nI k), .int (nI (awk (R 10))), lm_jk] [.ref 64] rfl ?_
  refine w_gr 98 rfl rfl rfl (A_k S 64 (by decide)) (A_r S 64 6 (by decide)) ?_
  refine w_N 2 29 [.ref 64, .int (nI a), .int (nI k), .int (nI (awk (R 10))), lm_jk] [.ref 64, .int (nI (awk (R 10))), .ref 98] rfl ?_
  refine w_gr 65 rfl rfl rfl (A_k S 64 (by decide)) (A_r S 64 0 (by decide)) ?_
  refine w_gi (v := R 10) rfl rfl rfl (T_kd (A_T65 S)) (HR.1) ?_
  refine w_N 1 36 [.ref 64, .int (nI a), .int (nI k), .int (nI (awk (R 10))), lm_jk] [.int (nI k), .int (R 10), .int (nI (awk (R 10))), .ref 98] rfl ?_
  refine w_ca (w_vst rfl rfl rfl (Nat.le_of_ble_eq_true rfl) (Nat.le_of_ble_eq_true rfl) (A_k S 98 (by decide))) (f_gainOf (d := d + 6) (hf := awk (R 10)) S FO H (okT_lk hT ha (awk_lt _)) hO.1 hk1 (show k ≤ 4 by omega) (awk_lt _)) ?_
  rintro _ _ ⟨hx3, rfl, rfl, f_hx3, FO_hx3⟩
  have P := cP_fore P (fr_mono f_hx3 (by decide)) FO_hx3
  obtain ⟨S, O, H, HR, FO, HV, HT, HF, HK, E0, EL0⟩ := id P
  show lm_wp _ 121 39 [.ref 64, .int (nI a), .int (nI k), .int (nI (awk (R 10))), lm_jk] [.int (gAt (bst (lkT T a (awk (R 10))) n k (R 10)) (awk (R 10)))] (hx3, hl, X) _
  refine w_N 2 42 [.ref 64, .int (nI a), .int (nI k), .int (nI (awk (R 10))), .int (gAt (bst (lkT T a (awk (R 10))) n k (R 10)) (awk (R 10)))] [.ref 64] rfl ?_
  refine w_gr 65 rfl rfl rfl (A_k S 64 (by decide)) (A_r S 64 0 (by decide)) ?_
  refine w_N 5 50 [.ref 64, .int (nI a), .int (nI k), .int (nI (awk (R 10))), .int (gAt (bst (lkT T a (awk (R 10))) n k (R 10)) (awk (R 10)))] [.int 0, .int (nI a), .int (1 - (nI (awk (R 10)))), .ref 65] rfl ?_
  rw [one_sub]
  refine w_ca (w_vst rfl rfl rfl (Nat.le_of_ble_eq_true rfl) (Nat.le_of_ble_eq_true rfl) (T_kd (A_T65 S))) (t_setLocked (d := d + 19) (hf := 1 - awk (R 10)) (is := false) (A_T65 S) H HR (by omega)) ?_
  rintro _ _ ⟨h6x, rfl, rfl, H6, R6, c6, f6⟩
  have P := cP_town P f6 H6 R6 (fok_ch f6 c6 (by omega) FO)
  rw [lkT_b hT ha (awk_lt _) h0] at P
  obtain ⟨S, O, H, HR, FO, HV, HT, HF, HK, E0, EL0⟩ := id P
  show lm_wp _ 121 53 [.ref 64, .int (nI a), .int (nI k), .int (nI (awk (R 10))), .int (gAt (bst (lkT T a (awk (R 10))) n k (R 10)) (awk (R 10)))] [] (h6x, hl, X) _
  refine w_N 1 55 [.ref 64, .int (nI a), .int (nI k), .int (nI (awk (R 10))), .int (gAt (bst (lkT T a (awk (R 10))) n k (R 10)) (awk (R 10)))] [.int (gAt (bst (lkT T a (awk (R 10))) n k (R 10)) (awk (R 10)))] rfl ?_
  refine w_ri rfl rfl ?_
  exact ⟨rfl, _, rfl, P⟩
theorem x_gwlE {d : Nat} {hi : Nat → Nat → Int32} {hl : Nat → Nat → Int64} {X : lm_X} {x : Int32} {a : Nat} (hx : x = nI a) {hi0 : Nat → Nat → Int32} {hl0 : Nat → Nat → Int64} {C n ts : Nat} {T : lm_T} {R : Nat → Int32} {KO : ab_K} {V : ab_V} {tl F : Nat → Int32} (P : cP hi0 hl0 hi hl X C T n R KO V ts tl F) {B D : Nat} (Z : okZ B D T n R KO V ts tl)  {k : Nat} (ha : a < n) (hk1 : 1 ≤ k) (hk4 : k ≤ 4) (h0 : lkd (T 6 a) (1 - awk (R 10)) = false) (hC2 : C + 2 < 2147483648) : lm_w (d + 20) 121 [.ref 64, .int x, .int (nI k)] (hi, hl, X) (fun r h1 => r = some (.int (gAt (bst (lkT T a (awk (R 10))) n k (R 10)) (awk (R 10)))) ∧ ∃ hi', h1 = (hi', hl, X) ∧ cP hi0 hl0 hi' hl X (C + 2) T n R KO V ts tl F) := by
  subst hx
  exact x_gwl P Z ha hk1 hk4 h0 hC2
theorem m_isLocked {d : Nat} {hi : Nat → Nat → Int32} {hl : Nat → Nat → Int64} {X : lm_X} {hi0 : Nat → Nat → Int32} {hl0 : Nat → Nat → Int64} {X0 : lm_X} {n ts : Nat} {T : lm_T} {R : Nat → Int32} {KO : ab_K} {V : ab_V} {tl F : Nat → Int32} (P : mP hi0 hl0 X0 hi hl X T n R KO V ts tl F) {B D : Nat} (Z : okZ B D T n R KO V ts tl) {x : Int32} {a : Nat} (hx : x = nI a) (ha : a < n) : lm_c (d + 10) 213 [.ref 123, .int x] (hi, hl, X) (some (.int (bz (lkd (T 6 a) (1 - awk (R 10))))), (hi, hl, X)) := by
  obtain ⟨SR, O, H, HR, HV, HT, HF, HK, E0, EL0, EX0⟩ := id P
  have S := SR.1
  obtain ⟨hT, hO, hV, hts, htl, hDB, hB0, hKO⟩ := id Z
  have hn10 := rTle H
  refine lm_c_of (lm_w_in (Nat.le_of_ble_eq_true rfl) ?_)
  show lm_wp (d + 10) 213 0 [.ref 123, .int x] [] (hi, hl, X) _
  refine w_N 1 1 [.ref 123, .int x] [.ref 123] rfl ?_
  refine w_gr 141 rfl rfl rfl (M_kd S) (M_r S (k := 11) (o := 18) rfl) ?_
  refine w_N 1 5 [.ref 123, .int x] [.int x, .ref 141] rfl ?_
  refine w_aa a (123 + (19 + a)) rfl (M_kk S (o := 18) (by decide)) (show X.2.2.1 (141) = 10 from M_l S 18 (by decide)) hx (by omega) (by decide) (M_acr S (by omega)) ?_
  refine w_N 1 8 [.ref 123, .int x] [.int 6, .ref (123 + (19 + a))] rfl ?_
  refine w_ia 6 (v := T 6 a) rfl (M_ack S (by omega)) (M_acl S (by omega)) rfl (by decide) (by decide) (rTa H (by decide) ha) ?_
  refine w_N 2 11 [.ref 123, .int x] [.ref 123, .int 1, .int (T 6 a)] rfl ?_
  refine w_gi (v := nI D) rfl rfl rfl (M_kd S) (HR.2.2.1.trans hO.2.2.1) ?_
  refine w_N 1 15 [.ref 123, .int x] [.int 2, .int (nI D), .int 1, .int (T 6 a)] rfl ?_
  refine w_rem rfl (by decide) ?_
  rw [hrem (s := R 10) hO.2.2.2.1 (by omega)]
  refine w_N 1 17 [.ref 123, .int x] [.int (1 - (nI (awk (R 10)))), .int (T 6 a)] rfl ?_
  rw [one_sub]
  refine w_cc rfl m_has ?_
  show lm_wp _ 213 20 [.ref 123, .int x] [.int (bz (lkd (T 6 a) (1 - awk (R 10))))] (hi, hl, X) _
  refine w_rz rfl rfl (bz_or _) ?_
  rfl
theorem m_lockingOf {d : Nat} {hi : Nat → Nat → Int32} {hl : Nat → Nat → Int64} {X : lm_X} {hi0 : Nat → Nat → Int32} {hl0 : Nat → Nat → Int64} {X0 : lm_X} {n ts : Nat} {T : lm_T} {R : Nat → Int32} {KO : ab_K} {V : ab_V} {tl F : Nat → Int32} (P : mP hi0 hl0 X0 hi hl X T n R KO V ts tl F) {B D : Nat} (Z : okZ B D T n R KO V ts tl) {x : Int32} {a k : Nat} (hx : x = nI a) (ha : a < n) (hk1 : 1 ≤ k) (hk4 : k ≤ 4) (h0 : lkd (T 6 a) (1 - awk (R 10)) = false) : lm_w (d + 20) 212 [.ref 123, .int x, .int (nI k)] (hi, hl, X) (mQ hi0 hl0 X0 (.int (gAt (bst (lkT T a (awk (R 10))) n k (R 10)) (awk (R 10)) - gAt (bst T n k (R 10)) (awk (R 10)))) T n R KO V ts tl F) := by
  obtain ⟨SR, O, H, HR, HV, HT, HF, HK, E0, EL0, EX0⟩ := id P
  have S := SR.1
  obtain ⟨hT, hO, hV, hts, htl, hDB, hB0, hKO⟩ := id Z
  have hn10 := rTle H
  obtain ⟨k0, m0, c0, x0, dd, bb, l, -, -, -, -, -, -, -, -, -, -, -, -, -, el, hl4⟩ := hT.1 a ha
  refine lm_w_in (Nat.le_of_ble_eq_true rfl) ?_
  show lm_wp (d + 20) 212 0 [.ref 123, .int x, .int (nI k), lm_jk, lm_jk] [] (hi, hl, X) _
  refine w_N 1 1 [.ref 123, .int x, .int (nI k), lm_jk, lm_jk] [.ref 123] rfl ?_
  refine w_gi (v := nI D) rfl rfl rfl (M_kd S) (HR.2.2.1.trans hO.2.2.1) ?_
  refine w_N 1 5 [.ref 123, .int x, .int (nI k), lm_jk, lm_jk] [.int 2, .int (nI D)] rfl ?_
  refine w_rem rfl (by decide) ?_
  rw [hrem (s := R 10) hO.2.2.2.1 (by omega)]
  refine w_N 4 10 [.ref 123, .int x, .int (nI k), .int (nI (awk (R 10))), lm_jk] [.ref 123, .int (nI k), .ref 123] rfl ?_
  refine w_gi (v := nI D) rfl rfl rfl (M_kd S) (HR.2.2.1.trans hO.2.2.1) ?_
  refine w_ca (w_vst rfl rfl rfl (Nat.le_of_ble_eq_true rfl) (Nat.le_of_ble_eq_true rfl) (M_kd S)) (m_findBest (d := d + 14) (k := k) S H HR.1 hT hO.2.2.2.1 (by omega) hk1 hk4 rfl rfl) ?_
  rintro _ _ ⟨h5x, rfl, rfl, f5, -, g5a, g5b, g5c⟩
  have P := mP_scr P f5
  have g5 := gAt_of g5a g5b (awk_lt (R 10))
  obtain ⟨SR, O, H, HR, HV, HT, HF, HK, E0, EL0, EX0⟩ := id P
  have S := SR.1
  show lm_wp _ 212 16 [.ref 123, .int x, .int (nI k), .int (nI (awk (R 10))), lm_jk] [] (h5x, hl, X) _
  refine w_N 1 17 [.ref 123, .int x, .int (nI k), .int (nI (awk (R 10))), lm_jk] [.ref 123] rfl ?_
  refine w_gr 159 rfl rfl rfl (M_kd S) (M_r S (k := 33) (o := 36) rfl) ?_
  refine w_N 1 21 [.ref 123, .int x, .int (nI k), .int (nI (awk (R 10))), lm_jk] [.int (nI k), .ref 159] rfl ?_
  refine w_aa k (123 + (37 + k)) rfl (M_kk S (o := 36) (by decide)) (show X.2.2.1 (159) = 5 from M_l S 36 (by decide)) rfl (by omega) (by decide) (M_bgr S (by omega)) ?_
  refine w_N 1 23 [.ref 123, .int x, .int (nI k), .int (nI (awk (R 10))), lm_jk] [.int (nI (awk (R 10))), .ref (123 + (37 + k))] rfl ?_
  refine w_ia (awk (R 10)) (v := gAt (bst T n k (R 10)) (awk (R 10))) rfl (M_bgk S (by omega)) (M_bgl S (by omega)) rfl (awk_lt _) (by decide) (g5) ?_
  refine w_N 2 27 [.ref 123, .int x, .int (nI k), .int (nI (awk (R 10))), .int (gAt (bst T n k (R 10)) (awk (R 10)))] [.ref 123] rfl ?_
  refine w_gr 141 rfl rfl rfl (M_kd S) (M_r S (k := 11) (o := 18) rfl) ?_
  refine w_N 1 31 [.ref 123, .int x, .int (nI k), .int (nI (awk (R 10))), .int (gAt (bst T n k (R 10)) (awk (R 10)))] [.int x, .ref 141] rfl ?_
  refine w_aa a (123 + (19 + a)) rfl (M_kk S (o := 18) (by decide)) (show X.2.2.1 (141) = 10 from M_l S 18 (by decide)) hx (by omega) (by decide) (M_acr S (by omega)) ?_
  refine w_N 2 35 [.ref 123, .int x, .int (nI k), .int (nI (awk (R 10))), .int (gAt (bst T n k (R 10)) (awk (R 10)))] [.int 6, .ref (123 + (19 + a)), .int 6, .ref (123 + (19 + a))] rfl ?_
  refine w_ia 6 (v := T 6 a) rfl (M_ack S (by omega)) (M_acl S (by omega)) rfl (by decide) (by decide) (rTa H (by decide) ha) ?_
  refine w_N 4 40 [.ref 123, .int x, .int (nI k), .int (nI (awk (R 10))), .int (gAt (bst T n k (R 10)) (awk (R 10)))] [.int ((T 6 a) ||| (2 >>> ((nI (awk (R 10))) &&& 31))), .int 6, .ref (123 + (19 + a))] rfl ?_
  refine w_is 6 rfl (M_ack S (by omega)) (Nat.le_trans (M_64 S) (Nat.le_add_right _ _)) (M_acl S (by omega)) rfl (by decide) (by decide) ?_
  refine w_N 3 44 [.ref 123, .int x, .int (nI k), .int (nI (awk (R 10))), .int (gAt (bst T n k (R 10)) (awk (R 10)))] [.ref 123, .int (nI k), .ref 123] rfl ?_
  refine w_gi (v := nI D) rfl rfl rfl (M_kd S) ((lm_up_na (by omega)).trans (HR.2.2.1.trans hO.2.2.1)) ?_
  have e7 : T 6 a ||| ((2 : Int32) >>> (nI (awk (R 10)) &&& 31)) = lkS (T 6 a) (1 - awk (R 10)) true := by rw [el]; exact lk_sh l hl4 _ (awk_lt _)
  rw [e7]
  obtain ⟨h6x, e6⟩ : ∃ q, q = lm_up h5x (123 + (19 + a)) 6 (lkS (T 6 a) (1 - awk (R 10)) true) := ⟨_, rfl⟩
  rw [← e6]
  have H6 : rT h6x 123 (lkT T a (awk (R 10))) n := by rw [e6]; exact rT_l H ha (fun b h1 h2 => lm_up_rw h2) (lm_up_na (by omega)) (fun k hk => lm_up_nk hk) lm_up_eq
  have R6 : rR h6x 123 R := by rw [e6]; exact rR_fr (fr_up (lo := 123 + (19 + a)) (up := 123 + (19 + a) + 1) fr_rfl (by omega)) (by omega) HR
  have P := mP_town P ⟨fun b hb => by rw [e6]; exact lm_up_rw (by omega), by rw [e6]; exact lm_up_na (by omega)⟩ H6 R6
  clear e6
  obtain ⟨SR, O, H, HR, HV, HT, HF, HK, E0, EL0, EX0⟩ := id P
  have S := SR.1
  refine w_ca (w_vst rfl rfl rfl (Nat.le_of_ble_eq_true rfl) (Nat.le_of_ble_eq_true rfl) (M_kd S)) (m_findBest (d := d + 14) (k := k) S H HR.1 (okT_lk hT ha (awk_lt _)) hO.2.2.2.1 (by omega) hk1 hk4 rfl rfl) ?_
  rintro _ _ ⟨h7x, rfl, rfl, f7, -, g6a, g6b, g6c⟩
  have P := mP_scr P f7
  have g6 := gAt_of g6a g6b (awk_lt (R 10))
  obtain ⟨SR, O, H, HR, HV, HT, HF, HK, E0, EL0, EX0⟩ := id P
  have S := SR.1
  show lm_wp _ 212 50 [.ref 123, .int x, .int (nI k), .int (nI (awk (R 10))), .int (gAt (bst T n k (R 10)) (awk (R 10)))] [] (h7x, hl, X) _
  refine w_N 1 51 [.ref 123, .int x, .int (nI k), .int (nI (awk (R 10))), .int (gAt (bst T n k (R 10)) (awk (R 10)))] [.ref 123] rfl ?_
  refine w_gr 141 rfl rfl rfl (M_kd S) (M_r S (k := 11) (o := 18) rfl) ?_
  refine w_N 1 55 [.ref 123, .int x, .int (nI k), .int (nI (awk (R 10))), .int (gAt (bst T n k (R 10)) (awk (R 10)))] [.int x, .ref 141] rfl ?_
  refine w_aa a (123 + (19 + a)) rfl (M_kk S (o := 18) (by decide)) (show X.2.2.1 (141) = 10 from M_l S 18 (by decide)) hx (by omega) (by decide) (M_acr S (by omega)) ?_
  refine w_N 2 59 [.ref 123, .int x, .int (nI k), .int (nI (awk (R 10))), .int (gAt (bst T n k (R 10)) (awk (R 10)))] [.int 6, .ref (123 + (19 + a)), .int 6, .ref (123 + (19 + a))] rfl ?_
  refine w_ia 6 (v := lkS (T 6 a) (1 - awk (R 10)) true) rfl (M_ack S (by omega)) (M_acl S (by omega)) rfl (by decide) (by decide) ((rTa H (by decide) ha).trans lm_up_eq) ?_
  refine w_N 6 66 [.ref 123, .int x, .int (nI k), .int (nI (awk (R 10))), .int (gAt (bst T n k (R 10)) (awk (R 10)))] [.int ((lkS (T 6 a) (1 - awk (R 10)) true) &&& ((2 >>> ((nI (awk (R 10))) &&& 31)) ^^^ (-1))), .int 6, .ref (123 + (19 + a))] rfl ?_
  refine w_is 6 rfl (M_ack S (by omega)) (Nat.le_trans (M_64 S) (Nat.le_add_right _ _)) (M_acl S (by omega)) rfl (by decide) (by decide) ?_
  refine w_N 1 68 [.ref 123, .int x, .int (nI k), .int (nI (awk (R 10))), .int (gAt (bst T n k (R 10)) (awk (R 10)))] [.ref 123] rfl ?_
  refine w_gr 159 rfl rfl rfl (M_kd S) (M_r S (k := 33) (o := 36) rfl) ?_
  refine w_N 1 72 [.ref 123, .int x, .int (nI k), .int (nI (awk (R 10))), .int (gAt (bst T n k (R 10)) (awk (R 10)))] [.int (nI k), .ref 159] rfl ?_
  refine w_aa k (123 + (37 + k)) rfl (M_kk S (o := 36) (by decide)) (show X.2.2.1 (159) = 5 from M_l S 36 (by decide)) rfl (by omega) (by decide) (M_bgr S (by omega)) ?_
  refine w_N 1 74 [.ref 123, .int x, .int (nI k), .int (nI (awk (R 10))), .int (gAt (bst T n k (R 10)) (awk (R 10)))] [.int (nI (awk (R 10))), .ref (123 + (37 + k))] rfl ?_
  refine w_ia (awk (R 10)) (v := gAt (bst (lkT T a (awk (R 10))) n k (R 10)) (awk (R 10))) rfl (M_bgk S (by omega)) (M_bgl S (by omega)) rfl (awk_lt _) (by decide) ((lm_up_na (by omega)).trans (g6)) ?_
  refine w_N 2 78 [.ref 123, .int x, .int (nI k), .int (nI (awk (R 10))), .int (gAt (bst T n k (R 10)) (awk (R 10)))] [.int ((gAt (bst (lkT T a (awk (R 10))) n k (R 10)) (awk (R 10))) - (gAt (bst T n k (R 10)) (awk (R 10))))] rfl ?_
  refine w_ri rfl rfl ?_
  have e8 : lkS (T 6 a) (1 - awk (R 10)) true &&& (((2 : Int32) >>> (nI (awk (R 10)) &&& 31)) ^^^ (-1)) = lkS ((lkT T a (awk (R 10))) 6 a) (1 - awk (R 10)) false := by
    unfold lkT
    rw [lm_up_eq, el]
    exact lk_un l hl4 _ (awk_lt _) rfl
  rw [e8]
  obtain ⟨h8x, e9⟩ : ∃ q, q = lm_up h7x (123 + (19 + a)) 6 (lkS ((lkT T a (awk (R 10))) 6 a) (1 - awk (R 10)) false) := ⟨_, rfl⟩
  rw [← e9]
  have H8 := rT_l (hi' := h8x) (x := lkS ((lkT T a (awk (R 10))) 6 a) (1 - awk (R 10)) false) H ha (fun b h1 h2 => by rw [e9]; exact lm_up_rw h2) (by rw [e9]; exact lm_up_na (by omega)) (fun k hk => by rw [e9]; exact lm_up_nk hk) (by rw [e9]; exact lm_up_eq)
  rw [lkT_b hT ha (awk_lt _) h0] at H8
  have R8 : rR h8x 123 R := by rw [e9]; exact rR_fr (fr_up (lo := 123 + (19 + a)) (up := 123 + (19 + a) + 1) fr_rfl (by omega)) (by omega) HR
  exact mq_ (mP_town P ⟨fun b hb => by rw [e9]; exact lm_up_rw (by omega), by rw [e9]; exact lm_up_na (by omega)⟩ H8 R8)
theorem x_locking_b {d : Nat} {hi : Nat → Nat → Int32} {hl : Nat → Nat → Int64} {X : lm_X} {hi0 : Nat → Nat → Int32} {hl0 : Nat → Nat → Int64} {C n ts : Nat} {T : lm_T} {R : Nat → Int32} {KO : ab_K} {V : ab_V} {tl F : Nat → Int32} (P : cP hi0 hl0 hi hl X C T n R KO V ts tl F) {a k : Int32}  (hb : (wi a 0 (nI n - 1) && wi k 1 4) = false) (hC : C + 25 < 2147483648) : lm_w (d + 30) 120 [.ref 64, .int a, .int k] (hi, hl, X) (cQ hi0 hl0 X (C + 25) (.int (-1000002)) T n R KO V ts tl (rfU F (-2))) := by
  obtain ⟨S, O, H, HR, FO, HV, HT, HF, HK, E0, EL0⟩ := id P
  refine lm_w_in (Nat.le_of_ble_eq_true rfl) ?_
  show lm_wp (d + 30) 120 0 [.ref 64, .int a, .int k, lm_jk] [] (hi, hl, X) _
  refine w_N 2 2 [.ref 64, .int a, .int k, lm_jk] [.int a, .ref 64] rfl ?_
  refine w_cc (w_vst rfl rfl rfl (Nat.le_of_ble_eq_true rfl) (Nat.le_of_ble_eq_true rfl) (A_k S 64 (by decide))) (x_isAct S H) ?_
  show lm_wp _ 120 5 [.ref 64, .int a, .int k, lm_jk] [.int (bz (wi a 0 (nI n - 1)))] (hi, hl, X) _
  refine w_zeq (t := 15) rfl rfl (fun c1 => ?_) (fun c1 => ?_)
  · refine w_N 2 18 [.ref 64, .int a, .int k, lm_jk] [.int (-2), .ref 64] rfl ?_
    refine w_ca (w_vst rfl rfl rfl (Nat.le_of_ble_eq_true rfl) (Nat.le_of_ble_eq_true rfl) (A_k S 64 (by decide))) (x_refuseGain P (by unfold isW; decide)) ?_
    rintro _ _ ⟨rfl, hi9, rfl, P9⟩
    show lm_wp _ 120 21 [.ref 64, .int a, .int k, lm_jk] [.int (-1000002)] (hi9, hl, X) _
    refine w_ri rfl rfl ?_
    exact cq_ P9 (by omega) hC
  · refine w_N 1 9 [.ref 64, .int a, .int k, lm_jk] [.int k] rfl ?_
    refine w_cc rfl x_isAhead ?_
    show lm_wp _ 120 12 [.ref 64, .int a, .int k, lm_jk] [.int (bz (wi k 1 4))] (hi, hl, X) _
    refine w_zne (t := 22) rfl rfl (fun c2 => ?_) (fun c2 => ?_)
    · exact absurd hb (by simp [c1, c2])
    · refine w_N 2 18 [.ref 64, .int a, .int k, lm_jk] [.int (-2), .ref 64] rfl ?_
      refine w_ca (w_vst rfl rfl rfl (Nat.le_of_ble_eq_true rfl) (Nat.le_of_ble_eq_true rfl) (A_k S 64 (by decide))) (x_refuseGain P (by unfold isW; decide)) ?_
      rintro _ _ ⟨rfl, hi9, rfl, P9⟩
      show lm_wp _ 120 21 [.ref 64, .int a, .int k, lm_jk] [.int (-1000002)] (hi9, hl, X) _
      refine w_ri rfl rfl ?_
      exact cq_ P9 (by omega) hC
theorem y_locking_b {d : Nat} {hi : Nat → Nat → Int32} {hl : Nat → Nat → Int64} {X : lm_X} {hi0 : Nat → Nat → Int32} {hl0 : Nat → Nat → Int64} {X0 : lm_X} {n ts : Nat} {T : lm_T} {R : Nat → Int32} {KO : ab_K} {V : ab_V} {tl F : Nat → Int32} (P : mP hi0 hl0 X0 hi hl X T n R KO V ts tl F) {a k : Int32}  (hb : (wi a 0 (nI n - 1) && wi k 1 4) = false) : lm_w (d + 30) 214 [.ref 123, .int a, .int k] (hi, hl, X) (mQ hi0 hl0 X0 (.int (-1000002)) T n R KO V ts tl (rfU F (-2))) := by
  obtain ⟨SR, O, H, HR, HV, HT, HF, HK, E0, EL0, EX0⟩ := id P
  have S := SR.1
  refine lm_w_in (Nat.le_of_ble_eq_true rfl) ?_
  show lm_wp (d + 30) 214 0 [.ref 123, .int a, .int k] [] (hi, hl, X) _
  refine w_N 3 3 [.ref 123, .int a, .int k] [.long a.toInt64, .ref 123] rfl ?_
  refine w_cc (w_vst rfl rfl rfl (Nat.le_of_ble_eq_true rfl) (Nat.le_of_ble_eq_true rfl) (M_kd S)) (m_isAct (x := a) S H rfl) ?_
  show lm_wp _ 214 6 [.ref 123, .int a, .int k] [.int (bz (wi a 0 (nI n - 1)))] (hi, hl, X) _
  refine w_zeq (t := 16) rfl rfl (fun c1 => ?_) (fun c1 => ?_)
  · refine w_N 3 21 [.ref 123, .int a, .int k] [.int (-2), .ref 123, .int (-1000000)] rfl ?_
    refine w_ca (w_vst rfl rfl rfl (Nat.le_of_ble_eq_true rfl) (Nat.le_of_ble_eq_true rfl) (M_kd S)) (m_refuse P (by unfold isW; decide)) ?_
    rintro _ _ ⟨rfl, hi9, rfl, P9⟩
    show lm_wp _ 214 24 [.ref 123, .int a, .int k] [.int (-2), .int (-1000000)] (hi9, hl, X) _
    refine w_N 1 25 [.ref 123, .int a, .int k] [.int (-1000002)] rfl ?_
    refine w_ri rfl rfl ?_
    exact mq_ P9
  · refine w_N 1 10 [.ref 123, .int a, .int k] [.int k] rfl ?_
    refine w_cc rfl m_areDays ?_
    show lm_wp _ 214 13 [.ref 123, .int a, .int k] [.int (bz (wi k 1 4))] (hi, hl, X) _
    refine w_zne (t := 26) rfl rfl (fun c2 => ?_) (fun c2 => ?_)
    · exact absurd hb (by simp [c1, c2])
    · refine w_N 3 21 [.ref 123, .int a, .int k] [.int (-2), .ref 123, .int (-1000000)] rfl ?_
      refine w_ca (w_vst rfl rfl rfl (Nat.le_of_ble_eq_true rfl) (Nat.le_of_ble_eq_true rfl) (M_kd S)) (m_refuse P (by unfold isW; decide)) ?_
      rintro _ _ ⟨rfl, hi9, rfl, P9⟩
      show lm_wp _ 214 24 [.ref 123, .int a, .int k] [.int (-2), .int (-1000000)] (hi9, hl, X) _
      refine w_N 1 25 [.ref 123, .int a, .int k] [.int (-1000002)] rfl ?_
      refine w_ri rfl rfl ?_
      exact mq_ P9
theorem x_locking_s {d : Nat} {hi : Nat → Nat → Int32} {hl : Nat → Nat → Int64} {X : lm_X} {hi0 : Nat → Nat → Int32} {hl0 : Nat → Nat → Int64} {C n ts : Nat} {T : lm_T} {R : Nat → Int32} {KO : ab_K} {V : ab_V} {tl F : Nat → Int32} (P : cP hi0 hl0 hi hl X C T n R KO V ts tl F) {B D : Nat} (Z : okZ B D T n R KO V ts tl) {a k : Nat} (ha : a < n) (hk1 : 1 ≤ k) (hk4 : k ≤ 4) (h0 : lkd (T 6 a) (1 - awk (R 10)) = true) (hC : C + 25 < 2147483648) : lm_w (d + 30) 120 [.ref 64, .int (nI a), .int (nI k)] (hi, hl, X) (cQ hi0 hl0 X (C + 25) (.int (-1000005)) T n R KO V ts tl (rfU F (-5))) := by
  obtain ⟨S, O, H, HR, FO, HV, HT, HF, HK, E0, EL0⟩ := id P
  obtain ⟨hT, hO, hV, hts, htl, hDB, hB0, hKO⟩ := id Z
  have hn10 := isTle H
  refine lm_w_in (Nat.le_of_ble_eq_true rfl) ?_
  show lm_wp (d + 30) 120 0 [.ref 64, .int (nI a), .int (nI k), lm_jk] [] (hi, hl, X) _
  refine w_N 2 2 [.ref 64, .int (nI a), .int (nI k), lm_jk] [.int (nI a), .ref 64] rfl ?_
  refine w_cc (w_vst rfl rfl rfl (Nat.le_of_ble_eq_true rfl) (Nat.le_of_ble_eq_true rfl) (A_k S 64 (by decide))) (x_isAct1 S H ((wi_p (x := nI a) (n := n) (by omega)).mpr ⟨a, rfl, ha⟩)) ?_
  show lm_wp _ 120 5 [.ref 64, .int (nI a), .int (nI k), lm_jk] [.int 1] (hi, hl, X) _
  refine w_if_eq_f (t := 15) rfl rfl (by decide) ?_
  refine w_N 1 9 [.ref 64, .int (nI a), .int (nI k), lm_jk] [.int (nI k)] rfl ?_
  refine w_cc rfl (x_isAhead1 (wi_t1 (n := 4) hk1 hk4 (by decide))) ?_
  show lm_wp _ 120 12 [.ref 64, .int (nI a), .int (nI k), lm_jk] [.int 1] (hi, hl, X) _
  refine w_if_ne_t (t := 22) rfl rfl (by decide) ?_
  refine w_N 1 23 [.ref 64, .int (nI a), .int (nI k), lm_jk] [.ref 64] rfl ?_
  refine w_gr 65 rfl rfl rfl (A_k S 64 (by decide)) (A_r S 64 0 (by decide)) ?_
  refine w_gi (v := R 10) rfl rfl rfl (T_kd (A_T65 S)) (HR.1) ?_
  refine w_cc rfl (c_awkz rfl) ?_
  show lm_wp _ 120 32 [.ref 64, .int (nI a), .int (nI k), lm_jk] [.int (nI (awk (R 10)))] (hi, hl, X) _
  refine w_N 2 34 [.ref 64, .int (nI a), .int (nI k), .int (nI (awk (R 10)))] [.ref 64] rfl ?_
  refine w_gr 65 rfl rfl rfl (A_k S 64 (by decide)) (A_r S 64 0 (by decide)) ?_
  refine w_N 4 41 [.ref 64, .int (nI a), .int (nI k), .int (nI (awk (R 10)))] [.int (nI a), .int (1 - (nI (awk (R 10)))), .ref 65] rfl ?_
  rw [one_sub]
  refine w_cc (w_vst rfl rfl rfl (Nat.le_of_ble_eq_true rfl) (Nat.le_of_ble_eq_true rfl) (T_kd (A_T65 S))) (lm_c_v (t_isLocked (d := d + 29) (hf := 1 - awk (R 10)) (A_T65 S) H (by omega)) (by rw [h0])) ?_
  show lm_wp _ 120 44 [.ref 64, .int (nI a), .int (nI k), .int (nI (awk (R 10)))] [.int (bz true)] (hi, hl, X) _
  refine w_if_eq_f (t := 54) rfl rfl (by decide) ?_
  refine w_N 2 50 [.ref 64, .int (nI a), .int (nI k), .int (nI (awk (R 10)))] [.int (-5), .ref 64] rfl ?_
  refine w_ca (w_vst rfl rfl rfl (Nat.le_of_ble_eq_true rfl) (Nat.le_of_ble_eq_true rfl) (A_k S 64 (by decide))) (x_refuseGain P (by unfold isW; decide)) ?_
  rintro _ _ ⟨rfl, hi9, rfl, P9⟩
  show lm_wp _ 120 53 [.ref 64, .int (nI a), .int (nI k), .int (nI (awk (R 10)))] [.int (-1000005)] (hi9, hl, X) _
  refine w_ri rfl rfl ?_
  exact cq_ P9 (by omega) hC
theorem y_locking_s {d : Nat} {hi : Nat → Nat → Int32} {hl : Nat → Nat → Int64} {X : lm_X} {hi0 : Nat → Nat → Int32} {hl0 : Nat → Nat → Int64} {X0 : lm_X} {n ts : Nat} {T : lm_T} {R : Nat → Int32} {KO : ab_K} {V : ab_V} {tl F : Nat → Int32} (P : mP hi0 hl0 X0 hi hl X T n R KO V ts tl F) {B D : Nat} (Z : okZ B D T n R KO V ts tl) {a k : Nat} (ha : a < n) (hk1 : 1 ≤ k) (hk4 : k ≤ 4) (h0 : lkd (T 6 a) (1 - awk (R 10)) = true) : lm_w (d + 30) 214 [.ref 123, .int (nI a), .int (nI k)] (hi, hl, X) (mQ hi0 hl0 X0 (.int (-1000005)) T n R KO V ts tl (rfU F (-5))) := by
  obtain ⟨SR, O, H, HR, HV, HT, HF, HK, E0, EL0, EX0⟩ := id P
  have S := SR.1
  obtain ⟨hT, hO, hV, hts, htl, hDB, hB0, hKO⟩ := id Z
  have hn10 := rTle H
  refine lm_w_in (Nat.le_of_ble_eq_true rfl) ?_
  show lm_wp (d + 30) 214 0 [.ref 123, .int (nI a), .int (nI k)] [] (hi, hl, X) _
  refine w_N 3 3 [.ref 123, .int (nI a), .int (nI k)] [.long ((nI a).toInt64), .ref 123] rfl ?_
  refine w_cc (w_vst rfl rfl rfl (Nat.le_of_ble_eq_true rfl) (Nat.le_of_ble_eq_true rfl) (M_kd S)) (lm_c_1 (m_isAct (x := nI a) S H rfl) ((wi_p (x := nI a) (n := n) (by omega)).mpr ⟨a, rfl, ha⟩)) ?_
  show lm_wp _ 214 6 [.ref 123, .int (nI a), .int (nI k)] [.int 1] (hi, hl, X) _
  refine w_if_eq_f (t := 16) rfl rfl (by decide) ?_
  refine w_N 1 10 [.ref 123, .int (nI a), .int (nI k)] [.int (nI k)] rfl ?_
  refine w_cc rfl (lm_c_1 m_areDays (wi_t1 (n := 4) hk1 hk4 (by decide))) ?_
  show lm_wp _ 214 13 [.ref 123, .int (nI a), .int (nI k)] [.int 1] (hi, hl, X) _
  refine w_if_ne_t (t := 26) rfl rfl (by decide) ?_
  refine w_N 2 28 [.ref 123, .int (nI a), .int (nI k)] [.int (nI a), .ref 123] rfl ?_
  refine w_cc (w_vst rfl rfl rfl (Nat.le_of_ble_eq_true rfl) (Nat.le_of_ble_eq_true rfl) (M_kd S)) (lm_c_v (m_isLocked (d := d + 19) P Z rfl ha) (by rw [h0])) ?_
  show lm_wp _ 214 31 [.ref 123, .int (nI a), .int (nI k)] [.int (bz true)] (hi, hl, X) _
  refine w_if_eq_f (t := 46) rfl rfl (by decide) ?_
  refine w_N 3 39 [.ref 123, .int (nI a), .int (nI k)] [.int (-5), .ref 123, .int (-1000000)] rfl ?_
  refine w_ca (w_vst rfl rfl rfl (Nat.le_of_ble_eq_true rfl) (Nat.le_of_ble_eq_true rfl) (M_kd S)) (m_refuse P (by unfold isW; decide)) ?_
  rintro _ _ ⟨rfl, hi9, rfl, P9⟩
  show lm_wp _ 214 42 [.ref 123, .int (nI a), .int (nI k)] [.int (-5), .int (-1000000)] (hi9, hl, X) _
  refine w_N 2 52 [.ref 123, .int (nI a), .int (nI k)] [.int (-1000005)] rfl ?_
  refine w_ri rfl rfl ?_
  exact mq_ P9
theorem x_locking {d : Nat} {hi : Nat → Nat → Int32} {hl : Nat → Nat → Int64} {X : lm_X} {hi0 : Nat → Nat → Int32} {hl0 : Nat → Nat → Int64} {C n ts : Nat} {T : lm_T} {R : Nat → Int32} {KO : ab_K} {V : ab_V} {tl F : Nat → Int32} (P : cP hi0 hl0 hi hl X C T n R KO V ts tl F) {B D : Nat} (Z : okZ B D T n R KO V ts tl) {a k : Nat} (ha : a < n) (hk1 : 1 ≤ k) (hk4 : k ≤ 4) (h0 : lkd (T 6 a) (1 - awk (R 10)) = false) (hC : C + 25 < 2147483648) : lm_w (d + 30) 120 [.ref 64, .int (nI a), .int (nI k)] (hi, hl, X) (cQ hi0 hl0 X (C + 25) (.int (gAt (bst (lkT T a (awk (R 10))) n k (R 10)) (awk (R 10)) - gAt (bst T n k (R 10)) (awk (R 10)))) T n R KO V ts tl F) := by
  obtain ⟨S, O, H, HR, FO, HV, HT, HF, HK, E0, EL0⟩ := id P
  obtain ⟨hT, hO, hV, hts, htl, hDB, hB0, hKO⟩ := id Z
  have hn10 := isTle H
  refine lm_w_in (Nat.le_of_ble_eq_true rfl) ?_
  show lm_wp (d + 30) 120 0 [.ref 64, .int (nI a), .int (nI k), lm_jk] [] (hi, hl, X) _
  refine w_N 2 2 [.ref 64, .int (nI a), .int (nI k), lm_jk] [.int (nI a), .ref 64] rfl ?_
  refine w_cc (w_vst rfl rfl rfl (Nat.le_of_ble_eq_true rfl) (Nat.le_of_ble_eq_true rfl) (A_k S 64 (by decide))) (x_isAct1 S H ((wi_p (x := nI a) (n := n) (by omega)).mpr ⟨a, rfl, ha⟩)) ?_
  show lm_wp _ 120 5 [.ref 64, .int (nI a), .int (nI k), lm_jk] [.int 1] (hi, hl, X) _
  refine w_if_eq_f (t := 15) rfl rfl (by decide) ?_
  refine w_N 1 9 [.ref 64, .int (nI a), .int (nI k), lm_jk] [.int (nI k)] rfl ?_
  refine w_cc rfl (x_isAhead1 (wi_t1 (n := 4) hk1 hk4 (by decide))) ?_
  show lm_wp _ 120 12 [.ref 64, .int (nI a), .int (nI k), lm_jk] [.int 1] (hi, hl, X) _
  refine w_if_ne_t (t := 22) rfl rfl (by decide) ?_
  refine w_N 1 23 [.ref 64, .int (nI a), .int (nI k), lm_jk] [.ref 64] rfl ?_
  refine w_gr 65 rfl rfl rfl (A_k S 64 (by decide)) (A_r S 64 0 (by decide)) ?_
  refine w_gi (v := R 10) rfl rfl rfl (T_kd (A_T65 S)) (HR.1) ?_
  refine w_cc rfl (c_awkz rfl) ?_
  show lm_wp _ 120 32 [.ref 64, .int (nI a), .int (nI k), lm_jk] [.int (nI (awk (R 10)))] (hi, hl, X) _
  refine w_N 2 34 [.ref 64, .int (nI a), .int (nI k), .int (nI (awk (R 10)))] [.ref 64] rfl ?_
  refine w_gr 65 rfl rfl rfl (A_k S 64 (by decide)) (A_r S 64 0 (by decide)) ?_
  refine w_N 4 41 [.ref 64, .int (nI a), .int (nI k), .int (nI (awk (R 10)))] [.int (nI a), .int (1 - (nI (awk (R 10)))), .ref 65] rfl ?_
  rw [one_sub]
  refine w_cc (w_vst rfl rfl rfl (Nat.le_of_ble_eq_true rfl) (Nat.le_of_ble_eq_true rfl) (T_kd (A_T65 S))) (lm_c_v (t_isLocked (d := d + 29) (hf := 1 - awk (R 10)) (A_T65 S) H (by omega)) (by rw [h0])) ?_
  show lm_wp _ 120 44 [.ref 64, .int (nI a), .int (nI k), .int (nI (awk (R 10)))] [.int (bz false)] (hi, hl, X) _
  refine w_if_eq_t (t := 54) rfl rfl (by decide) ?_
  refine w_N 3 57 [.ref 64, .int (nI a), .int (nI k), .int (nI (awk (R 10)))] [.int (nI k), .int (nI a), .ref 64] rfl ?_
  refine w_ca (w_vst rfl rfl rfl (Nat.le_of_ble_eq_true rfl) (Nat.le_of_ble_eq_true rfl) (A_k S 64 (by decide))) (x_gwl (d := d + 9) P Z ha hk1 hk4 h0 (by omega)) ?_
  rintro _ _ ⟨rfl, h7x, rfl, P⟩
  obtain ⟨S, O, H, HR, FO, HV, HT, HF, HK, E0, EL0⟩ := id P
  show lm_wp _ 120 60 [.ref 64, .int (nI a), .int (nI k), .int (nI (awk (R 10)))] [.int (gAt (bst (lkT T a (awk (R 10))) n k (R 10)) (awk (R 10)))] (h7x, hl, X) _
  refine w_N 1 61 [.ref 64, .int (nI a), .int (nI k), .int (nI (awk (R 10)))] [.ref 64, .int (gAt (bst (lkT T a (awk (R 10))) n k (R 10)) (awk (R 10)))] rfl ?_
  refine w_gr 98 rfl rfl rfl (A_k S 64 (by decide)) (A_r S 64 6 (by decide)) ?_
  refine w_N 2 66 [.ref 64, .int (nI a), .int (nI k), .int (nI (awk (R 10)))] [.ref 64, .int (nI (awk (R 10))), .ref 98, .int (gAt (bst (lkT T a (awk (R 10))) n k (R 10)) (awk (R 10)))] rfl ?_
  refine w_gr 65 rfl rfl rfl (A_k S 64 (by decide)) (A_r S 64 0 (by decide)) ?_
  refine w_gi (v := R 10) rfl rfl rfl (T_kd (A_T65 S)) (HR.1) ?_
  refine w_N 1 73 [.ref 64, .int (nI a), .int (nI k), .int (nI (awk (R 10)))] [.int (nI k), .int (R 10), .int (nI (awk (R 10))), .ref 98, .int (gAt (bst (lkT T a (awk (R 10))) n k (R 10)) (awk (R 10)))] rfl ?_
  refine w_ca (w_vst rfl rfl rfl (Nat.le_of_ble_eq_true rfl) (Nat.le_of_ble_eq_true rfl) (A_k S 98 (by decide))) (f_gainOf (d := d + 16) (hf := awk (R 10)) S FO H hT hO.1 hk1 (show k ≤ 4 by omega) (awk_lt _)) ?_
  rintro _ _ ⟨hx4, rfl, rfl, f_hx4, FO_hx4⟩
  have P := cP_fore P (fr_mono f_hx4 (by decide)) FO_hx4
  obtain ⟨S, O, H, HR, FO, HV, HT, HF, HK, E0, EL0⟩ := id P
  show lm_wp _ 120 76 [.ref 64, .int (nI a), .int (nI k), .int (nI (awk (R 10)))] [.int (gAt (bst T n k (R 10)) (awk (R 10))), .int (gAt (bst (lkT T a (awk (R 10))) n k (R 10)) (awk (R 10)))] (hx4, hl, X) _
  refine w_N 1 77 [.ref 64, .int (nI a), .int (nI k), .int (nI (awk (R 10)))] [.int ((gAt (bst (lkT T a (awk (R 10))) n k (R 10)) (awk (R 10))) - (gAt (bst T n k (R 10)) (awk (R 10))))] rfl ?_
  refine w_ri rfl rfl ?_
  exact cq_ P (by omega) hC
theorem y_locking {d : Nat} {hi : Nat → Nat → Int32} {hl : Nat → Nat → Int64} {X : lm_X} {hi0 : Nat → Nat → Int32} {hl0 : Nat → Nat → Int64} {X0 : lm_X} {n ts : Nat} {T : lm_T} {R : Nat → Int32} {KO : ab_K} {V : ab_V} {tl F : Nat → Int32} (P : mP hi0 hl0 X0 hi hl X T n R KO V ts tl F) {B D : Nat} (Z : okZ B D T n R KO V ts tl) {a k : Nat} (ha : a < n) (hk1 : 1 ≤ k) (hk4 : k ≤ 4) (h0 : lkd (T 6 a) (1 - awk (R 10)) = false) : lm_w (d + 30) 214 [.ref 123, .int (nI a), .int (nI k)] (hi, hl, X) (mQ hi0 hl0 X0 (.int (gAt (bst (lkT T a (awk (R 10))) n k (R 10)) (awk (R 10)) - gAt (bst T n k (R 10)) (awk (R 10)))) T n R KO V ts tl F) := by
  obtain ⟨SR, O, H, HR, HV, HT, HF, HK, E0, EL0, EX0⟩ := id P
  have S := SR.1
  obtain ⟨hT, hO, hV, hts, htl, hDB, hB0, hKO⟩ := id Z
  have hn10 := rTle H
  refine lm_w_in (Nat.le_of_ble_eq_true rfl) ?_
  show lm_wp (d + 30) 214 0 [.ref 123, .int (nI a), .int (nI k)] [] (hi, hl, X) _
  refine w_N 3 3 [.ref 123, .int (nI a), .int (nI k)] [.long ((nI a).toInt64), .ref 123] rfl ?_
  refine w_cc (w_vst rfl rfl rfl (Nat.le_of_ble_eq_true rfl) (Nat.le_of_ble_eq_true rfl) (M_kd S)) (lm_c_1 (m_isAct (x := nI a) S H rfl) ((wi_p (x := nI a) (n := n) (by omega)).mpr ⟨a, rfl, ha⟩)) ?_
  show lm_wp _ 214 6 [.ref 123, .int (nI a), .int (nI k)] [.int 1] (hi, hl, X) _
  refine w_if_eq_f (t := 16) rfl rfl (by decide) ?_
  refine w_N 1 10 [.ref 123, .int (nI a), .int (nI k)] [.int (nI k)] rfl ?_
  refine w_cc rfl (lm_c_1 m_areDays (wi_t1 (n := 4) hk1 hk4 (by decide))) ?_
  show lm_wp _ 214 13 [.ref 123, .int (nI a), .int (nI k)] [.int 1] (hi, hl, X) _
  refine w_if_ne_t (t := 26) rfl rfl (by decide) ?_
  refine w_N 2 28 [.ref 123, .int (nI a), .int (nI k)] [.int (nI a), .ref 123] rfl ?_
  refine w_cc (w_vst rfl rfl rfl (Nat.le_of_ble_eq_true rfl) (Nat.le_of_ble_eq_true rfl) (M_kd S)) (lm_c_v (m_isLocked (d := d + 19) P Z rfl ha) (by rw [h0])) ?_
  show lm_wp _ 214 31 [.ref 123, .int (nI a), .int (nI k)] [.int (bz false)] (hi, hl, X) _
  refine w_if_eq_t (t := 46) rfl rfl (by decide) ?_
  refine w_N 3 49 [.ref 123, .int (nI a), .int (nI k)] [.int (nI k), .int (nI a), .ref 123] rfl ?_
  refine w_ca (w_vst rfl rfl rfl (Nat.le_of_ble_eq_true rfl) (Nat.le_of_ble_eq_true rfl) (M_kd S)) (m_lockingOf (d := d + 9) P Z rfl ha hk1 hk4 h0) ?_
  rintro _ _ ⟨rfl, h7x, hl7, X7, rfl, P⟩
  obtain ⟨SR, O, H, HR, HV, HT, HF, HK, E0, EL0, EX0⟩ := id P
  have S := SR.1
  show lm_wp _ 214 52 [.ref 123, .int (nI a), .int (nI k)] [.int (gAt (bst (lkT T a (awk (R 10))) n k (R 10)) (awk (R 10)) - gAt (bst T n k (R 10)) (awk (R 10)))] (h7x, hl7, X7) _
  refine w_ri rfl rfl ?_
  exact mq_ P
theorem st_locking {B D : Nat} {n ts : Nat} {T : lm_T} {R : Nat → Int32} {KO : ab_K} {V : ab_V} {tl F : Nat → Int32} {a k : Int32} (Z : okZ B D T n R KO V ts tl) (hB : B + 20 < 2000000) : STEP B 120 214 [.int a, .int k] T n R KO V ts tl F := by
  obtain ⟨hT, hO, hV, hts, htl, hDB, hB0, hKO⟩ := id Z
  by_cases hn : n < 2147483648
  · by_cases hb : (wi a 0 (nI n - 1) && wi k 1 4) = false
    · exact ⟨_, D, _, _, _, _, _, _, _, _, okZ_up Z hB, fun _ _ _ _ _ _ P hC => x_locking_b (d := 10) P hb hC, fun _ _ _ _ _ _ P => y_locking_b (d := 10) P hb⟩
    · obtain ⟨h1, h2⟩ := and2_t hb
      obtain ⟨a, rfl, ha⟩ := (wi_p hn).mp h1
      obtain ⟨k, rfl, hk1, hk4⟩ := wi_e1 (n := 4) h2 (by decide)
      cases h0 : lkd (T 6 a) (1 - awk (R 10))
      · exact ⟨_, D, _, _, _, _, _, _, _, _, okZ_up Z hB, fun _ _ _ _ _ _ P hC => x_locking (d := 10) P Z ha hk1 hk4 h0 hC, fun _ _ _ _ _ _ P => y_locking (d := 10) P Z ha hk1 hk4 h0⟩
      · exact ⟨_, D, _, _, _, _, _, _, _, _, okZ_up Z hB, fun _ _ _ _ _ _ P hC => x_locking_s (d := 10) P Z ha hk1 hk4 h0 hC, fun _ _ _ _ _ _ P => y_locking_s (d := 10) P Z ha hk1 hk4 h0⟩
  · exact ⟨0, D, T, n, R, KO, V, ts, tl, F, okZ_up Z hB, fun _ _ _ _ _ _ P hC => absurd (isTle P.2.2.1) (by omega), fun _ _ _ _ _ _ P => absurd (rTle P.2.2.1) (by omega)⟩
def whS (T : lm_T) (n k : Nat) (s : Int32) : Nat → Nat × Int32
  | 0 => (0, gAt (bst T n k s) (awk s))
  | a + 1 => if lkd (T 6 a) (1 - awk s) = false ∧ (whS T n k s a).2 < gAt (bst (lkT T a (awk s)) n k s) (awk s) then (a + 1, gAt (bst (lkT T a (awk s)) n k s) (awk s)) else whS T n k s a
theorem gAt_bd {T : lm_T} {n k h : Nat} {s : Int32} (hT : okT T n) (hk : k ≤ 4) : bd (gAt (bst T n k s) h) 52272 := by
  have q := bst_bd hT k s hk
  unfold gAt
  split
  · exact bd_mono q.1 (by omega)
  · exact bd_mono q.2 (by omega)
theorem sub_bd {x y : Int32} (hx : bd x 52272) (hy : bd y 52272) : (x - y).toInt = x.toInt - y.toInt := by
  unfold bd at hx hy
  rw [Int32.toInt_sub]
  exact Int.bmod_eq_of_le (by omega) (by omega)
theorem wh_bd {T : lm_T} {n k : Nat} {s : Int32} (hT : okT T n) (hk : k ≤ 4) : ∀ m, m ≤ n → bd (whS T n k s m).2 52272 ∧ (gAt (bst T n k s) (awk s)).toInt ≤ (whS T n k s m).2.toInt := by
  intro m
  induction m with
  | zero => intro _; exact ⟨gAt_bd hT hk, Int.le_refl _⟩
  | succ m ih =>
    intro hm
    have ih := ih (by omega)
    unfold whS
    split
    · rename_i h
      have := Int32.lt_iff_toInt_lt.mp h.2
      exact ⟨gAt_bd (okT_lk hT (by omega) (awk_lt _)) hk, Int.le_trans ih.2 (Int.le_of_lt this)⟩
    · exact ih
theorem x_which_b {d : Nat} {hi : Nat → Nat → Int32} {hl : Nat → Nat → Int64} {X : lm_X} {hi0 : Nat → Nat → Int32} {hl0 : Nat → Nat → Int64} {C n ts : Nat} {T : lm_T} {R : Nat → Int32} {KO : ab_K} {V : ab_V} {tl F : Nat → Int32} (P : cP hi0 hl0 hi hl X C T n R KO V ts tl F) {k : Int32}  (hb : (wi k 1 4) = false) (hC : C + 25 < 2147483648) : lm_w (d + 30) 122 [.ref 64, .int k] (hi, hl, X) (cQ hi0 hl0 X (C + 25) (.int (-2)) T n R KO V ts tl (rfU F (-2))) := by
  obtain ⟨S, O, H, HR, FO, HV, HT, HF, HK, E0, EL0⟩ := id P
  refine lm_w_in (Nat.le_of_ble_eq_true rfl) ?_
  show lm_wp (d + 30) 122 0 [.ref 64, .int k, lm_jk, lm_jk, lm_jk, lm_jk, lm_jk] [] (hi, hl, X) _
  refine w_N 1 1 [.ref 64, .int k, lm_jk, lm_jk, lm_jk, lm_jk, lm_jk] [.int k] rfl ?_
  refine w_cc rfl x_isAhead ?_
  show lm_wp _ 122 4 [.ref 64, .int k, lm_jk, lm_jk, lm_jk, lm_jk, lm_jk] [.int (bz (wi k 1 4))] (hi, hl, X) _
  refine w_zne (t := 14) rfl rfl (fun c1 => ?_) (fun c1 => ?_)
  · exact absurd hb (by simp [c1])
  · refine w_N 2 10 [.ref 64, .int k, lm_jk, lm_jk, lm_jk, lm_jk, lm_jk] [.int (-2), .ref 64] rfl ?_
    refine w_ca (w_vst rfl rfl rfl (Nat.le_of_ble_eq_true rfl) (Nat.le_of_ble_eq_true rfl) (A_k S 64 (by decide))) (x_refuse P (by unfold isW; decide)) ?_
    rintro _ _ ⟨rfl, hi9, rfl, P9⟩
    show lm_wp _ 122 13 [.ref 64, .int k, lm_jk, lm_jk, lm_jk, lm_jk, lm_jk] [.int (-2)] (hi9, hl, X) _
    refine w_ri rfl rfl ?_
    exact cq_ P9 (by omega) hC
theorem y_which_b {d : Nat} {hi : Nat → Nat → Int32} {hl : Nat → Nat → Int64} {X : lm_X} {hi0 : Nat → Nat → Int32} {hl0 : Nat → Nat → Int64} {X0 : lm_X} {n ts : Nat} {T : lm_T} {R : Nat → Int32} {KO : ab_K} {V : ab_V} {tl F : Nat → Int32} (P : mP hi0 hl0 X0 hi hl X T n R KO V ts tl F) {k : Int32}  (hb : (wi k 1 4) = false) : lm_w (d + 30) 215 [.ref 123, .int k] (hi, hl, X) (mQ hi0 hl0 X0 (.int (-2)) T n R KO V ts tl (rfU F (-2))) := by
  obtain ⟨SR, O, H, HR, HV, HT, HF, HK, E0, EL0, EX0⟩ := id P
  have S := SR.1
  refine lm_w_in (Nat.le_of_ble_eq_true rfl) ?_
  show lm_wp (d + 30) 215 0 [.ref 123, .int k, lm_jk, lm_jk, lm_jk, lm_jk] [] (hi, hl, X) _
  refine w_N 1 1 [.ref 123, .int k, lm_jk, lm_jk, lm_jk, lm_jk] [.int k] rfl ?_
  refine w_cc rfl m_areDays ?_
  show lm_wp _ 215 4 [.ref 123, .int k, lm_jk, lm_jk, lm_jk, lm_jk] [.int (bz (wi k 1 4))] (hi, hl, X) _
  refine w_zne (t := 14) rfl rfl (fun c1 => ?_) (fun c1 => ?_)
  · exact absurd hb (by simp [c1])
  · refine w_N 2 10 [.ref 123, .int k, lm_jk, lm_jk, lm_jk, lm_jk] [.int (-2), .ref 123] rfl ?_
    refine w_ca (w_vst rfl rfl rfl (Nat.le_of_ble_eq_true rfl) (Nat.le_of_ble_eq_true rfl) (M_kd S)) (m_refuse P (by unfold isW; decide)) ?_
    rintro _ _ ⟨rfl, hi9, rfl, P9⟩
    show lm_wp _ 215 13 [.ref 123, .int k, lm_jk, lm_jk, lm_jk, lm_jk] [.int (-2)] (hi9, hl, X) _
    refine w_ri rfl rfl ?_
    exact mq_ P9
theorem t_isLockedE {d : Nat} {hi : Nat → Nat → Int32} {hl : Nat → Nat → Int64} {X : lm_X} {b n : Nat} {T : lm_T} (S : sh_T X b) (H : isT hi b T n) {hf a : Nat} {x : Int32} (hx : x = nI a) (ha : a < 10) : lm_c d 57 [.ref b, .int (nI hf), .int x] (hi, hl, X) (some (.int (bz (lkd (T 6 a) hf))), (hi, hl, X)) := by
  subst hx
  exact t_isLocked S H ha
theorem cP_C {hi0 hi : Nat → Nat → Int32} {hl0 hl : Nat → Nat → Int64} {X : lm_X} {C C' n ts : Nat} {T : lm_T} {R : Nat → Int32} {KO : ab_K} {V : ab_V} {tl F : Nat → Int32} (P : cP hi0 hl0 hi hl X C T n R KO V ts tl F) (h : C ≤ C') (h2 : C' < 2147483648) : cP hi0 hl0 hi hl X C' T n R KO V ts tl F := by
  obtain ⟨S, O, H, HR, FO, HV, HT, HF, HK, E, EL⟩ := P
  exact ⟨S, O, H, HR, fok_C h h2 FO, HV, HT, HF, HK, E, EL⟩
theorem x_which1 {d : Nat} {hi : Nat → Nat → Int32} {hl : Nat → Nat → Int64} {X : lm_X} {hi0 : Nat → Nat → Int32} {hl0 : Nat → Nat → Int64} {C n ts : Nat} {T : lm_T} {R : Nat → Int32} {KO : ab_K} {V : ab_V} {tl F : Nat → Int32} {B D : Nat} (Z : okZ B D T n R KO V ts tl) {k : Nat} (hk1 : 1 ≤ k) (hk4 : k ≤ 4) (hn10 : n ≤ 10) (hC : C + 25 < 2147483648) {Po : Option Value → lm_H → Prop} (kc : ∀ (c ms : Int32) (hi' : Nat → Nat → Int32) (x6 : Value), cP hi0 hl0 hi' hl X (C + 2 * n) T n R KO V ts tl F → lm_wp (d + 30) 122 104 [.ref 64, .int (nI k), .int (nI (awk (R 10))), .int (aI (whS T n k (R 10) n).1), .int ms, .int c, x6] [] (hi', hl, X) Po) : ∀ (r m : Nat) (hi' : Nat → Nat → Int32) (fs : Int32) (ms : Int32) (mk : Int32) (x6 : Value), m + r = n → (fs = aI (whS T n k (R 10) m).1) → (ms = (whS T n k (R 10) m).2) → (mk = nI m) → (cP hi0 hl0 hi' hl X (C + 2 * m) T n R KO V ts tl F) → lm_wp (d + 30) 122 48 [.ref 64, .int (nI k), .int (nI (awk (R 10))), .int fs, .int ms, .int mk, x6] [] (hi', hl, X) Po := by
  intro r
  induction r with
  | zero =>
    intro m hi' fs ms mk x6 hm e1 e3 e2 P
    obtain ⟨S, O, H, HR, FO, HV, HT, HF, HK, E0, EL0⟩ := id P
    refine w_N 2 51 [.ref 64, .int (nI k), .int (nI (awk (R 10))), .int fs, .int ms, .int mk, x6] [.ref 64, .int mk] rfl ?_
    refine w_gr 65 rfl rfl rfl (A_k S 64 (by decide)) (A_r S 64 0 (by decide)) ?_
    refine w_gi (v := nI n) rfl rfl rfl (T_kd (A_T65 S)) (isTn H) ?_
    refine w_icmp_ge_t (t := 104) rfl rfl (by rw [e2, show m = n by omega]; exact fun z => Int32.lt_irrefl z) ?_
    obtain rfl : m = n := by omega
    rw [e1]
    exact kc _ _ _ _ P
  | succ r ih =>
    intro m hi' fs ms mk x6 hm e1 e3 e2 P
    obtain ⟨S, O, H, HR, FO, HV, HT, HF, HK, E0, EL0⟩ := id P
    obtain ⟨hT, hO, hV, hts, htl, hDB, hB0, hKO⟩ := id Z
    refine w_N 2 51 [.ref 64, .int (nI k), .int (nI (awk (R 10))), .int fs, .int ms, .int mk, x6] [.ref 64, .int mk] rfl ?_
    refine w_gr 65 rfl rfl rfl (A_k S 64 (by decide)) (A_r S 64 0 (by decide)) ?_
    refine w_gi (v := nI n) rfl rfl rfl (T_kd (A_T65 S)) (isTn H) ?_
    refine w_icmp_ge_f (t := 104) rfl rfl (by rw [e2]; exact nI_lt (by omega) (by omega)) ?_
    refine w_N 1 61 [.ref 64, .int (nI k), .int (nI (awk (R 10))), .int fs, .int ms, .int mk, x6] [.ref 64] rfl ?_
    refine w_gr 65 rfl rfl rfl (A_k S 64 (by decide)) (A_r S 64 0 (by decide)) ?_
    refine w_N 4 69 [.ref 64, .int (nI k), .int (nI (awk (R 10))), .int fs, .int ms, .int mk, x6] [.int mk, .int (1 - (nI (awk (R 10)))), .ref 65] rfl ?_
    rw [one_sub]
    refine w_cc (w_vst rfl rfl rfl (Nat.le_of_ble_eq_true rfl) (Nat.le_of_ble_eq_true rfl) (T_kd (A_T65 S))) (t_isLockedE (d := d + 29) (hf := 1 - awk (R 10)) (A_T65 S) H e2 (by omega)) ?_
    show lm_wp _ 122 72 [.ref 64, .int (nI k), .int (nI (awk (R 10))), .int fs, .int ms, .int mk, x6] [.int (bz (lkd (T 6 m) (1 - awk (R 10))))] (hi', hl, X) _
    refine w_zne (t := 98) rfl rfl (fun c1 => ?_) (fun c1 => ?_)
    · refine w_N 2 48 [.ref 64, .int (nI k), .int (nI (awk (R 10))), .int fs, .int ms, .int (mk + 1), x6] [] rfl ?_
      refine ih (m + 1) _ _ _ _ _ (by omega) ?_ ?_ (by rw [e2, nI_succ]) (cP_C P (by omega) (by omega))
      · show _ = aI (if lkd (T 6 m) (1 - awk (R 10)) = false ∧ (whS T n k (R 10) m).2 < gAt (bst (lkT T m (awk (R 10))) n k (R 10)) (awk (R 10)) then (m + 1, gAt (bst (lkT T m (awk (R 10))) n k (R 10)) (awk (R 10))) else whS T n k (R 10) m).1
        rw [if_neg (fun z => by rw [c1] at z; exact absurd z.1 (by decide))]; exact e1
      · show _ = (if lkd (T 6 m) (1 - awk (R 10)) = false ∧ (whS T n k (R 10) m).2 < gAt (bst (lkT T m (awk (R 10))) n k (R 10)) (awk (R 10)) then (m + 1, gAt (bst (lkT T m (awk (R 10))) n k (R 10)) (awk (R 10))) else whS T n k (R 10) m).2
        rw [if_neg (fun z => by rw [c1] at z; exact absurd z.1 (by decide))]; exact e3
    · refine w_N 3 79 [.ref 64, .int (nI k), .int (nI (awk (R 10))), .int fs, .int ms, .int mk, x6] [.int (nI k), .int mk, .ref 64] rfl ?_
      refine w_ca (w_vst rfl rfl rfl (Nat.le_of_ble_eq_true rfl) (Nat.le_of_ble_eq_true rfl) (A_k S 64 (by decide))) (x_gwlE (d := d + 9) e2 P Z (show m < n by omega) hk1 hk4 c1 (by omega)) ?_
      rintro _ _ ⟨rfl, h7x, rfl, P⟩
      obtain ⟨S, O, H, HR, FO, HV, HT, HF, HK, E0, EL0⟩ := id P
      show lm_wp _ 122 82 [.ref 64, .int (nI k), .int (nI (awk (R 10))), .int fs, .int ms, .int mk, x6] [.int (gAt (bst (lkT T m (awk (R 10))) n k (R 10)) (awk (R 10)))] (h7x, hl, X) _
      refine w_N 3 88 [.ref 64, .int (nI k), .int (nI (awk (R 10))), .int fs, .int ms, .int mk, .int (gAt (bst (lkT T m (awk (R 10))) n k (R 10)) (awk (R 10)))] [.int ms, .int (gAt (bst (lkT T m (awk (R 10))) n k (R 10)) (awk (R 10)))] rfl ?_
      refine w_icmp_le (t := 98) rfl rfl (fun c2 => ?_) (fun c2 => ?_)
      · refine w_N 2 48 [.ref 64, .int (nI k), .int (nI (awk (R 10))), .int fs, .int ms, .int (mk + 1), .int (gAt (bst (lkT T m (awk (R 10))) n k (R 10)) (awk (R 10)))] [] rfl ?_
        refine ih (m + 1) _ _ _ _ _ (by omega) ?_ ?_ (by rw [e2, nI_succ]) (cP_C P (by omega) (by omega))
        · show _ = aI (if lkd (T 6 m) (1 - awk (R 10)) = false ∧ (whS T n k (R 10) m).2 < gAt (bst (lkT T m (awk (R 10))) n k (R 10)) (awk (R 10)) then (m + 1, gAt (bst (lkT T m (awk (R 10))) n k (R 10)) (awk (R 10))) else whS T n k (R 10) m).1
          rw [if_neg (fun z => c2 (by rw [e3]; exact z.2))]; exact e1
        · show _ = (if lkd (T 6 m) (1 - awk (R 10)) = false ∧ (whS T n k (R 10) m).2 < gAt (bst (lkT T m (awk (R 10))) n k (R 10)) (awk (R 10)) then (m + 1, gAt (bst (lkT T m (awk (R 10))) n k (R 10)) (awk (R 10))) else whS T n k (R 10) m).2
          rw [if_neg (fun z => c2 (by rw [e3]; exact z.2))]; exact e3
      · refine w_N 6 48 [.ref 64, .int (nI k), .int (nI (awk (R 10))), .int mk, .int (gAt (bst (lkT T m (awk (R 10))) n k (R 10)) (awk (R 10))), .int (mk + 1), .int (gAt (bst (lkT T m (awk (R 10))) n k (R 10)) (awk (R 10)))] [] rfl ?_
        refine ih (m + 1) _ _ _ _ _ (by omega) ?_ ?_ (by rw [e2, nI_succ]) (cP_C P (by omega) (by omega))
        · show _ = aI (if lkd (T 6 m) (1 - awk (R 10)) = false ∧ (whS T n k (R 10) m).2 < gAt (bst (lkT T m (awk (R 10))) n k (R 10)) (awk (R 10)) then (m + 1, gAt (bst (lkT T m (awk (R 10))) n k (R 10)) (awk (R 10))) else whS T n k (R 10) m).1
          rw [if_pos ⟨c1, by rw [← e3]; exact c2⟩]; exact e2
        · show _ = (if lkd (T 6 m) (1 - awk (R 10)) = false ∧ (whS T n k (R 10) m).2 < gAt (bst (lkT T m (awk (R 10))) n k (R 10)) (awk (R 10)) then (m + 1, gAt (bst (lkT T m (awk (R 10))) n k (R 10)) (awk (R 10))) else whS T n k (R 10) m).2
          rw [if_pos ⟨c1, by rw [← e3]; exact c2⟩]
theorem x_which {d : Nat} {hi : Nat → Nat → Int32} {hl : Nat → Nat → Int64} {X : lm_X} {hi0 : Nat → Nat → Int32} {hl0 : Nat → Nat → Int64} {C n ts : Nat} {T : lm_T} {R : Nat → Int32} {KO : ab_K} {V : ab_V} {tl F : Nat → Int32} (P : cP hi0 hl0 hi hl X C T n R KO V ts tl F) {B D : Nat} (Z : okZ B D T n R KO V ts tl) {k : Nat} (hk1 : 1 ≤ k) (hk4 : k ≤ 4) (hC : C + 25 < 2147483648) : lm_w (d + 30) 122 [.ref 64, .int (nI k)] (hi, hl, X) (cQ hi0 hl0 X (C + 25) (.int (aI (whS T n k (R 10) n).1)) T n R KO V ts tl F) := by
  obtain ⟨S, O, H, HR, FO, HV, HT, HF, HK, E0, EL0⟩ := id P
  obtain ⟨hT, hO, hV, hts, htl, hDB, hB0, hKO⟩ := id Z
  have hn10 := isTle H
  refine lm_w_in (Nat.le_of_ble_eq_true rfl) ?_
  show lm_wp (d + 30) 122 0 [.ref 64, .int (nI k), lm_jk, lm_jk, lm_jk, lm_jk, lm_jk] [] (hi, hl, X) _
  refine w_N 1 1 [.ref 64, .int (nI k), lm_jk, lm_jk, lm_jk, lm_jk, lm_jk] [.int (nI k)] rfl ?_
  refine w_cc rfl (x_isAhead1 (wi_t1 (n := 4) hk1 hk4 (by decide))) ?_
  show lm_wp _ 122 4 [.ref 64, .int (nI k), lm_jk, lm_jk, lm_jk, lm_jk, lm_jk] [.int 1] (hi, hl, X) _
  refine w_if_ne_t (t := 14) rfl rfl (by decide) ?_
  refine w_N 1 15 [.ref 64, .int (nI k), lm_jk, lm_jk, lm_jk, lm_jk, lm_jk] [.ref 64] rfl ?_
  refine w_gr 65 rfl rfl rfl (A_k S 64 (by decide)) (A_r S 64 0 (by decide)) ?_
  refine w_gi (v := R 10) rfl rfl rfl (T_kd (A_T65 S)) (HR.1) ?_
  refine w_cc rfl (c_awkz rfl) ?_
  show lm_wp _ 122 24 [.ref 64, .int (nI k), lm_jk, lm_jk, lm_jk, lm_jk, lm_jk] [.int (nI (awk (R 10)))] (hi, hl, X) _
  refine w_N 4 28 [.ref 64, .int (nI k), .int (nI (awk (R 10))), .int (-1), lm_jk, lm_jk, lm_jk] [.ref 64] rfl ?_
  refine w_gr 98 rfl rfl rfl (A_k S 64 (by decide)) (A_r S 64 6 (by decide)) ?_
  refine w_N 2 33 [.ref 64, .int (nI k), .int (nI (awk (R 10))), .int (-1), lm_jk, lm_jk, lm_jk] [.ref 64, .int (nI (awk (R 10))), .ref 98] rfl ?_
  refine w_gr 65 rfl rfl rfl (A_k S 64 (by decide)) (A_r S 64 0 (by decide)) ?_
  refine w_gi (v := R 10) rfl rfl rfl (T_kd (A_T65 S)) (HR.1) ?_
  refine w_N 1 40 [.ref 64, .int (nI k), .int (nI (awk (R 10))), .int (-1), lm_jk, lm_jk, lm_jk] [.int (nI k), .int (R 10), .int (nI (awk (R 10))), .ref 98] rfl ?_
  refine w_ca (w_vst rfl rfl rfl (Nat.le_of_ble_eq_true rfl) (Nat.le_of_ble_eq_true rfl) (A_k S 98 (by decide))) (f_gainOf (d := d + 16) (hf := awk (R 10)) S FO H hT hO.1 hk1 (show k ≤ 4 by omega) (awk_lt _)) ?_
  rintro _ _ ⟨hx5, rfl, rfl, f_hx5, FO_hx5⟩
  have P := cP_fore P (fr_mono f_hx5 (by decide)) FO_hx5
  obtain ⟨S, O, H, HR, FO, HV, HT, HF, HK, E0, EL0⟩ := id P
  show lm_wp _ 122 43 [.ref 64, .int (nI k), .int (nI (awk (R 10))), .int (-1), lm_jk, lm_jk, lm_jk] [.int (gAt (bst T n k (R 10)) (awk (R 10)))] (hx5, hl, X) _
  refine w_N 3 48 [.ref 64, .int (nI k), .int (nI (awk (R 10))), .int (-1), .int (gAt (bst T n k (R 10)) (awk (R 10))), .int 0, lm_jk] [] rfl ?_
  refine x_which1 (hi := hi) Z hk1 hk4 hn10 hC (fun c ms h8x x6 P => ?_) n 0 _ _ _ _ _ (by omega) rfl rfl rfl P
  refine w_N 1 105 _ [.int (aI (whS T n k (R 10) n).1)] rfl ?_
  refine w_ri rfl rfl ?_
  exact cq_ P (by omega) hC
theorem y_which1 {d : Nat} {hi : Nat → Nat → Int32} {hl : Nat → Nat → Int64} {X : lm_X} {hi0 : Nat → Nat → Int32} {hl0 : Nat → Nat → Int64} {X0 : lm_X} {n ts : Nat} {T : lm_T} {R : Nat → Int32} {KO : ab_K} {V : ab_V} {tl F : Nat → Int32} {B D : Nat} (Z : okZ B D T n R KO V ts tl) {k : Nat} (hk1 : 1 ≤ k) (hk4 : k ≤ 4) (hn10 : n ≤ 10) {Po : Option Value → lm_H → Prop} (kc : ∀ (c ms : Int32) (hi' : Nat → Nat → Int32) (hl' : Nat → Nat → Int64) (X' : lm_X) (x5 : Value), mP hi0 hl0 X0 hi' hl' X' T n R KO V ts tl F → lm_wp (d + 30) 215 70 [.ref 123, .int (nI k), .int (aI (whS T n k (R 10) n).1), .int ms, .int c, x5] [] (hi', hl', X') Po) : ∀ (r m : Nat) (hi' : Nat → Nat → Int32) (hl' : Nat → Nat → Int64) (X' : lm_X) (fs : Int32) (ms : Int32) (mk : Int32) (x5 : Value), m + r = n → (fs = aI (whS T n k (R 10) m).1) → (ms = (whS T n k (R 10) m).2 - gAt (bst T n k (R 10)) (awk (R 10))) → (mk = nI m) → (mP hi0 hl0 X0 hi' hl' X' T n R KO V ts tl F) → lm_wp (d + 30) 215 21 [.ref 123, .int (nI k), .int fs, .int ms, .int mk, x5] [] (hi', hl', X') Po := by
  intro r
  induction r with
  | zero =>
    intro m hi' hl' X' fs ms mk x5 hm e1 e3 e2 P
    obtain ⟨SR, O, H, HR, HV, HT, HF, HK, E0, EL0, EX0⟩ := id P
    have S := SR.1
    refine w_N 2 24 [.ref 123, .int (nI k), .int fs, .int ms, .int mk, x5] [.ref 123, .int mk] rfl ?_
    refine w_gi (v := nI n) rfl rfl rfl (M_kd S) (rTn H) ?_
    refine w_icmp_ge_t (t := 70) rfl rfl (by rw [e2, show m = n by omega]; exact fun z => Int32.lt_irrefl z) ?_
    obtain rfl : m = n := by omega
    rw [e1]
    exact kc _ _ _ _ _ _ P
  | succ r ih =>
    intro m hi' hl' X' fs ms mk x5 hm e1 e3 e2 P
    obtain ⟨SR, O, H, HR, HV, HT, HF, HK, E0, EL0, EX0⟩ := id P
    have S := SR.1
    obtain ⟨hT, hO, hV, hts, htl, hDB, hB0, hKO⟩ := id Z
    refine w_N 2 24 [.ref 123, .int (nI k), .int fs, .int ms, .int mk, x5] [.ref 123, .int mk] rfl ?_
    refine w_gi (v := nI n) rfl rfl rfl (M_kd S) (rTn H) ?_
    refine w_icmp_ge_f (t := 70) rfl rfl (by rw [e2]; exact nI_lt (by omega) (by omega)) ?_
    refine w_N 2 33 [.ref 123, .int (nI k), .int fs, .int ms, .int mk, x5] [.int mk, .ref 123] rfl ?_
    refine w_cc (w_vst rfl rfl rfl (Nat.le_of_ble_eq_true rfl) (Nat.le_of_ble_eq_true rfl) (M_kd S)) (m_isLocked (d := d + 19) P Z e2 (show m < n by omega)) ?_
    show lm_wp _ 215 36 [.ref 123, .int (nI k), .int fs, .int ms, .int mk, x5] [.int (bz (lkd (T 6 m) (1 - awk (R 10))))] (hi', hl', X') _
    refine w_zeq (t := 43) rfl rfl (fun c1 => ?_) (fun c1 => ?_)
    · refine w_N 3 47 [.ref 123, .int (nI k), .int fs, .int ms, .int mk, x5] [.int (nI k), .int mk, .ref 123] rfl ?_
      refine w_ca (w_vst rfl rfl rfl (Nat.le_of_ble_eq_true rfl) (Nat.le_of_ble_eq_true rfl) (M_kd S)) (m_lockingOf (d := d + 9) P Z e2 (show m < n by omega) hk1 hk4 c1) ?_
      rintro _ _ ⟨rfl, h7x, hl7, X7, rfl, P⟩
      have b1 := gAt_bd (T := lkT T m (awk (R 10))) (n := n) (k := k) (h := awk (R 10)) (s := R 10) (okT_lk hT (by omega) (awk_lt _)) hk4
      have b2 := gAt_bd (T := T) (n := n) (k := k) (h := awk (R 10)) (s := R 10) hT hk4
      have b3 := wh_bd (s := R 10) hT hk4 m (by omega)
      have eq : (whS T n k (R 10) m).2 - gAt (bst T n k (R 10)) (awk (R 10)) < gAt (bst (lkT T m (awk (R 10))) n k (R 10)) (awk (R 10)) - gAt (bst T n k (R 10)) (awk (R 10)) ↔ (whS T n k (R 10) m).2 < gAt (bst (lkT T m (awk (R 10))) n k (R 10)) (awk (R 10)) := by rw [i32_lt, i32_lt, sub_bd b3.1 b2, sub_bd b1 b2]; constructor <;> (intro z; omega)
      obtain ⟨SR, O, H, HR, HV, HT, HF, HK, E0, EL0, EX0⟩ := id P
      have S := SR.1
      show lm_wp _ 215 50 [.ref 123, .int (nI k), .int fs, .int ms, .int mk, x5] [.int (gAt (bst (lkT T m (awk (R 10))) n k (R 10)) (awk (R 10)) - gAt (bst T n k (R 10)) (awk (R 10)))] (h7x, hl7, X7) _
      refine w_N 3 55 [.ref 123, .int (nI k), .int fs, .int ms, .int mk, .int (gAt (bst (lkT T m (awk (R 10))) n k (R 10)) (awk (R 10)) - gAt (bst T n k (R 10)) (awk (R 10)))] [.int ms, .int (gAt (bst (lkT T m (awk (R 10))) n k (R 10)) (awk (R 10)) - gAt (bst T n k (R 10)) (awk (R 10)))] rfl ?_
      refine w_icmp_le (t := 64) rfl rfl (fun c2 => ?_) (fun c2 => ?_)
      · refine w_N 2 21 [.ref 123, .int (nI k), .int fs, .int ms, .int (mk + 1), .int (gAt (bst (lkT T m (awk (R 10))) n k (R 10)) (awk (R 10)) - gAt (bst T n k (R 10)) (awk (R 10)))] [] rfl ?_
        refine ih (m + 1) _ _ _ _ _ _ _ (by omega) ?_ ?_ (by rw [e2, nI_succ]) P
        · show _ = aI (if lkd (T 6 m) (1 - awk (R 10)) = false ∧ (whS T n k (R 10) m).2 < gAt (bst (lkT T m (awk (R 10))) n k (R 10)) (awk (R 10)) then (m + 1, gAt (bst (lkT T m (awk (R 10))) n k (R 10)) (awk (R 10))) else whS T n k (R 10) m).1
          rw [if_neg (fun z => c2 (by rw [e3]; exact eq.mpr z.2))]; exact e1
        · show _ = (if lkd (T 6 m) (1 - awk (R 10)) = false ∧ (whS T n k (R 10) m).2 < gAt (bst (lkT T m (awk (R 10))) n k (R 10)) (awk (R 10)) then (m + 1, gAt (bst (lkT T m (awk (R 10))) n k (R 10)) (awk (R 10))) else whS T n k (R 10) m).2 - gAt (bst T n k (R 10)) (awk (R 10))
          rw [if_neg (fun z => c2 (by rw [e3]; exact eq.mpr z.2))]; exact e3
      · refine w_N 6 21 [.ref 123, .int (nI k), .int mk, .int (gAt (bst (lkT T m (awk (R 10))) n k (R 10)) (awk (R 10)) - gAt (bst T n k (R 10)) (awk (R 10))), .int (mk + 1), .int (gAt (bst (lkT T m (awk (R 10))) n k (R 10)) (awk (R 10)) - gAt (bst T n k (R 10)) (awk (R 10)))] [] rfl ?_
        refine ih (m + 1) _ _ _ _ _ _ _ (by omega) ?_ ?_ (by rw [e2, nI_succ]) P
        · show _ = aI (if lkd (T 6 m) (1 - awk (R 10)) = false ∧ (whS T n k (R 10) m).2 < gAt (bst (lkT T m (awk (R 10))) n k (R 10)) (awk (R 10)) then (m + 1, gAt (bst (lkT T m (awk (R 10))) n k (R 10)) (awk (R 10))) else whS T n k (R 10) m).1
          rw [if_pos ⟨c1, eq.mp (by rw [← e3]; exact c2)⟩]; exact e2
        · show _ = (if lkd (T 6 m) (1 - awk (R 10)) = false ∧ (whS T n k (R 10) m).2 < gAt (bst (lkT T m (awk (R 10))) n k (R 10)) (awk (R 10)) then (m + 1, gAt (bst (lkT T m (awk (R 10))) n k (R 10)) (awk (R 10))) else whS T n k (R 10) m).2 - gAt (bst T n k (R 10)) (awk (R 10))
          rw [if_pos ⟨c1, eq.mp (by rw [← e3]; exact c2)⟩]
    · refine w_N 5 55 [.ref 123, .int (nI k), .int fs, .int ms, .int mk, .int 0] [.int ms, .int 0] rfl ?_
      refine w_icmp_le (t := 64) rfl rfl (fun c3 => ?_) (fun c3 => ?_)
      · refine w_N 2 21 [.ref 123, .int (nI k), .int fs, .int ms, .int (mk + 1), .int 0] [] rfl ?_
        refine ih (m + 1) _ _ _ _ _ _ _ (by omega) ?_ ?_ (by rw [e2, nI_succ]) P
        · show _ = aI (if lkd (T 6 m) (1 - awk (R 10)) = false ∧ (whS T n k (R 10) m).2 < gAt (bst (lkT T m (awk (R 10))) n k (R 10)) (awk (R 10)) then (m + 1, gAt (bst (lkT T m (awk (R 10))) n k (R 10)) (awk (R 10))) else whS T n k (R 10) m).1
          rw [if_neg (fun z => by rw [c1] at z; exact absurd z.1 (by decide))]; exact e1
        · show _ = (if lkd (T 6 m) (1 - awk (R 10)) = false ∧ (whS T n k (R 10) m).2 < gAt (bst (lkT T m (awk (R 10))) n k (R 10)) (awk (R 10)) then (m + 1, gAt (bst (lkT T m (awk (R 10))) n k (R 10)) (awk (R 10))) else whS T n k (R 10) m).2 - gAt (bst T n k (R 10)) (awk (R 10))
          rw [if_neg (fun z => by rw [c1] at z; exact absurd z.1 (by decide))]; exact e3
      · refine w_N 6 21 [.ref 123, .int (nI k), .int mk, .int 0, .int (mk + 1), .int 0] [] rfl ?_
        exfalso
        have b3 := wh_bd (s := R 10) hT hk4 m (by omega)
        have b2 := gAt_bd (T := T) (n := n) (k := k) (h := awk (R 10)) (s := R 10) hT hk4
        have q := c3
        rw [e3, i32_lt, sub_bd b3.1 b2, i32_0] at q
        omega
theorem y_which {d : Nat} {hi : Nat → Nat → Int32} {hl : Nat → Nat → Int64} {X : lm_X} {hi0 : Nat → Nat → Int32} {hl0 : Nat → Nat → Int64} {X0 : lm_X} {n ts : Nat} {T : lm_T} {R : Nat → Int32} {KO : ab_K} {V : ab_V} {tl F : Nat → Int32} (P : mP hi0 hl0 X0 hi hl X T n R KO V ts tl F) {B D : Nat} (Z : okZ B D T n R KO V ts tl) {k : Nat} (hk1 : 1 ≤ k) (hk4 : k ≤ 4) : lm_w (d + 30) 215 [.ref 123, .int (nI k)] (hi, hl, X) (mQ hi0 hl0 X0 (.int (aI (whS T n k (R 10) n).1)) T n R KO V ts tl F) := by
  obtain ⟨SR, O, H, HR, HV, HT, HF, HK, E0, EL0, EX0⟩ := id P
  have S := SR.1
  obtain ⟨hT, hO, hV, hts, htl, hDB, hB0, hKO⟩ := id Z
  have hn10 := rTle H
  refine lm_w_in (Nat.le_of_ble_eq_true rfl) ?_
  show lm_wp (d + 30) 215 0 [.ref 123, .int (nI k), lm_jk, lm_jk, lm_jk, lm_jk] [] (hi, hl, X) _
  refine w_N 1 1 [.ref 123, .int (nI k), lm_jk, lm_jk, lm_jk, lm_jk] [.int (nI k)] rfl ?_
  refine w_cc rfl (lm_c_1 m_areDays (wi_t1 (n := 4) hk1 hk4 (by decide))) ?_
  show lm_wp _ 215 4 [.ref 123, .int (nI k), lm_jk, lm_jk, lm_jk, lm_jk] [.int 1] (hi, hl, X) _
  refine w_if_ne_t (t := 14) rfl rfl (by decide) ?_
  refine w_N 6 21 [.ref 123, .int (nI k), .int (-1), .int 0, .int 0, lm_jk] [] rfl ?_
  refine y_which1 (hi := hi) (hl := hl) (X := X) Z hk1 hk4 hn10 (fun c ms h8x hl8 X8 x5 P => ?_) n 0 _ _ _ _ _ _ _ (by omega) rfl (Int32.sub_self _).symm rfl P
  refine w_N 1 71 _ [.int (aI (whS T n k (R 10) n).1)] rfl ?_
  refine w_ri rfl rfl ?_
  exact mq_ P
theorem st_which {B D : Nat} {n ts : Nat} {T : lm_T} {R : Nat → Int32} {KO : ab_K} {V : ab_V} {tl F : Nat → Int32} {k : Int32} (Z : okZ B D T n R KO V ts tl) (hB : B + 20 < 2000000) : STEP B 122 215 [.int k] T n R KO V ts tl F := by
  obtain ⟨hT, hO, hV, hts, htl, hDB, hB0, hKO⟩ := id Z
  cases hb : wi k 1 4
  · exact ⟨_, D, _, _, _, _, _, _, _, _, okZ_up Z hB, fun _ _ _ _ _ _ P hC => x_which_b (d := 10) P hb hC, fun _ _ _ _ _ _ P => y_which_b (d := 10) P hb⟩
  · obtain ⟨k, rfl, hk1, hk4⟩ := wi_e1 (n := 4) hb (by decide)
    exact ⟨_, D, _, _, _, _, _, _, _, _, okZ_up Z hB, fun _ _ _ _ _ _ P hC => x_which (d := 10) P Z hk1 hk4 hC, fun _ _ _ _ _ _ P => y_which (d := 10) P Z hk1 hk4⟩
