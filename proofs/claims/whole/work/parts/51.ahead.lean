set_option maxRecDepth 16384
/-! calls: best, together, harm, work, reach, found -/
theorem sub_sub' (a b c : Int32) : a - b - c = a - (b + c) := by
  rw [Int32.sub_eq_add_neg, Int32.sub_eq_add_neg, Int32.sub_eq_add_neg, Int32.neg_add, Int32.add_assoc]
  congr 1
  exact (Int32.sub_eq_add_neg _ _).symm
theorem x_best_b {d : Nat} {hi : Nat → Nat → Int32} {hl : Nat → Nat → Int64} {X : lm_X} {hi0 : Nat → Nat → Int32} {hl0 : Nat → Nat → Int64} {C n ts : Nat} {T : lm_T} {R : Nat → Int32} {KO : ab_K} {V : ab_V} {tl F : Nat → Int32} (P : cP hi0 hl0 hi hl X C T n R KO V ts tl F) {k w : Int32}  (hb : (wi k 1 4 && wi w 0 2) = false) (hC : C + 25 < 2147483648) : lm_w (d + 30) 112 [.ref 64, .int k, .int w] (hi, hl, X) (cQ hi0 hl0 X (C + 25) (.int (-1000002)) T n R KO V ts tl (rfU F (-2))) := by
  obtain ⟨S, O, H, HR, FO, HV, HT, HF, HK, E0, EL0⟩ := id P
  refine lm_w_in (Nat.le_of_ble_eq_true rfl) ?_
  show lm_wp (d + 30) 112 0 [.ref 64, .int k, .int w] [] (hi, hl, X) _
  refine w_N 1 1 [.ref 64, .int k, .int w] [.int k] rfl ?_
  refine w_cc rfl x_isAhead ?_
  show lm_wp _ 112 4 [.ref 64, .int k, .int w] [.int (bz (wi k 1 4))] (hi, hl, X) _
  refine w_zeq (t := 16) rfl rfl (fun c1 => ?_) (fun c1 => ?_)
  · refine w_N 2 19 [.ref 64, .int k, .int w] [.int (-2), .ref 64] rfl ?_
    refine w_ca (w_vst rfl rfl rfl (Nat.le_of_ble_eq_true rfl) (Nat.le_of_ble_eq_true rfl) (A_k S 64 (by decide))) (x_refuseGain P (by unfold isW; decide)) ?_
    rintro _ _ ⟨rfl, hi9, rfl, P9⟩
    show lm_wp _ 112 22 [.ref 64, .int k, .int w] [.int (-1000002)] (hi9, hl, X) _
    refine w_ri rfl rfl ?_
    exact cq_ P9 (by omega) hC
  · refine w_N 3 10 [.ref 64, .int k, .int w] [.int 2, .int 0, .int w] rfl ?_
    refine w_cc rfl x_within ?_
    show lm_wp _ 112 13 [.ref 64, .int k, .int w] [.int (bz (wi w 0 2))] (hi, hl, X) _
    refine w_zne (t := 23) rfl rfl (fun c2 => ?_) (fun c2 => ?_)
    · exact absurd hb (by simp [c1, c2])
    · refine w_N 2 19 [.ref 64, .int k, .int w] [.int (-2), .ref 64] rfl ?_
      refine w_ca (w_vst rfl rfl rfl (Nat.le_of_ble_eq_true rfl) (Nat.le_of_ble_eq_true rfl) (A_k S 64 (by decide))) (x_refuseGain P (by unfold isW; decide)) ?_
      rintro _ _ ⟨rfl, hi9, rfl, P9⟩
      show lm_wp _ 112 22 [.ref 64, .int k, .int w] [.int (-1000002)] (hi9, hl, X) _
      refine w_ri rfl rfl ?_
      exact cq_ P9 (by omega) hC
theorem y_best_b {d : Nat} {hi : Nat → Nat → Int32} {hl : Nat → Nat → Int64} {X : lm_X} {hi0 : Nat → Nat → Int32} {hl0 : Nat → Nat → Int64} {X0 : lm_X} {n ts : Nat} {T : lm_T} {R : Nat → Int32} {KO : ab_K} {V : ab_V} {tl F : Nat → Int32} (P : mP hi0 hl0 X0 hi hl X T n R KO V ts tl F) {k w : Int32}  (hb : (wi k 1 4 && wi w 0 2) = false) : lm_w (d + 30) 199 [.ref 123, .int k, .int w] (hi, hl, X) (mQ hi0 hl0 X0 (.int (-1000002)) T n R KO V ts tl (rfU F (-2))) := by
  obtain ⟨SR, O, H, HR, HV, HT, HF, HK, E0, EL0, EX0⟩ := id P
  have S := SR.1
  refine lm_w_in (Nat.le_of_ble_eq_true rfl) ?_
  show lm_wp (d + 30) 199 0 [.ref 123, .int k, .int w] [] (hi, hl, X) _
  refine w_N 1 1 [.ref 123, .int k, .int w] [.int k] rfl ?_
  refine w_cc rfl m_areDays ?_
  show lm_wp _ 199 4 [.ref 123, .int k, .int w] [.int (bz (wi k 1 4))] (hi, hl, X) _
  refine w_zeq (t := 19) rfl rfl (fun c1 => ?_) (fun c1 => ?_)
  · refine w_N 3 24 [.ref 123, .int k, .int w] [.int (-2), .ref 123, .int (-1000000)] rfl ?_
    refine w_ca (w_vst rfl rfl rfl (Nat.le_of_ble_eq_true rfl) (Nat.le_of_ble_eq_true rfl) (M_kd S)) (m_refuse P (by unfold isW; decide)) ?_
    rintro _ _ ⟨rfl, hi9, rfl, P9⟩
    show lm_wp _ 199 27 [.ref 123, .int k, .int w] [.int (-2), .int (-1000000)] (hi9, hl, X) _
    refine w_N 1 28 [.ref 123, .int k, .int w] [.int (-1000002)] rfl ?_
    refine w_ri rfl rfl ?_
    exact mq_ P9
  · refine w_N 4 13 [.ref 123, .int k, .int w] [.long 2, .long 0, .long w.toInt64] rfl ?_
    refine w_cc rfl (m_in (x := w) (lo := 0) (up := 2) rfl (by decide) (by decide)) ?_
    show lm_wp _ 199 16 [.ref 123, .int k, .int w] [.int (bz (wi w 0 2))] (hi, hl, X) _
    refine w_zne (t := 29) rfl rfl (fun c2 => ?_) (fun c2 => ?_)
    · exact absurd hb (by simp [c1, c2])
    · refine w_N 3 24 [.ref 123, .int k, .int w] [.int (-2), .ref 123, .int (-1000000)] rfl ?_
      refine w_ca (w_vst rfl rfl rfl (Nat.le_of_ble_eq_true rfl) (Nat.le_of_ble_eq_true rfl) (M_kd S)) (m_refuse P (by unfold isW; decide)) ?_
      rintro _ _ ⟨rfl, hi9, rfl, P9⟩
      show lm_wp _ 199 27 [.ref 123, .int k, .int w] [.int (-2), .int (-1000000)] (hi9, hl, X) _
      refine w_N 1 28 [.ref 123, .int k, .int w] [.int (-1000002)] rfl ?_
      refine w_ri rfl rfl ?_
      exact mq_ P9
theorem x_best0 {d : Nat} {hi : Nat → Nat → Int32} {hl : Nat → Nat → Int64} {X : lm_X} {hi0 : Nat → Nat → Int32} {hl0 : Nat → Nat → Int64} {C n ts : Nat} {T : lm_T} {R : Nat → Int32} {KO : ab_K} {V : ab_V} {tl F : Nat → Int32} (P : cP hi0 hl0 hi hl X C T n R KO V ts tl F) {B D : Nat} (Z : okZ B D T n R KO V ts tl) {k : Nat} (hk1 : 1 ≤ k) (hk4 : k ≤ 4) (hC : C + 25 < 2147483648) : lm_w (d + 30) 112 [.ref 64, .int (nI k), .int 0] (hi, hl, X) (cQ hi0 hl0 X (C + 25) (.int (gAt (bst T n k (R 10)) 0)) T n R KO V ts tl F) := by
  obtain ⟨S, O, H, HR, FO, HV, HT, HF, HK, E0, EL0⟩ := id P
  obtain ⟨hT, hO, hV, hts, htl, hDB, hB0, hKO⟩ := id Z
  refine lm_w_in (Nat.le_of_ble_eq_true rfl) ?_
  show lm_wp (d + 30) 112 0 [.ref 64, .int (nI k), .int 0] [] (hi, hl, X) _
  refine w_N 1 1 [.ref 64, .int (nI k), .int 0] [.int (nI k)] rfl ?_
  refine w_cc rfl (x_isAhead1 (wi_t1 (n := 4) hk1 hk4 (by decide))) ?_
  show lm_wp _ 112 4 [.ref 64, .int (nI k), .int 0] [.int 1] (hi, hl, X) _
  refine w_if_eq_f (t := 16) rfl rfl (by decide) ?_
  refine w_N 3 10 [.ref 64, .int (nI k), .int 0] [.int 2, .int 0, .int 0] rfl ?_
  refine w_cc rfl (x_within1 (by decide)) ?_
  show lm_wp _ 112 13 [.ref 64, .int (nI k), .int 0] [.int 1] (hi, hl, X) _
  refine w_if_ne_t (t := 23) rfl rfl (by decide) ?_
  refine w_N 2 25 [.ref 64, .int (nI k), .int 0] [.int 2, .int 0] rfl ?_
  refine w_icmp_ge_f (t := 47) rfl rfl (by decide) ?_
  refine w_N 1 29 [.ref 64, .int (nI k), .int 0] [.ref 64] rfl ?_
  refine w_gr 98 rfl rfl rfl (A_k S 64 (by decide)) (A_r S 64 6 (by decide)) ?_
  refine w_N 2 34 [.ref 64, .int (nI k), .int 0] [.ref 64, .int 0, .ref 98] rfl ?_
  refine w_gr 65 rfl rfl rfl (A_k S 64 (by decide)) (A_r S 64 0 (by decide)) ?_
  refine w_gi (v := R 10) rfl rfl rfl (T_kd (A_T65 S)) (HR.1) ?_
  refine w_N 1 41 [.ref 64, .int (nI k), .int 0] [.int (nI k), .int (R 10), .int 0, .ref 98] rfl ?_
  refine w_ca (w_vst rfl rfl rfl (Nat.le_of_ble_eq_true rfl) (Nat.le_of_ble_eq_true rfl) (A_k S 98 (by decide))) (f_gainOf (d := d + 16) (hf := 0) S FO H hT hO.1 hk1 hk4 (by decide)) ?_
  rintro _ _ ⟨hx1, rfl, rfl, f_hx1, FO_hx1⟩
  have P := cP_fore P (fr_mono f_hx1 (by decide)) FO_hx1
  obtain ⟨S, O, H, HR, FO, HV, HT, HF, HK, E0, EL0⟩ := id P
  show lm_wp _ 112 44 [.ref 64, .int (nI k), .int 0] [.int (gAt (bst T n k (R 10)) 0)] (hx1, hl, X) _
  refine w_N 1 62 [.ref 64, .int (nI k), .int 0] [.int (gAt (bst T n k (R 10)) 0)] rfl ?_
  refine w_ri rfl rfl ?_
  exact cq_ P (by omega) hC
theorem y_best0 {d : Nat} {hi : Nat → Nat → Int32} {hl : Nat → Nat → Int64} {X : lm_X} {hi0 : Nat → Nat → Int32} {hl0 : Nat → Nat → Int64} {X0 : lm_X} {n ts : Nat} {T : lm_T} {R : Nat → Int32} {KO : ab_K} {V : ab_V} {tl F : Nat → Int32} (P : mP hi0 hl0 X0 hi hl X T n R KO V ts tl F) {B D : Nat} (Z : okZ B D T n R KO V ts tl) {k : Nat} (hk1 : 1 ≤ k) (hk4 : k ≤ 4) : lm_w (d + 30) 199 [.ref 123, .int (nI k), .int 0] (hi, hl, X) (mQ hi0 hl0 X0 (.int (gAt (bst T n k (R 10)) 0)) T n R KO V ts tl F) := by
  obtain ⟨SR, O, H, HR, HV, HT, HF, HK, E0, EL0, EX0⟩ := id P
  have S := SR.1
  obtain ⟨hT, hO, hV, hts, htl, hDB, hB0, hKO⟩ := id Z
  refine lm_w_in (Nat.le_of_ble_eq_true rfl) ?_
  show lm_wp (d + 30) 199 0 [.ref 123, .int (nI k), .int 0] [] (hi, hl, X) _
  refine w_N 1 1 [.ref 123, .int (nI k), .int 0] [.int (nI k)] rfl ?_
  refine w_cc rfl (lm_c_1 m_areDays (wi_t1 (n := 4) hk1 hk4 (by decide))) ?_
  show lm_wp _ 199 4 [.ref 123, .int (nI k), .int 0] [.int 1] (hi, hl, X) _
  refine w_if_eq_f (t := 19) rfl rfl (by decide) ?_
  refine w_N 4 13 [.ref 123, .int (nI k), .int 0] [.long 2, .long 0, .long 0] rfl ?_
  refine w_cc rfl (lm_c_1 (m_in (x := 0) (lo := 0) (up := 2) (by decide) (by decide) (by decide)) (by decide)) ?_
  show lm_wp _ 199 16 [.ref 123, .int (nI k), .int 0] [.int 1] (hi, hl, X) _
  refine w_if_ne_t (t := 29) rfl rfl (by decide) ?_
  refine w_N 3 32 [.ref 123, .int (nI k), .int 0] [.ref 123, .int (nI k), .ref 123] rfl ?_
  refine w_gi (v := nI D) rfl rfl rfl (M_kd S) (HR.2.2.1.trans hO.2.2.1) ?_
  refine w_ca (w_vst rfl rfl rfl (Nat.le_of_ble_eq_true rfl) (Nat.le_of_ble_eq_true rfl) (M_kd S)) (m_findBest (d := d + 24) (k := k) S H HR.1 hT hO.2.2.2.1 (by omega) hk1 hk4 rfl rfl) ?_
  rintro _ _ ⟨h5x, rfl, rfl, f5, -, g5a, g5b, g5c⟩
  have P := mP_scr P f5
  obtain ⟨SR, O, H, HR, HV, HT, HF, HK, E0, EL0, EX0⟩ := id P
  have S := SR.1
  show lm_wp _ 199 38 [.ref 123, .int (nI k), .int 0] [] (h5x, hl, X) _
  refine w_N 2 40 [.ref 123, .int (nI k), .int 0] [.int 2, .int 0] rfl ?_
  refine w_icmp_ne_t (t := 52) rfl rfl (by decide) ?_
  refine w_N 1 53 [.ref 123, .int (nI k), .int 0] [.ref 123] rfl ?_
  refine w_gr 159 rfl rfl rfl (M_kd S) (M_r S (k := 33) (o := 36) rfl) ?_
  refine w_N 1 57 [.ref 123, .int (nI k), .int 0] [.int (nI k), .ref 159] rfl ?_
  refine w_aa k (123 + (37 + k)) rfl (M_kk S (o := 36) (by decide)) (show X.2.2.1 (159) = 5 from M_l S 36 (by decide)) rfl (by omega) (by decide) (M_bgr S (by omega)) ?_
  refine w_N 1 59 [.ref 123, .int (nI k), .int 0] [.int 0, .ref (123 + (37 + k))] rfl ?_
  refine w_ia 0 (v := gAt (bst T n k (R 10)) 0) rfl (M_bgk S (by omega)) (M_bgl S (by omega)) rfl (by decide) (by decide) (g5a) ?_
  refine w_ri rfl rfl ?_
  exact mq_ P
theorem x_best1 {d : Nat} {hi : Nat → Nat → Int32} {hl : Nat → Nat → Int64} {X : lm_X} {hi0 : Nat → Nat → Int32} {hl0 : Nat → Nat → Int64} {C n ts : Nat} {T : lm_T} {R : Nat → Int32} {KO : ab_K} {V : ab_V} {tl F : Nat → Int32} (P : cP hi0 hl0 hi hl X C T n R KO V ts tl F) {B D : Nat} (Z : okZ B D T n R KO V ts tl) {k : Nat} (hk1 : 1 ≤ k) (hk4 : k ≤ 4) (hC : C + 25 < 2147483648) : lm_w (d + 30) 112 [.ref 64, .int (nI k), .int 1] (hi, hl, X) (cQ hi0 hl0 X (C + 25) (.int (gAt (bst T n k (R 10)) 1)) T n R KO V ts tl F) := by
  obtain ⟨S, O, H, HR, FO, HV, HT, HF, HK, E0, EL0⟩ := id P
  obtain ⟨hT, hO, hV, hts, htl, hDB, hB0, hKO⟩ := id Z
  refine lm_w_in (Nat.le_of_ble_eq_true rfl) ?_
  show lm_wp (d + 30) 112 0 [.ref 64, .int (nI k), .int 1] [] (hi, hl, X) _
  refine w_N 1 1 [.ref 64, .int (nI k), .int 1] [.int (nI k)] rfl ?_
  refine w_cc rfl (x_isAhead1 (wi_t1 (n := 4) hk1 hk4 (by decide))) ?_
  show lm_wp _ 112 4 [.ref 64, .int (nI k), .int 1] [.int 1] (hi, hl, X) _
  refine w_if_eq_f (t := 16) rfl rfl (by decide) ?_
  refine w_N 3 10 [.ref 64, .int (nI k), .int 1] [.int 2, .int 0, .int 1] rfl ?_
  refine w_cc rfl (x_within1 (by decide)) ?_
  show lm_wp _ 112 13 [.ref 64, .int (nI k), .int 1] [.int 1] (hi, hl, X) _
  refine w_if_ne_t (t := 23) rfl rfl (by decide) ?_
  refine w_N 2 25 [.ref 64, .int (nI k), .int 1] [.int 2, .int 1] rfl ?_
  refine w_icmp_ge_f (t := 47) rfl rfl (by decide) ?_
  refine w_N 1 29 [.ref 64, .int (nI k), .int 1] [.ref 64] rfl ?_
  refine w_gr 98 rfl rfl rfl (A_k S 64 (by decide)) (A_r S 64 6 (by decide)) ?_
  refine w_N 2 34 [.ref 64, .int (nI k), .int 1] [.ref 64, .int 1, .ref 98] rfl ?_
  refine w_gr 65 rfl rfl rfl (A_k S 64 (by decide)) (A_r S 64 0 (by decide)) ?_
  refine w_gi (v := R 10) rfl rfl rfl (T_kd (A_T65 S)) (HR.1) ?_
  refine w_N 1 41 [.ref 64, .int (nI k), .int 1] [.int (nI k), .int (R 10), .int 1, .ref 98] rfl ?_
  refine w_ca (w_vst rfl rfl rfl (Nat.le_of_ble_eq_true rfl) (Nat.le_of_ble_eq_true rfl) (A_k S 98 (by decide))) (f_gainOf (d := d + 16) (hf := 1) S FO H hT hO.1 hk1 hk4 (by decide)) ?_
  rintro _ _ ⟨hx2, rfl, rfl, f_hx2, FO_hx2⟩
  have P := cP_fore P (fr_mono f_hx2 (by decide)) FO_hx2
  obtain ⟨S, O, H, HR, FO, HV, HT, HF, HK, E0, EL0⟩ := id P
  show lm_wp _ 112 44 [.ref 64, .int (nI k), .int 1] [.int (gAt (bst T n k (R 10)) 1)] (hx2, hl, X) _
  refine w_N 1 62 [.ref 64, .int (nI k), .int 1] [.int (gAt (bst T n k (R 10)) 1)] rfl ?_
  refine w_ri rfl rfl ?_
  exact cq_ P (by omega) hC
theorem y_best1 {d : Nat} {hi : Nat → Nat → Int32} {hl : Nat → Nat → Int64} {X : lm_X} {hi0 : Nat → Nat → Int32} {hl0 : Nat → Nat → Int64} {X0 : lm_X} {n ts : Nat} {T : lm_T} {R : Nat → Int32} {KO : ab_K} {V : ab_V} {tl F : Nat → Int32} (P : mP hi0 hl0 X0 hi hl X T n R KO V ts tl F) {B D : Nat} (Z : okZ B D T n R KO V ts tl) {k : Nat} (hk1 : 1 ≤ k) (hk4 : k ≤ 4) : lm_w (d + 30) 199 [.ref 123, .int (nI k), .int 1] (hi, hl, X) (mQ hi0 hl0 X0 (.int (gAt (bst T n k (R 10)) 1)) T n R KO V ts tl F) := by
  obtain ⟨SR, O, H, HR, HV, HT, HF, HK, E0, EL0, EX0⟩ := id P
  have S := SR.1
  obtain ⟨hT, hO, hV, hts, htl, hDB, hB0, hKO⟩ := id Z
  refine lm_w_in (Nat.le_of_ble_eq_true rfl) ?_
  show lm_wp (d + 30) 199 0 [.ref 123, .int (nI k), .int 1] [] (hi, hl, X) _
  refine w_N 1 1 [.ref 123, .int (nI k), .int 1] [.int (nI k)] rfl ?_
  refine w_cc rfl (lm_c_1 m_areDays (wi_t1 (n := 4) hk1 hk4 (by decide))) ?_
  show lm_wp _ 199 4 [.ref 123, .int (nI k), .int 1] [.int 1] (hi, hl, X) _
  refine w_if_eq_f (t := 19) rfl rfl (by decide) ?_
  refine w_N 4 13 [.ref 123, .int (nI k), .int 1] [.long 2, .long 0, .long 1] rfl ?_
  refine w_cc rfl (lm_c_1 (m_in (x := 1) (lo := 0) (up := 2) (by decide) (by decide) (by decide)) (by decide)) ?_
  show lm_wp _ 199 16 [.ref 123, .int (nI k), .int 1] [.int 1] (hi, hl, X) _
  refine w_if_ne_t (t := 29) rfl rfl (by decide) ?_
  refine w_N 3 32 [.ref 123, .int (nI k), .int 1] [.ref 123, .int (nI k), .ref 123] rfl ?_
  refine w_gi (v := nI D) rfl rfl rfl (M_kd S) (HR.2.2.1.trans hO.2.2.1) ?_
  refine w_ca (w_vst rfl rfl rfl (Nat.le_of_ble_eq_true rfl) (Nat.le_of_ble_eq_true rfl) (M_kd S)) (m_findBest (d := d + 24) (k := k) S H HR.1 hT hO.2.2.2.1 (by omega) hk1 hk4 rfl rfl) ?_
  rintro _ _ ⟨h5x, rfl, rfl, f5, -, g5a, g5b, g5c⟩
  have P := mP_scr P f5
  obtain ⟨SR, O, H, HR, HV, HT, HF, HK, E0, EL0, EX0⟩ := id P
  have S := SR.1
  show lm_wp _ 199 38 [.ref 123, .int (nI k), .int 1] [] (h5x, hl, X) _
  refine w_N 2 40 [.ref 123, .int (nI k), .int 1] [.int 2, .int 1] rfl ?_
  refine w_icmp_ne_t (t := 52) rfl rfl (by decide) ?_
  refine w_N 1 53 [.ref 123, .int (nI k), .int 1] [.ref 123] rfl ?_
  refine w_gr 159 rfl rfl rfl (M_kd S) (M_r S (k := 33) (o := 36) rfl) ?_
  refine w_N 1 57 [.ref 123, .int (nI k), .int 1] [.int (nI k), .ref 159] rfl ?_
  refine w_aa k (123 + (37 + k)) rfl (M_kk S (o := 36) (by decide)) (show X.2.2.1 (159) = 5 from M_l S 36 (by decide)) rfl (by omega) (by decide) (M_bgr S (by omega)) ?_
  refine w_N 1 59 [.ref 123, .int (nI k), .int 1] [.int 1, .ref (123 + (37 + k))] rfl ?_
  refine w_ia 1 (v := gAt (bst T n k (R 10)) 1) rfl (M_bgk S (by omega)) (M_bgl S (by omega)) rfl (by decide) (by decide) (g5b) ?_
  refine w_ri rfl rfl ?_
  exact mq_ P
theorem x_best2 {d : Nat} {hi : Nat → Nat → Int32} {hl : Nat → Nat → Int64} {X : lm_X} {hi0 : Nat → Nat → Int32} {hl0 : Nat → Nat → Int64} {C n ts : Nat} {T : lm_T} {R : Nat → Int32} {KO : ab_K} {V : ab_V} {tl F : Nat → Int32} (P : cP hi0 hl0 hi hl X C T n R KO V ts tl F) {B D : Nat} (Z : okZ B D T n R KO V ts tl) {k : Nat} (hk1 : 1 ≤ k) (hk4 : k ≤ 4) (hC : C + 25 < 2147483648) : lm_w (d + 30) 112 [.ref 64, .int (nI k), .int 2] (hi, hl, X) (cQ hi0 hl0 X (C + 25) (.int ((bst T n k (R 10)).1)) T n R KO V ts tl F) := by
  obtain ⟨S, O, H, HR, FO, HV, HT, HF, HK, E0, EL0⟩ := id P
  obtain ⟨hT, hO, hV, hts, htl, hDB, hB0, hKO⟩ := id Z
  refine lm_w_in (Nat.le_of_ble_eq_true rfl) ?_
  show lm_wp (d + 30) 112 0 [.ref 64, .int (nI k), .int 2] [] (hi, hl, X) _
  refine w_N 1 1 [.ref 64, .int (nI k), .int 2] [.int (nI k)] rfl ?_
  refine w_cc rfl (x_isAhead1 (wi_t1 (n := 4) hk1 hk4 (by decide))) ?_
  show lm_wp _ 112 4 [.ref 64, .int (nI k), .int 2] [.int 1] (hi, hl, X) _
  refine w_if_eq_f (t := 16) rfl rfl (by decide) ?_
  refine w_N 3 10 [.ref 64, .int (nI k), .int 2] [.int 2, .int 0, .int 2] rfl ?_
  refine w_cc rfl (x_within1 (by decide)) ?_
  show lm_wp _ 112 13 [.ref 64, .int (nI k), .int 2] [.int 1] (hi, hl, X) _
  refine w_if_ne_t (t := 23) rfl rfl (by decide) ?_
  refine w_N 2 25 [.ref 64, .int (nI k), .int 2] [.int 2, .int 2] rfl ?_
  refine w_icmp_ge_t (t := 47) rfl rfl (by decide) ?_
  refine w_N 1 48 [.ref 64, .int (nI k), .int 2] [.ref 64] rfl ?_
  refine w_gr 98 rfl rfl rfl (A_k S 64 (by decide)) (A_r S 64 6 (by decide)) ?_
  refine w_N 1 52 [.ref 64, .int (nI k), .int 2] [.ref 64, .ref 98] rfl ?_
  refine w_gr 65 rfl rfl rfl (A_k S 64 (by decide)) (A_r S 64 0 (by decide)) ?_
  refine w_gi (v := R 10) rfl rfl rfl (T_kd (A_T65 S)) (HR.1) ?_
  refine w_N 1 59 [.ref 64, .int (nI k), .int 2] [.int (nI k), .int (R 10), .ref 98] rfl ?_
  refine w_ca (w_vst rfl rfl rfl (Nat.le_of_ble_eq_true rfl) (Nat.le_of_ble_eq_true rfl) (A_k S 98 (by decide))) (f_firstAct (d := d + 16) S FO H hT hO.1 hk1 hk4) ?_
  rintro _ _ ⟨hx3, rfl, rfl, f_hx3, FO_hx3⟩
  have P := cP_fore P (fr_mono f_hx3 (by decide)) FO_hx3
  obtain ⟨S, O, H, HR, FO, HV, HT, HF, HK, E0, EL0⟩ := id P
  show lm_wp _ 112 62 [.ref 64, .int (nI k), .int 2] [.int ((bst T n k (R 10)).1)] (hx3, hl, X) _
  refine w_ri rfl rfl ?_
  exact cq_ P (by omega) hC
theorem y_best2 {d : Nat} {hi : Nat → Nat → Int32} {hl : Nat → Nat → Int64} {X : lm_X} {hi0 : Nat → Nat → Int32} {hl0 : Nat → Nat → Int64} {X0 : lm_X} {n ts : Nat} {T : lm_T} {R : Nat → Int32} {KO : ab_K} {V : ab_V} {tl F : Nat → Int32} (P : mP hi0 hl0 X0 hi hl X T n R KO V ts tl F) {B D : Nat} (Z : okZ B D T n R KO V ts tl) {k : Nat} (hk1 : 1 ≤ k) (hk4 : k ≤ 4) : lm_w (d + 30) 199 [.ref 123, .int (nI k), .int 2] (hi, hl, X) (mQ hi0 hl0 X0 (.int ((bst T n k (R 10)).1)) T n R KO V ts tl F) := by
  obtain ⟨SR, O, H, HR, HV, HT, HF, HK, E0, EL0, EX0⟩ := id P
  have S := SR.1
  obtain ⟨hT, hO, hV, hts, htl, hDB, hB0, hKO⟩ := id Z
  refine lm_w_in (Nat.le_of_ble_eq_true rfl) ?_
  show lm_wp (d + 30) 199 0 [.ref 123, .int (nI k), .int 2] [] (hi, hl, X) _
  refine w_N 1 1 [.ref 123, .int (nI k), .int 2] [.int (nI k)] rfl ?_
  refine w_cc rfl (lm_c_1 m_areDays (wi_t1 (n := 4) hk1 hk4 (by decide))) ?_
  show lm_wp _ 199 4 [.ref 123, .int (nI k), .int 2] [.int 1] (hi, hl, X) _
  refine w_if_eq_f (t := 19) rfl rfl (by decide) ?_
  refine w_N 4 13 [.ref 123, .int (nI k), .int 2] [.long 2, .long 0, .long 2] rfl ?_
  refine w_cc rfl (lm_c_1 (m_in (x := 2) (lo := 0) (up := 2) (by decide) (by decide) (by decide)) (by decide)) ?_
  show lm_wp _ 199 16 [.ref 123, .int (nI k), .int 2] [.int 1] (hi, hl, X) _
  refine w_if_ne_t (t := 29) rfl rfl (by decide) ?_
  refine w_N 3 32 [.ref 123, .int (nI k), .int 2] [.ref 123, .int (nI k), .ref 123] rfl ?_
  refine w_gi (v := nI D) rfl rfl rfl (M_kd S) (HR.2.2.1.trans hO.2.2.1) ?_
  refine w_ca (w_vst rfl rfl rfl (Nat.le_of_ble_eq_true rfl) (Nat.le_of_ble_eq_true rfl) (M_kd S)) (m_findBest (d := d + 24) (k := k) S H HR.1 hT hO.2.2.2.1 (by omega) hk1 hk4 rfl rfl) ?_
  rintro _ _ ⟨h5x, rfl, rfl, f5, -, g5a, g5b, g5c⟩
  have P := mP_scr P f5
  obtain ⟨SR, O, H, HR, HV, HT, HF, HK, E0, EL0, EX0⟩ := id P
  have S := SR.1
  show lm_wp _ 199 38 [.ref 123, .int (nI k), .int 2] [] (h5x, hl, X) _
  refine w_N 2 40 [.ref 123, .int (nI k), .int 2] [.int 2, .int 2] rfl ?_
  refine w_icmp_ne_f (t := 52) rfl rfl (by decide) ?_
  refine w_N 1 44 [.ref 123, .int (nI k), .int 2] [.ref 123] rfl ?_
  refine w_gr 165 rfl rfl rfl (M_kd S) (M_r S (k := 34) (o := 42) rfl) ?_
  refine w_N 1 48 [.ref 123, .int (nI k), .int 2] [.int (nI k), .ref 165] rfl ?_
  refine w_ia k (v := (bst T n k (R 10)).1) rfl (show X.2.1 (165) = 1 from M_k S 42 (by decide)) (show X.2.2.1 (165) = 5 from M_l S 42 (by decide)) rfl (by omega) (by decide) (g5c) ?_
  refine w_N 1 60 [.ref 123, .int (nI k), .int 2] [.int ((bst T n k (R 10)).1)] rfl ?_
  refine w_ri rfl rfl ?_
  exact mq_ P
theorem st_best {B D : Nat} {n ts : Nat} {T : lm_T} {R : Nat → Int32} {KO : ab_K} {V : ab_V} {tl F : Nat → Int32} {k w : Int32} (Z : okZ B D T n R KO V ts tl) (hB : B + 20 < 2000000) : STEP B 112 199 [.int k, .int w] T n R KO V ts tl F := by
  obtain ⟨hT, hO, hV, hts, htl, hDB, hB0, hKO⟩ := id Z
  by_cases hb : (wi k 1 4 && wi w 0 2) = false
  · exact ⟨_, D, _, _, _, _, _, _, _, _, okZ_up Z hB, fun _ _ _ _ _ _ P hC => x_best_b (d := 10) P hb hC, fun _ _ _ _ _ _ P => y_best_b (d := 10) P hb⟩
  · obtain ⟨h1, h2⟩ := and2_t hb
    obtain ⟨k, rfl, hk1, hk4⟩ := wi_e1 (n := 4) h1 (by decide)
    obtain ⟨w, rfl, hw⟩ := wi_e (n := 2) h2 (by decide)
    rcases (by omega : w = 0 ∨ w = 1 ∨ w = 2) with rfl | rfl | rfl
    · exact ⟨_, D, _, _, _, _, _, _, _, _, okZ_up Z hB, fun _ _ _ _ _ _ P hC => x_best0 (d := 10) P Z hk1 hk4 hC, fun _ _ _ _ _ _ P => y_best0 (d := 10) P Z hk1 hk4⟩
    · exact ⟨_, D, _, _, _, _, _, _, _, _, okZ_up Z hB, fun _ _ _ _ _ _ P hC => x_best1 (d := 10) P Z hk1 hk4 hC, fun _ _ _ _ _ _ P => y_best1 (d := 10) P Z hk1 hk4⟩
    · exact ⟨_, D, _, _, _, _, _, _, _, _, okZ_up Z hB, fun _ _ _ _ _ _ P hC => x_best2 (d := 10) P Z hk1 hk4 hC, fun _ _ _ _ _ _ P => y_best2 (d := 10) P Z hk1 hk4⟩
theorem x_together_b {d : Nat} {hi : Nat → Nat → Int32} {hl : Nat → Nat → Int64} {X : lm_X} {hi0 : Nat → Nat → Int32} {hl0 : Nat → Nat → Int64} {C n ts : Nat} {T : lm_T} {R : Nat → Int32} {KO : ab_K} {V : ab_V} {tl F : Nat → Int32} (P : cP hi0 hl0 hi hl X C T n R KO V ts tl F) {k : Int32}  (hb : (wi k 1 4) = false) (hC : C + 25 < 2147483648) : lm_w (d + 30) 114 [.ref 64, .int k] (hi, hl, X) (cQ hi0 hl0 X (C + 25) (.int (-1000002)) T n R KO V ts tl (rfU F (-2))) := by
  obtain ⟨S, O, H, HR, FO, HV, HT, HF, HK, E0, EL0⟩ := id P
  refine lm_w_in (Nat.le_of_ble_eq_true rfl) ?_
  show lm_wp (d + 30) 114 0 [.ref 64, .int k] [] (hi, hl, X) _
  refine w_N 1 1 [.ref 64, .int k] [.int k] rfl ?_
  refine w_cc rfl x_isAhead ?_
  show lm_wp _ 114 4 [.ref 64, .int k] [.int (bz (wi k 1 4))] (hi, hl, X) _
  refine w_zne (t := 14) rfl rfl (fun c1 => ?_) (fun c1 => ?_)
  · exact absurd hb (by simp [c1])
  · refine w_N 2 10 [.ref 64, .int k] [.int (-2), .ref 64] rfl ?_
    refine w_ca (w_vst rfl rfl rfl (Nat.le_of_ble_eq_true rfl) (Nat.le_of_ble_eq_true rfl) (A_k S 64 (by decide))) (x_refuseGain P (by unfold isW; decide)) ?_
    rintro _ _ ⟨rfl, hi9, rfl, P9⟩
    show lm_wp _ 114 13 [.ref 64, .int k] [.int (-1000002)] (hi9, hl, X) _
    refine w_ri rfl rfl ?_
    exact cq_ P9 (by omega) hC
theorem y_together_b {d : Nat} {hi : Nat → Nat → Int32} {hl : Nat → Nat → Int64} {X : lm_X} {hi0 : Nat → Nat → Int32} {hl0 : Nat → Nat → Int64} {X0 : lm_X} {n ts : Nat} {T : lm_T} {R : Nat → Int32} {KO : ab_K} {V : ab_V} {tl F : Nat → Int32} (P : mP hi0 hl0 X0 hi hl X T n R KO V ts tl F) {k : Int32}  (hb : (wi k 1 4) = false) : lm_w (d + 30) 203 [.ref 123, .int k] (hi, hl, X) (mQ hi0 hl0 X0 (.int (-1000002)) T n R KO V ts tl (rfU F (-2))) := by
  obtain ⟨SR, O, H, HR, HV, HT, HF, HK, E0, EL0, EX0⟩ := id P
  have S := SR.1
  refine lm_w_in (Nat.le_of_ble_eq_true rfl) ?_
  show lm_wp (d + 30) 203 0 [.ref 123, .int k] [] (hi, hl, X) _
  refine w_N 1 1 [.ref 123, .int k] [.int k] rfl ?_
  refine w_cc rfl m_areDays ?_
  show lm_wp _ 203 4 [.ref 123, .int k] [.int (bz (wi k 1 4))] (hi, hl, X) _
  refine w_zeq (t := 19) rfl rfl (fun c1 => ?_) (fun c1 => ?_)
  · refine w_N 3 24 [.ref 123, .int k] [.int (-2), .ref 123, .int (-1000000)] rfl ?_
    refine w_ca (w_vst rfl rfl rfl (Nat.le_of_ble_eq_true rfl) (Nat.le_of_ble_eq_true rfl) (M_kd S)) (m_refuse P (by unfold isW; decide)) ?_
    rintro _ _ ⟨rfl, hi9, rfl, P9⟩
    show lm_wp _ 203 27 [.ref 123, .int k] [.int (-2), .int (-1000000)] (hi9, hl, X) _
    refine w_N 1 28 [.ref 123, .int k] [.int (-1000002)] rfl ?_
    refine w_ri rfl rfl ?_
    exact mq_ P9
  · exact absurd hb (by simp [c1])
theorem x_together {d : Nat} {hi : Nat → Nat → Int32} {hl : Nat → Nat → Int64} {X : lm_X} {hi0 : Nat → Nat → Int32} {hl0 : Nat → Nat → Int64} {C n ts : Nat} {T : lm_T} {R : Nat → Int32} {KO : ab_K} {V : ab_V} {tl F : Nat → Int32} (P : cP hi0 hl0 hi hl X C T n R KO V ts tl F) {B D : Nat} (Z : okZ B D T n R KO V ts tl) {k : Nat} (hk1 : 1 ≤ k) (hk4 : k ≤ 4) (hC : C + 25 < 2147483648) : lm_w (d + 30) 114 [.ref 64, .int (nI k)] (hi, hl, X) (cQ hi0 hl0 X (C + 25) (.int (tog T n k (R 10))) T n R KO V ts tl F) := by
  obtain ⟨S, O, H, HR, FO, HV, HT, HF, HK, E0, EL0⟩ := id P
  obtain ⟨hT, hO, hV, hts, htl, hDB, hB0, hKO⟩ := id Z
  refine lm_w_in (Nat.le_of_ble_eq_true rfl) ?_
  show lm_wp (d + 30) 114 0 [.ref 64, .int (nI k)] [] (hi, hl, X) _
  refine w_N 1 1 [.ref 64, .int (nI k)] [.int (nI k)] rfl ?_
  refine w_cc rfl (x_isAhead1 (wi_t1 (n := 4) hk1 hk4 (by decide))) ?_
  show lm_wp _ 114 4 [.ref 64, .int (nI k)] [.int 1] (hi, hl, X) _
  refine w_if_ne_t (t := 14) rfl rfl (by decide) ?_
  refine w_N 1 15 [.ref 64, .int (nI k)] [.ref 64] rfl ?_
  refine w_gr 65 rfl rfl rfl (A_k S 64 (by decide)) (A_r S 64 0 (by decide)) ?_
  refine w_N 1 19 [.ref 64, .int (nI k)] [.ref 64, .ref 65] rfl ?_
  refine w_gr 65 rfl rfl rfl (A_k S 64 (by decide)) (A_r S 64 0 (by decide)) ?_
  refine w_gi (v := R 10) rfl rfl rfl (T_kd (A_T65 S)) (HR.1) ?_
  refine w_N 1 26 [.ref 64, .int (nI k)] [.int (nI k), .int (R 10), .ref 65] rfl ?_
  refine w_cc rfl (q_mostOfBoth (d := d + 23) (A_T65 S) H hk1 hk4) ?_
  show lm_wp _ 114 29 [.ref 64, .int (nI k)] [.int (tog T n k (R 10))] (hi, hl, X) _
  refine w_ri rfl rfl ?_
  exact cq_ P (by omega) hC
theorem y_together {d : Nat} {hi : Nat → Nat → Int32} {hl : Nat → Nat → Int64} {X : lm_X} {hi0 : Nat → Nat → Int32} {hl0 : Nat → Nat → Int64} {X0 : lm_X} {n ts : Nat} {T : lm_T} {R : Nat → Int32} {KO : ab_K} {V : ab_V} {tl F : Nat → Int32} (P : mP hi0 hl0 X0 hi hl X T n R KO V ts tl F) {B D : Nat} (Z : okZ B D T n R KO V ts tl) {k : Nat} (hk1 : 1 ≤ k) (hk4 : k ≤ 4) : lm_w (d + 30) 203 [.ref 123, .int (nI k)] (hi, hl, X) (mQ hi0 hl0 X0 (.int (tog T n k (R 10))) T n R KO V ts tl F) := by
  obtain ⟨SR, O, H, HR, HV, HT, HF, HK, E0, EL0, EX0⟩ := id P
  have S := SR.1
  obtain ⟨hT, hO, hV, hts, htl, hDB, hB0, hKO⟩ := id Z
  refine lm_w_in (Nat.le_of_ble_eq_true rfl) ?_
  show lm_wp (d + 30) 203 0 [.ref 123, .int (nI k)] [] (hi, hl, X) _
  refine w_N 1 1 [.ref 123, .int (nI k)] [.int (nI k)] rfl ?_
  refine w_cc rfl (lm_c_1 m_areDays (wi_t1 (n := 4) hk1 hk4 (by decide))) ?_
  show lm_wp _ 203 4 [.ref 123, .int (nI k)] [.int 1] (hi, hl, X) _
  refine w_if_eq_f (t := 19) rfl rfl (by decide) ?_
  refine w_N 3 10 [.ref 123, .int (nI k)] [.ref 123, .int (nI k), .ref 123] rfl ?_
  refine w_gi (v := nI D) rfl rfl rfl (M_kd S) (HR.2.2.1.trans hO.2.2.1) ?_
  refine w_cc (w_vst rfl rfl rfl (Nat.le_of_ble_eq_true rfl) (Nat.le_of_ble_eq_true rfl) (M_kd S)) (m_mostTogether (d := d + 24) S H HR.1 hT hO.2.2.2.1 (by omega) hk4 rfl rfl) ?_
  show lm_wp _ 203 16 [.ref 123, .int (nI k)] [.int (tog T n k (R 10))] (hi, hl, X) _
  refine w_N 1 28 [.ref 123, .int (nI k)] [.int (tog T n k (R 10))] rfl ?_
  refine w_ri rfl rfl ?_
  exact mq_ P
theorem x_harm_b {d : Nat} {hi : Nat → Nat → Int32} {hl : Nat → Nat → Int64} {X : lm_X} {hi0 : Nat → Nat → Int32} {hl0 : Nat → Nat → Int64} {C n ts : Nat} {T : lm_T} {R : Nat → Int32} {KO : ab_K} {V : ab_V} {tl F : Nat → Int32} (P : cP hi0 hl0 hi hl X C T n R KO V ts tl F) {k : Int32}  (hb : (wi k 1 4) = false) (hC : C + 25 < 2147483648) : lm_w (d + 30) 115 [.ref 64, .int k] (hi, hl, X) (cQ hi0 hl0 X (C + 25) (.int (-1000002)) T n R KO V ts tl (rfU F (-2))) := by
  obtain ⟨S, O, H, HR, FO, HV, HT, HF, HK, E0, EL0⟩ := id P
  refine lm_w_in (Nat.le_of_ble_eq_true rfl) ?_
  show lm_wp (d + 30) 115 0 [.ref 64, .int k, lm_jk] [] (hi, hl, X) _
  refine w_N 1 1 [.ref 64, .int k, lm_jk] [.int k] rfl ?_
  refine w_cc rfl x_isAhead ?_
  show lm_wp _ 115 4 [.ref 64, .int k, lm_jk] [.int (bz (wi k 1 4))] (hi, hl, X) _
  refine w_zne (t := 14) rfl rfl (fun c1 => ?_) (fun c1 => ?_)
  · exact absurd hb (by simp [c1])
  · refine w_N 2 10 [.ref 64, .int k, lm_jk] [.int (-2), .ref 64] rfl ?_
    refine w_ca (w_vst rfl rfl rfl (Nat.le_of_ble_eq_true rfl) (Nat.le_of_ble_eq_true rfl) (A_k S 64 (by decide))) (x_refuseGain P (by unfold isW; decide)) ?_
    rintro _ _ ⟨rfl, hi9, rfl, P9⟩
    show lm_wp _ 115 13 [.ref 64, .int k, lm_jk] [.int (-1000002)] (hi9, hl, X) _
    refine w_ri rfl rfl ?_
    exact cq_ P9 (by omega) hC
theorem y_harm_b {d : Nat} {hi : Nat → Nat → Int32} {hl : Nat → Nat → Int64} {X : lm_X} {hi0 : Nat → Nat → Int32} {hl0 : Nat → Nat → Int64} {X0 : lm_X} {n ts : Nat} {T : lm_T} {R : Nat → Int32} {KO : ab_K} {V : ab_V} {tl F : Nat → Int32} (P : mP hi0 hl0 X0 hi hl X T n R KO V ts tl F) {k : Int32}  (hb : (wi k 1 4) = false) : lm_w (d + 30) 204 [.ref 123, .int k] (hi, hl, X) (mQ hi0 hl0 X0 (.int (-1000002)) T n R KO V ts tl (rfU F (-2))) := by
  obtain ⟨SR, O, H, HR, HV, HT, HF, HK, E0, EL0, EX0⟩ := id P
  have S := SR.1
  refine lm_w_in (Nat.le_of_ble_eq_true rfl) ?_
  show lm_wp (d + 30) 204 0 [.ref 123, .int k] [] (hi, hl, X) _
  refine w_N 1 1 [.ref 123, .int k] [.int k] rfl ?_
  refine w_cc rfl m_areDays ?_
  show lm_wp _ 204 4 [.ref 123, .int k] [.int (bz (wi k 1 4))] (hi, hl, X) _
  refine w_zne (t := 17) rfl rfl (fun c1 => ?_) (fun c1 => ?_)
  · exact absurd hb (by simp [c1])
  · refine w_N 3 12 [.ref 123, .int k] [.int (-2), .ref 123, .int (-1000000)] rfl ?_
    refine w_ca (w_vst rfl rfl rfl (Nat.le_of_ble_eq_true rfl) (Nat.le_of_ble_eq_true rfl) (M_kd S)) (m_refuse P (by unfold isW; decide)) ?_
    rintro _ _ ⟨rfl, hi9, rfl, P9⟩
    show lm_wp _ 204 15 [.ref 123, .int k] [.int (-2), .int (-1000000)] (hi9, hl, X) _
    refine w_N 1 16 [.ref 123, .int k] [.int (-1000002)] rfl ?_
    refine w_ri rfl rfl ?_
    exact mq_ P9
theorem x_harm {d : Nat} {hi : Nat → Nat → Int32} {hl : Nat → Nat → Int64} {X : lm_X} {hi0 : Nat → Nat → Int32} {hl0 : Nat → Nat → Int64} {C n ts : Nat} {T : lm_T} {R : Nat → Int32} {KO : ab_K} {V : ab_V} {tl F : Nat → Int32} (P : cP hi0 hl0 hi hl X C T n R KO V ts tl F) {B D : Nat} (Z : okZ B D T n R KO V ts tl) {k : Nat} (hk1 : 1 ≤ k) (hk4 : k ≤ 4) (hC : C + 25 < 2147483648) : lm_w (d + 30) 115 [.ref 64, .int (nI k)] (hi, hl, X) (cQ hi0 hl0 X (C + 25) (.int (tog T n k (R 10) - (gAt (bst T n k (R 10)) 0 + gAt (bst T n k (R 10)) 1))) T n R KO V ts tl F) := by
  obtain ⟨S, O, H, HR, FO, HV, HT, HF, HK, E0, EL0⟩ := id P
  obtain ⟨hT, hO, hV, hts, htl, hDB, hB0, hKO⟩ := id Z
  refine lm_w_in (Nat.le_of_ble_eq_true rfl) ?_
  show lm_wp (d + 30) 115 0 [.ref 64, .int (nI k), lm_jk] [] (hi, hl, X) _
  refine w_N 1 1 [.ref 64, .int (nI k), lm_jk] [.int (nI k)] rfl ?_
  refine w_cc rfl (x_isAhead1 (wi_t1 (n := 4) hk1 hk4 (by decide))) ?_
  show lm_wp _ 115 4 [.ref 64, .int (nI k), lm_jk] [.int 1] (hi, hl, X) _
  refine w_if_ne_t (t := 14) rfl rfl (by decide) ?_
  refine w_N 1 15 [.ref 64, .int (nI k), lm_jk] [.ref 64] rfl ?_
  refine w_gr 98 rfl rfl rfl (A_k S 64 (by decide)) (A_r S 64 6 (by decide)) ?_
  refine w_N 2 20 [.ref 64, .int (nI k), lm_jk] [.ref 64, .int 0, .ref 98] rfl ?_
  refine w_gr 65 rfl rfl rfl (A_k S 64 (by decide)) (A_r S 64 0 (by decide)) ?_
  refine w_gi (v := R 10) rfl rfl rfl (T_kd (A_T65 S)) (HR.1) ?_
  refine w_N 1 27 [.ref 64, .int (nI k), lm_jk] [.int (nI k), .int (R 10), .int 0, .ref 98] rfl ?_
  refine w_ca (w_vst rfl rfl rfl (Nat.le_of_ble_eq_true rfl) (Nat.le_of_ble_eq_true rfl) (A_k S 98 (by decide))) (f_gainOf (d := d + 16) (hf := 0) S FO H hT hO.1 hk1 hk4 (by decide)) ?_
  rintro _ _ ⟨hx4, rfl, rfl, f_hx4, FO_hx4⟩
  have P := cP_fore P (fr_mono f_hx4 (by decide)) FO_hx4
  obtain ⟨S, O, H, HR, FO, HV, HT, HF, HK, E0, EL0⟩ := id P
  show lm_wp _ 115 30 [.ref 64, .int (nI k), lm_jk] [.int (gAt (bst T n k (R 10)) 0)] (hx4, hl, X) _
  refine w_N 1 31 [.ref 64, .int (nI k), lm_jk] [.ref 64, .int (gAt (bst T n k (R 10)) 0)] rfl ?_
  refine w_gr 98 rfl rfl rfl (A_k S 64 (by decide)) (A_r S 64 6 (by decide)) ?_
  refine w_N 2 36 [.ref 64, .int (nI k), lm_jk] [.ref 64, .int 1, .ref 98, .int (gAt (bst T n k (R 10)) 0)] rfl ?_
  refine w_gr 65 rfl rfl rfl (A_k S 64 (by decide)) (A_r S 64 0 (by decide)) ?_
  refine w_gi (v := R 10) rfl rfl rfl (T_kd (A_T65 S)) (HR.1) ?_
  refine w_N 1 43 [.ref 64, .int (nI k), lm_jk] [.int (nI k), .int (R 10), .int 1, .ref 98, .int (gAt (bst T n k (R 10)) 0)] rfl ?_
  refine w_ca (w_vst rfl rfl rfl (Nat.le_of_ble_eq_true rfl) (Nat.le_of_ble_eq_true rfl) (A_k S 98 (by decide))) (f_gainOf (d := d + 16) (hf := 1) S FO H hT hO.1 hk1 hk4 (by decide)) ?_
  rintro _ _ ⟨hx5, rfl, rfl, f_hx5, FO_hx5⟩
  have P := cP_fore P (fr_mono f_hx5 (by decide)) FO_hx5
  obtain ⟨S, O, H, HR, FO, HV, HT, HF, HK, E0, EL0⟩ := id P
  show lm_wp _ 115 46 [.ref 64, .int (nI k), lm_jk] [.int (gAt (bst T n k (R 10)) 1), .int (gAt (bst T n k (R 10)) 0)] (hx5, hl, X) _
  refine w_N 3 49 [.ref 64, .int (nI k), .int ((gAt (bst T n k (R 10)) 0) + (gAt (bst T n k (R 10)) 1))] [.ref 64] rfl ?_
  refine w_gr 65 rfl rfl rfl (A_k S 64 (by decide)) (A_r S 64 0 (by decide)) ?_
  refine w_N 1 53 [.ref 64, .int (nI k), .int ((gAt (bst T n k (R 10)) 0) + (gAt (bst T n k (R 10)) 1))] [.ref 64, .ref 65] rfl ?_
  refine w_gr 65 rfl rfl rfl (A_k S 64 (by decide)) (A_r S 64 0 (by decide)) ?_
  refine w_gi (v := R 10) rfl rfl rfl (T_kd (A_T65 S)) (HR.1) ?_
  refine w_N 1 60 [.ref 64, .int (nI k), .int ((gAt (bst T n k (R 10)) 0) + (gAt (bst T n k (R 10)) 1))] [.int (nI k), .int (R 10), .ref 65] rfl ?_
  refine w_cc rfl (q_mostOfBoth (d := d + 23) (A_T65 S) H hk1 hk4) ?_
  show lm_wp _ 115 63 [.ref 64, .int (nI k), .int ((gAt (bst T n k (R 10)) 0) + (gAt (bst T n k (R 10)) 1))] [.int (tog T n k (R 10))] (hx5, hl, X) _
  refine w_N 2 65 [.ref 64, .int (nI k), .int ((gAt (bst T n k (R 10)) 0) + (gAt (bst T n k (R 10)) 1))] [.int ((tog T n k (R 10)) - ((gAt (bst T n k (R 10)) 0) + (gAt (bst T n k (R 10)) 1)))] rfl ?_
  refine w_ri rfl rfl ?_
  exact cq_ P (by omega) hC
theorem y_harm {d : Nat} {hi : Nat → Nat → Int32} {hl : Nat → Nat → Int64} {X : lm_X} {hi0 : Nat → Nat → Int32} {hl0 : Nat → Nat → Int64} {X0 : lm_X} {n ts : Nat} {T : lm_T} {R : Nat → Int32} {KO : ab_K} {V : ab_V} {tl F : Nat → Int32} (P : mP hi0 hl0 X0 hi hl X T n R KO V ts tl F) {B D : Nat} (Z : okZ B D T n R KO V ts tl) {k : Nat} (hk1 : 1 ≤ k) (hk4 : k ≤ 4) : lm_w (d + 30) 204 [.ref 123, .int (nI k)] (hi, hl, X) (mQ hi0 hl0 X0 (.int (tog T n k (R 10) - (gAt (bst T n k (R 10)) 0 + gAt (bst T n k (R 10)) 1))) T n R KO V ts tl F) := by
  obtain ⟨SR, O, H, HR, HV, HT, HF, HK, E0, EL0, EX0⟩ := id P
  have S := SR.1
  obtain ⟨hT, hO, hV, hts, htl, hDB, hB0, hKO⟩ := id Z
  refine lm_w_in (Nat.le_of_ble_eq_true rfl) ?_
  show lm_wp (d + 30) 204 0 [.ref 123, .int (nI k)] [] (hi, hl, X) _
  refine w_N 1 1 [.ref 123, .int (nI k)] [.int (nI k)] rfl ?_
  refine w_cc rfl (lm_c_1 m_areDays (wi_t1 (n := 4) hk1 hk4 (by decide))) ?_
  show lm_wp _ 204 4 [.ref 123, .int (nI k)] [.int 1] (hi, hl, X) _
  refine w_if_ne_t (t := 17) rfl rfl (by decide) ?_
  refine w_N 3 20 [.ref 123, .int (nI k)] [.ref 123, .int (nI k), .ref 123] rfl ?_
  refine w_gi (v := nI D) rfl rfl rfl (M_kd S) (HR.2.2.1.trans hO.2.2.1) ?_
  refine w_ca (w_vst rfl rfl rfl (Nat.le_of_ble_eq_true rfl) (Nat.le_of_ble_eq_true rfl) (M_kd S)) (m_findBest (d := d + 24) (k := k) S H HR.1 hT hO.2.2.2.1 (by omega) hk1 hk4 rfl rfl) ?_
  rintro _ _ ⟨h5x, rfl, rfl, f5, -, g5a, g5b, g5c⟩
  have P := mP_scr P f5
  obtain ⟨SR, O, H, HR, HV, HT, HF, HK, E0, EL0, EX0⟩ := id P
  have S := SR.1
  show lm_wp _ 204 26 [.ref 123, .int (nI k)] [] (h5x, hl, X) _
  refine w_N 3 29 [.ref 123, .int (nI k)] [.ref 123, .int (nI k), .ref 123] rfl ?_
  refine w_gi (v := nI D) rfl rfl rfl (M_kd S) (HR.2.2.1.trans hO.2.2.1) ?_
  refine w_cc (w_vst rfl rfl rfl (Nat.le_of_ble_eq_true rfl) (Nat.le_of_ble_eq_true rfl) (M_kd S)) (m_mostTogether (d := d + 24) S H HR.1 hT hO.2.2.2.1 (by omega) hk4 rfl rfl) ?_
  show lm_wp _ 204 35 [.ref 123, .int (nI k)] [.int (tog T n k (R 10))] (h5x, hl, X) _
  refine w_N 1 36 [.ref 123, .int (nI k)] [.ref 123, .int (tog T n k (R 10))] rfl ?_
  refine w_gr 159 rfl rfl rfl (M_kd S) (M_r S (k := 33) (o := 36) rfl) ?_
  refine w_N 1 40 [.ref 123, .int (nI k)] [.int (nI k), .ref 159, .int (tog T n k (R 10))] rfl ?_
  refine w_aa k (123 + (37 + k)) rfl (M_kk S (o := 36) (by decide)) (show X.2.2.1 (159) = 5 from M_l S 36 (by decide)) rfl (by omega) (by decide) (M_bgr S (by omega)) ?_
  refine w_N 1 42 [.ref 123, .int (nI k)] [.int 0, .ref (123 + (37 + k)), .int (tog T n k (R 10))] rfl ?_
  refine w_ia 0 (v := gAt (bst T n k (R 10)) 0) rfl (M_bgk S (by omega)) (M_bgl S (by omega)) rfl (by decide) (by decide) (g5a) ?_
  refine w_N 2 45 [.ref 123, .int (nI k)] [.ref 123, .int ((tog T n k (R 10)) - (gAt (bst T n k (R 10)) 0))] rfl ?_
  refine w_gr 159 rfl rfl rfl (M_kd S) (M_r S (k := 33) (o := 36) rfl) ?_
  refine w_N 1 49 [.ref 123, .int (nI k)] [.int (nI k), .ref 159, .int ((tog T n k (R 10)) - (gAt (bst T n k (R 10)) 0))] rfl ?_
  refine w_aa k (123 + (37 + k)) rfl (M_kk S (o := 36) (by decide)) (show X.2.2.1 (159) = 5 from M_l S 36 (by decide)) rfl (by omega) (by decide) (M_bgr S (by omega)) ?_
  refine w_N 1 51 [.ref 123, .int (nI k)] [.int 1, .ref (123 + (37 + k)), .int ((tog T n k (R 10)) - (gAt (bst T n k (R 10)) 0))] rfl ?_
  refine w_ia 1 (v := gAt (bst T n k (R 10)) 1) rfl (M_bgk S (by omega)) (M_bgl S (by omega)) rfl (by decide) (by decide) (g5b) ?_
  refine w_N 1 53 [.ref 123, .int (nI k)] [.int (((tog T n k (R 10)) - (gAt (bst T n k (R 10)) 0)) - (gAt (bst T n k (R 10)) 1))] rfl ?_
  refine w_ri rfl rfl ?_
  rw [← sub_sub']
  exact mq_ P
theorem st_together {B D : Nat} {n ts : Nat} {T : lm_T} {R : Nat → Int32} {KO : ab_K} {V : ab_V} {tl F : Nat → Int32} {k : Int32} (Z : okZ B D T n R KO V ts tl) (hB : B + 20 < 2000000) : STEP B 114 203 [.int k] T n R KO V ts tl F := by
  obtain ⟨hT, hO, hV, hts, htl, hDB, hB0, hKO⟩ := id Z
  cases hb : wi k 1 4
  · exact ⟨_, D, _, _, _, _, _, _, _, _, okZ_up Z hB, fun _ _ _ _ _ _ P hC => x_together_b (d := 10) P hb hC, fun _ _ _ _ _ _ P => y_together_b (d := 10) P hb⟩
  · obtain ⟨k, rfl, hk1, hk4⟩ := wi_e1 (n := 4) hb (by decide)
    exact ⟨_, D, _, _, _, _, _, _, _, _, okZ_up Z hB, fun _ _ _ _ _ _ P hC => x_together (d := 10) P Z hk1 hk4 hC, fun _ _ _ _ _ _ P => y_together (d := 10) P Z hk1 hk4⟩
theorem st_harm {B D : Nat} {n ts : Nat} {T : lm_T} {R : Nat → Int32} {KO : ab_K} {V : ab_V} {tl F : Nat → Int32} {k : Int32} (Z : okZ B D T n R KO V ts tl) (hB : B + 20 < 2000000) : STEP B 115 204 [.int k] T n R KO V ts tl F := by
  obtain ⟨hT, hO, hV, hts, htl, hDB, hB0, hKO⟩ := id Z
  cases hb : wi k 1 4
  · exact ⟨_, D, _, _, _, _, _, _, _, _, okZ_up Z hB, fun _ _ _ _ _ _ P hC => x_harm_b (d := 10) P hb hC, fun _ _ _ _ _ _ P => y_harm_b (d := 10) P hb⟩
  · obtain ⟨k, rfl, hk1, hk4⟩ := wi_e1 (n := 4) hb (by decide)
    exact ⟨_, D, _, _, _, _, _, _, _, _, okZ_up Z hB, fun _ _ _ _ _ _ P hC => x_harm (d := 10) P Z hk1 hk4 hC, fun _ _ _ _ _ _ P => y_harm (d := 10) P Z hk1 hk4⟩
def wkS (f : Nat → Bool) : Nat → Nat → Int32
  | _, 0 => -1
  | k, j + 1 => if f k = true then nI k else wkS f (k + 1) j
def idl (al : Bool) (s : Int32) : Int32 := if al = true then nI (1 - awk s) else -1
theorem idl_h (al : Bool) (s : Int32) : ∀ h, h < 2 → (nI h = idl al s ↔ (al = true ∧ ¬ nI h = nI (awk s))) := by
  intro h hh
  have hw := awk_lt s
  cases al with
  | true =>
    show nI h = nI (1 - awk s) ↔ _
    rw [nI_inj (by omega) (by omega), nI_inj (by omega) (by omega)]
    constructor
    · intro z; exact ⟨rfl, by omega⟩
    · intro z; have := z.2; omega
  | false =>
    show nI h = -1 ↔ _
    constructor
    · intro z; exact absurd z (nI_n1 (by omega))
    · intro z; exact absurd z.1 (by decide)
theorem m_isDoneE {d : Nat} {hi : Nat → Nat → Int32} {hl : Nat → Nat → Int64} {X : lm_X} {b n D : Nat} {T : lm_T} {s : Int32} (S : sh_M X b) (H : rT hi b T n) (HS : rS hi b s) (hT : okT T n) {k st hf : Nat} {al : Bool} {idle x y w u v : Int32} (hw : awk s = D % 2) (hD : D + 4 < 2147483648) (h4 : k ≤ 4) (hst : st < 256) (hid : ∀ h, h < 2 → (nI h = idle ↔ (al = true ∧ ¬ nI h = nI hf))) (hx : x = nI k) (hy : y = nI D) (ew : w = nI st) (eu : u = bz al) (ev : v = nI hf) : lm_c (d + 5) 205 [.ref b, .int w, .int x, .int y, .int u, .int v] (hi, hl, X) (some (.int (bz (cst T n (nI st) idle k s))), (hi, hl, X)) := by
  subst ew eu ev
  exact m_isDone S H HS hT hw hD h4 hst hid hx hy
theorem x_work_b {d : Nat} {hi : Nat → Nat → Int32} {hl : Nat → Nat → Int64} {X : lm_X} {hi0 : Nat → Nat → Int32} {hl0 : Nat → Nat → Int64} {C n ts : Nat} {T : lm_T} {R : Nat → Int32} {KO : ab_K} {V : ab_V} {tl F : Nat → Int32} (P : cP hi0 hl0 hi hl X C T n R KO V ts tl F) {st : Int32} {al : Bool} (hb : (wi st 0 255) = false) (hC : C + 25 < 2147483648) : lm_w (d + 30) 116 [.ref 64, .int st, .int (bz al)] (hi, hl, X) (cQ hi0 hl0 X (C + 25) (.int (-2)) T n R KO V ts tl (rfU F (-2))) := by
  obtain ⟨S, O, H, HR, FO, HV, HT, HF, HK, E0, EL0⟩ := id P
  refine lm_w_in (Nat.le_of_ble_eq_true rfl) ?_
  show lm_wp (d + 30) 116 0 [.ref 64, .int st, .int (bz al), lm_jk, lm_jk] [] (hi, hl, X) _
  refine w_N 3 5 [.ref 64, .int st, .int (bz al), lm_jk, lm_jk] [.int 255, .int 0, .int st] rfl ?_
  refine w_cc rfl x_within ?_
  show lm_wp _ 116 8 [.ref 64, .int st, .int (bz al), lm_jk, lm_jk] [.int (bz (wi st 0 255))] (hi, hl, X) _
  refine w_zne (t := 18) rfl rfl (fun c1 => ?_) (fun c1 => ?_)
  · exact absurd hb (by simp [c1])
  · refine w_N 2 14 [.ref 64, .int st, .int (bz al), lm_jk, lm_jk] [.int (-2), .ref 64] rfl ?_
    refine w_ca (w_vst rfl rfl rfl (Nat.le_of_ble_eq_true rfl) (Nat.le_of_ble_eq_true rfl) (A_k S 64 (by decide))) (x_refuse P (by unfold isW; decide)) ?_
    rintro _ _ ⟨rfl, hi9, rfl, P9⟩
    show lm_wp _ 116 17 [.ref 64, .int st, .int (bz al), lm_jk, lm_jk] [.int (-2)] (hi9, hl, X) _
    refine w_ri rfl rfl ?_
    exact cq_ P9 (by omega) hC
theorem y_work_b {d : Nat} {hi : Nat → Nat → Int32} {hl : Nat → Nat → Int64} {X : lm_X} {hi0 : Nat → Nat → Int32} {hl0 : Nat → Nat → Int64} {X0 : lm_X} {n ts : Nat} {T : lm_T} {R : Nat → Int32} {KO : ab_K} {V : ab_V} {tl F : Nat → Int32} (P : mP hi0 hl0 X0 hi hl X T n R KO V ts tl F) {st : Int32} {al : Bool} (hb : (wi st 0 255) = false) : lm_w (d + 30) 207 [.ref 123, .int st, .int (bz al)] (hi, hl, X) (mQ hi0 hl0 X0 (.int (-2)) T n R KO V ts tl (rfU F (-2))) := by
  obtain ⟨SR, O, H, HR, HV, HT, HF, HK, E0, EL0, EX0⟩ := id P
  have S := SR.1
  refine lm_w_in (Nat.le_of_ble_eq_true rfl) ?_
  show lm_wp (d + 30) 207 0 [.ref 123, .int st, .int (bz al)] [] (hi, hl, X) _
  refine w_N 4 6 [.ref 123, .int st, .int (bz al)] [.long 255, .long 0, .long st.toInt64] rfl ?_
  refine w_cc rfl (m_in (x := st) (lo := 0) (up := 255) rfl (by decide) (by decide)) ?_
  show lm_wp _ 207 9 [.ref 123, .int st, .int (bz al)] [.int (bz (wi st 0 255))] (hi, hl, X) _
  refine w_zeq (t := 21) rfl rfl (fun c1 => ?_) (fun c1 => ?_)
  · refine w_N 2 24 [.ref 123, .int st, .int (bz al)] [.int (-2), .ref 123] rfl ?_
    refine w_ca (w_vst rfl rfl rfl (Nat.le_of_ble_eq_true rfl) (Nat.le_of_ble_eq_true rfl) (M_kd S)) (m_refuse P (by unfold isW; decide)) ?_
    rintro _ _ ⟨rfl, hi9, rfl, P9⟩
    show lm_wp _ 207 27 [.ref 123, .int st, .int (bz al)] [.int (-2)] (hi9, hl, X) _
    refine w_ri rfl rfl ?_
    exact mq_ P9
  · exact absurd hb (by simp [c1])
theorem q_canStand_E {d : Nat} {hi : Nat → Nat → Int32} {hl : Nat → Nat → Int64} {X : lm_X} {b n : Nat} {T : lm_T} (S : sh_T X b) (H : isT hi b T n) {s set idle x : Int32} {k : Nat} (hx : x = nI k) (h4 : k ≤ 4) : lm_c (d + 6) 17 [.ref b, .int s, .int set, .int idle, .int x] (hi, hl, X) (some (.int (bz (cst T n set idle k s))), (hi, hl, X)) := by
  subst hx
  exact q_canStand S H h4
theorem x_work1 {d : Nat} {hi : Nat → Nat → Int32} {hl : Nat → Nat → Int64} {X : lm_X} {n st : Nat} {al : Bool} {T : lm_T} {R : Nat → Int32} (S : sh_A X) (H : isT hi 65 T n) (HR : isR hi 65 R) {P : Option Value → lm_H → Prop} : ∀ (r m : Nat) (id : Int32) (mk : Int32), m + r = 5 → (id = idl al (R 10)) → (mk = nI m) → (∀ v h1, (v, h1) = (some (.int (wkS (fun k => cst T n (nI st) (idl al (R 10)) k (R 10)) m r)), (hi, hl, X)) → P v h1) → lm_wp (d + 20) 116 42 [.ref 64, .int (nI st), .int (bz al), .int id, .int mk] [] (hi, hl, X) P := by
  intro r
  induction r with
  | zero =>
    intro m id mk hm e3 e2 hP
    refine w_N 2 45 [.ref 64, .int (nI st), .int (bz al), .int id, .int mk] [.int 4, .int mk] rfl ?_
    refine w_icmp_gt_t (t := 78) rfl rfl (by rw [e2, show m = 5 by omega]; decide) ?_
    refine w_N 1 79 [.ref 64, .int (nI st), .int (bz al), .int id, .int mk] [.int (-1)] rfl ?_
    refine w_ri rfl rfl ?_
    exact hP _ _ rfl
  | succ r ih =>
    intro m id mk hm e3 e2 hP
    refine w_N 2 45 [.ref 64, .int (nI st), .int (bz al), .int id, .int mk] [.int 4, .int mk] rfl ?_
    refine w_icmp_gt_f (t := 78) rfl rfl (by rw [e2, show (4 : Int32) = nI 4 from rfl, nI_lt_iff (by omega) (by omega)]; omega) ?_
    refine w_N 1 49 [.ref 64, .int (nI st), .int (bz al), .int id, .int mk] [.ref 64] rfl ?_
    refine w_gr 65 rfl rfl rfl (A_k S 64 (by decide)) (A_r S 64 0 (by decide)) ?_
    refine w_N 1 53 [.ref 64, .int (nI st), .int (bz al), .int id, .int mk] [.ref 64, .ref 65] rfl ?_
    refine w_gr 65 rfl rfl rfl (A_k S 64 (by decide)) (A_r S 64 0 (by decide)) ?_
    refine w_gi (v := R 10) rfl rfl rfl (T_kd (A_T65 S)) (HR.1) ?_
    refine w_N 3 63 [.ref 64, .int (nI st), .int (bz al), .int id, .int mk] [.int mk, .int id, .int (nI st), .int (R 10), .ref 65] rfl ?_
    refine w_cc rfl (lm_c_v (q_canStand_E (d := d + 13) (A_T65 S) H e2 (show m ≤ 4 by omega)) (by rw [e3])) ?_
    show lm_wp _ 116 66 [.ref 64, .int (nI st), .int (bz al), .int id, .int mk] [.int (bz (cst T n (nI st) (idl al (R 10)) m (R 10)))] (hi, hl, X) _
    refine w_zeq (t := 72) rfl rfl (fun c1 => ?_) (fun c1 => ?_)
    · refine w_N 2 42 [.ref 64, .int (nI st), .int (bz al), .int id, .int (mk + 1)] [] rfl ?_
      have eb : wkS (fun k => cst T n (nI st) (idl al (R 10)) k (R 10)) m (r + 1) = wkS (fun k => cst T n (nI st) (idl al (R 10)) k (R 10)) (m + 1) r := if_neg (by show ¬ cst T n (nI st) (idl al (R 10)) m (R 10) = true; rw [c1]; decide)
      rw [eb] at hP
      exact ih (m + 1) _ _ (by omega) e3 (by rw [e2, nI_succ]) hP
    · refine w_N 1 71 [.ref 64, .int (nI st), .int (bz al), .int id, .int mk] [.int mk] rfl ?_
      refine w_ri rfl rfl ?_
      have eb : wkS (fun k => cst T n (nI st) (idl al (R 10)) k (R 10)) m (r + 1) = nI m := if_pos c1
      rw [eb, ← e2] at hP
      exact hP _ _ rfl
theorem x_work {d : Nat} {hi : Nat → Nat → Int32} {hl : Nat → Nat → Int64} {X : lm_X} {hi0 : Nat → Nat → Int32} {hl0 : Nat → Nat → Int64} {C n ts : Nat} {T : lm_T} {R : Nat → Int32} {KO : ab_K} {V : ab_V} {tl F : Nat → Int32} (P : cP hi0 hl0 hi hl X C T n R KO V ts tl F) {B D : Nat} (Z : okZ B D T n R KO V ts tl) {st : Nat} {al : Bool} (hst : st ≤ 255) (hC : C + 25 < 2147483648) : lm_w (d + 30) 116 [.ref 64, .int (nI st), .int (bz al)] (hi, hl, X) (cQ hi0 hl0 X (C + 25) (.int (wkS (fun k => cst T n (nI st) (idl al (R 10)) k (R 10)) 0 5)) T n R KO V ts tl F) := by
  obtain ⟨S, O, H, HR, FO, HV, HT, HF, HK, E0, EL0⟩ := id P
  obtain ⟨hT, hO, hV, hts, htl, hDB, hB0, hKO⟩ := id Z
  refine lm_w_in (Nat.le_of_ble_eq_true rfl) ?_
  show lm_wp (d + 30) 116 0 [.ref 64, .int (nI st), .int (bz al), lm_jk, lm_jk] [] (hi, hl, X) _
  refine w_N 3 5 [.ref 64, .int (nI st), .int (bz al), lm_jk, lm_jk] [.int 255, .int 0, .int (nI st)] rfl ?_
  refine w_cc rfl (x_within1 (wi_t (n := 255) hst (by decide))) ?_
  show lm_wp _ 116 8 [.ref 64, .int (nI st), .int (bz al), lm_jk, lm_jk] [.int 1] (hi, hl, X) _
  refine w_if_ne_t (t := 18) rfl rfl (by decide) ?_
  refine w_N 1 19 [.ref 64, .int (nI st), .int (bz al), lm_jk, lm_jk] [.int (bz al)] rfl ?_
  refine w_zeq (t := 37) rfl rfl (fun c1 => ?_) (fun c1 => ?_)
  · refine w_N 4 42 [.ref 64, .int (nI st), .int (bz al), .int (-1), .int 0] [] rfl ?_
    obtain rfl : al = false := c1
    refine x_work1 (d := d + 10) (al := false) S H HR 5 0 _ _ (by omega) rfl rfl ?_
    rintro v h1 q
    cases q
    exact cq_ P (by omega) hC
  · refine w_N 2 24 [.ref 64, .int (nI st), .int (bz al), lm_jk, lm_jk] [.ref 64, .int 1] rfl ?_
    refine w_gr 65 rfl rfl rfl (A_k S 64 (by decide)) (A_r S 64 0 (by decide)) ?_
    refine w_gi (v := R 10) rfl rfl rfl (T_kd (A_T65 S)) (HR.1) ?_
    refine w_cc rfl (c_awkz rfl) ?_
    show lm_wp _ 116 33 [.ref 64, .int (nI st), .int (bz al), lm_jk, lm_jk] [.int (nI (awk (R 10))), .int 1] (hi, hl, X) _
    refine w_N 5 42 [.ref 64, .int (nI st), .int (bz al), .int (1 - (nI (awk (R 10)))), .int 0] [] rfl ?_
    obtain rfl : al = true := c1
    refine x_work1 (d := d + 10) (al := true) S H HR 5 0 _ _ (by omega) one_sub rfl ?_
    rintro v h1 q
    cases q
    exact cq_ P (by omega) hC
theorem y_work1 {d : Nat} {hi : Nat → Nat → Int32} {hl : Nat → Nat → Int64} {X : lm_X} {n st D : Nat} {al : Bool} {T : lm_T} {R : Nat → Int32} (S : sh_M X 123) (H : rT hi 123 T n) (HR : rR hi 123 R) (hT : okT T n) (hO : okR R D) (hD : D < 2000000) (hst : st ≤ 255) {P : Option Value → lm_H → Prop} : ∀ (r m : Nat) (mk : Int32), m + r = 5 → (mk = nI m) → (∀ v h1, (v, h1) = (some (.int (wkS (fun k => cst T n (nI st) (idl al (R 10)) k (R 10)) m r)), (hi, hl, X)) → P v h1) → lm_wp (d + 20) 206 2 [.ref 123, .int (nI st), .int (bz al), .int mk] [] (hi, hl, X) P := by
  intro r
  induction r with
  | zero =>
    intro m mk hm e2 hP
    refine w_N 2 4 [.ref 123, .int (nI st), .int (bz al), .int mk] [.int 4, .int mk] rfl ?_
    refine w_icmp_gt_t (t := 35) rfl rfl (by rw [e2, show m = 5 by omega]; decide) ?_
    refine w_N 1 36 [.ref 123, .int (nI st), .int (bz al), .int mk] [.int (-1)] rfl ?_
    refine w_ri rfl rfl ?_
    exact hP _ _ rfl
  | succ r ih =>
    intro m mk hm e2 hP
    refine w_N 2 4 [.ref 123, .int (nI st), .int (bz al), .int mk] [.int 4, .int mk] rfl ?_
    refine w_icmp_gt_f (t := 35) rfl rfl (by rw [e2, show (4 : Int32) = nI 4 from rfl, nI_lt_iff (by omega) (by omega)]; omega) ?_
    refine w_N 4 11 [.ref 123, .int (nI st), .int (bz al), .int mk] [.ref 123, .int mk, .int (nI st), .ref 123] rfl ?_
    refine w_gi (v := nI D) rfl rfl rfl (M_kd S) (HR.2.2.1.trans hO.2.2.1) ?_
    refine w_N 2 16 [.ref 123, .int (nI st), .int (bz al), .int mk] [.ref 123, .int (bz al), .int (nI D), .int mk, .int (nI st), .ref 123] rfl ?_
    refine w_gi (v := nI D) rfl rfl rfl (M_kd S) (HR.2.2.1.trans hO.2.2.1) ?_
    refine w_N 1 20 [.ref 123, .int (nI st), .int (bz al), .int mk] [.int 2, .int (nI D), .int (bz al), .int (nI D), .int mk, .int (nI st), .ref 123] rfl ?_
    refine w_rem rfl (by decide) ?_
    rw [hrem (s := R 10) hO.2.2.2.1 (by omega)]
    refine w_cc (w_vst rfl rfl rfl (Nat.le_of_ble_eq_true rfl) (Nat.le_of_ble_eq_true rfl) (M_kd S)) (m_isDoneE (d := d + 14) (k := m) (al := al) (idle := idl al (R 10)) (hf := awk (R 10)) S H HR.1 hT hO.2.2.2.1 (by omega) (by omega) (show st < 256 by omega) (idl_h al (R 10)) e2 rfl rfl rfl rfl) ?_
    show lm_wp _ 206 24 [.ref 123, .int (nI st), .int (bz al), .int mk] [.int (bz (cst T n (nI st) (idl al (R 10)) m (R 10)))] (hi, hl, X) _
    refine w_zeq (t := 29) rfl rfl (fun c1 => ?_) (fun c1 => ?_)
    · refine w_N 2 2 [.ref 123, .int (nI st), .int (bz al), .int (mk + 1)] [] rfl ?_
      have eb : wkS (fun k => cst T n (nI st) (idl al (R 10)) k (R 10)) m (r + 1) = wkS (fun k => cst T n (nI st) (idl al (R 10)) k (R 10)) (m + 1) r := if_neg (by show ¬ cst T n (nI st) (idl al (R 10)) m (R 10) = true; rw [c1]; decide)
      rw [eb] at hP
      exact ih (m + 1) _ (by omega) (by rw [e2, nI_succ]) hP
    · refine w_N 1 28 [.ref 123, .int (nI st), .int (bz al), .int mk] [.int mk] rfl ?_
      refine w_ri rfl rfl ?_
      have eb : wkS (fun k => cst T n (nI st) (idl al (R 10)) k (R 10)) m (r + 1) = nI m := if_pos c1
      rw [eb, ← e2] at hP
      exact hP _ _ rfl
theorem m_workOf {d : Nat} {hi : Nat → Nat → Int32} {hl : Nat → Nat → Int64} {X : lm_X} {n st D : Nat} {al : Bool} {T : lm_T} {R : Nat → Int32} (S : sh_M X 123) (H : rT hi 123 T n) (HR : rR hi 123 R) (hT : okT T n) (hO : okR R D) (hD : D < 2000000) (hst : st ≤ 255) : lm_c (d + 20) 206 [.ref 123, .int (nI st), .int (bz al)] (hi, hl, X) (some (.int (wkS (fun k => cst T n (nI st) (idl al (R 10)) k (R 10)) 0 5)), (hi, hl, X)) := by
  refine lm_c_of (lm_w_in (Nat.le_of_ble_eq_true rfl) ?_)
  show lm_wp (d + 20) 206 0 [.ref 123, .int (nI st), .int (bz al), lm_jk] [] (hi, hl, X) _
  refine w_N 2 2 [.ref 123, .int (nI st), .int (bz al), .int 0] [] rfl ?_
  exact y_work1 S H HR hT hO hD hst 5 0 _ (by omega) rfl (fun v h1 q => q)
theorem y_work {d : Nat} {hi : Nat → Nat → Int32} {hl : Nat → Nat → Int64} {X : lm_X} {hi0 : Nat → Nat → Int32} {hl0 : Nat → Nat → Int64} {X0 : lm_X} {n ts : Nat} {T : lm_T} {R : Nat → Int32} {KO : ab_K} {V : ab_V} {tl F : Nat → Int32} (P : mP hi0 hl0 X0 hi hl X T n R KO V ts tl F) {B D : Nat} (Z : okZ B D T n R KO V ts tl) {st : Nat} {al : Bool} (hst : st ≤ 255) : lm_w (d + 30) 207 [.ref 123, .int (nI st), .int (bz al)] (hi, hl, X) (mQ hi0 hl0 X0 (.int (wkS (fun k => cst T n (nI st) (idl al (R 10)) k (R 10)) 0 5)) T n R KO V ts tl F) := by
  obtain ⟨SR, O, H, HR, HV, HT, HF, HK, E0, EL0, EX0⟩ := id P
  have S := SR.1
  obtain ⟨hT, hO, hV, hts, htl, hDB, hB0, hKO⟩ := id Z
  refine lm_w_in (Nat.le_of_ble_eq_true rfl) ?_
  show lm_wp (d + 30) 207 0 [.ref 123, .int (nI st), .int (bz al)] [] (hi, hl, X) _
  refine w_N 4 6 [.ref 123, .int (nI st), .int (bz al)] [.long 255, .long 0, .long ((nI st).toInt64)] rfl ?_
  refine w_cc rfl (lm_c_1 (m_in (x := nI st) (lo := 0) (up := 255) rfl (by decide) (by decide)) (wi_t (n := 255) hst (by decide))) ?_
  show lm_wp _ 207 9 [.ref 123, .int (nI st), .int (bz al)] [.int 1] (hi, hl, X) _
  refine w_if_eq_f (t := 21) rfl rfl (by decide) ?_
  refine w_N 3 15 [.ref 123, .int (nI st), .int (bz al)] [.int (bz al), .int (nI st), .ref 123] rfl ?_
  refine w_cc (w_vst rfl rfl rfl (Nat.le_of_ble_eq_true rfl) (Nat.le_of_ble_eq_true rfl) (M_kd S)) (m_workOf (d := d + 9) S H HR hT hO (by omega) hst) ?_
  show lm_wp _ 207 18 [.ref 123, .int (nI st), .int (bz al)] [.int (wkS (fun k => cst T n (nI st) (idl al (R 10)) k (R 10)) 0 5)] (hi, hl, X) _
  refine w_N 1 27 [.ref 123, .int (nI st), .int (bz al)] [.int (wkS (fun k => cst T n (nI st) (idl al (R 10)) k (R 10)) 0 5)] rfl ?_
  refine w_ri rfl rfl ?_
  exact mq_ P
theorem st_work {B D : Nat} {n ts : Nat} {T : lm_T} {R : Nat → Int32} {KO : ab_K} {V : ab_V} {tl F : Nat → Int32} {st : Int32} {al : Bool} (Z : okZ B D T n R KO V ts tl) (hB : B + 20 < 2000000) : STEP B 116 207 [.int st, .int (bz al)] T n R KO V ts tl F := by
  obtain ⟨hT, hO, hV, hts, htl, hDB, hB0, hKO⟩ := id Z
  cases hb : wi st 0 255
  · exact ⟨_, D, _, _, _, _, _, _, _, _, okZ_up Z hB, fun _ _ _ _ _ _ P hC => x_work_b (d := 10) P hb hC, fun _ _ _ _ _ _ P => y_work_b (d := 10) P hb⟩
  · obtain ⟨st, rfl, hst⟩ := wi_e (n := 255) hb (by decide)
    exact ⟨_, D, _, _, _, _, _, _, _, _, okZ_up Z hB, fun _ _ _ _ _ _ P hC => x_work (d := 10) P Z hst hC, fun _ _ _ _ _ _ P => y_work (d := 10) P Z hst⟩
theorem csl_iff (T : lm_T) (f : Int32 → Bool) (s : Int32) : ∀ j m, csl T f s m j = true ↔ ∃ i, m ≤ i ∧ i < m + j ∧ alw T i (awk s) s = true ∧ f (s_next (aft T i s)) = true := by
  intro j
  induction j with
  | zero => intro m; constructor
            · intro h; cases h
            · rintro ⟨i, h1, h2, -⟩; omega
  | succ j ih =>
    intro m
    unfold csl
    by_cases h : alw T m (awk s) s = true ∧ f (s_next (aft T m s)) = true
    · rw [if_pos h]; exact ⟨fun _ => ⟨m, by omega, by omega, h⟩, fun _ => rfl⟩
    · rw [if_neg h, ih (m + 1)]
      constructor
      · rintro ⟨i, h1, h2, h3⟩; exact ⟨i, by omega, by omega, h3⟩
      · rintro ⟨i, h1, h2, h3⟩
        by_cases e : i = m
        · subst e; exact absurd h3 h
        · exact ⟨i, by omega, by omega, h3⟩
theorem mwl_bt (T : lm_T) (f : Int32 → Int32) (s : Int32) (b : Nat) : ∀ m, bt (mwl T f s m) b = true ↔ ∃ i, i < m ∧ alw T i (awk s) s = true ∧ bt (f (s_next (aft T i s))) b = true := by
  intro m
  induction m with
  | zero =>
    constructor
    · intro h
      have e : bt (mwl T f s 0) b = false := by
        show bt 0 b = false
        unfold bt
        exact BitVec.getLsbD_zero
      rw [e] at h; cases h
    · rintro ⟨i, h, -⟩; omega
  | succ m ih =>
    unfold mwl
    by_cases h : alw T m (awk s) s = true
    · rw [if_pos h, bt_or, Bool.or_eq_true, ih]
      constructor
      · rintro (⟨i, h1, h2⟩ | h1)
        · exact ⟨i, by omega, h2⟩
        · exact ⟨m, by omega, h, h1⟩
      · rintro ⟨i, h1, h2, h3⟩
        by_cases e : i = m
        · subst e; exact Or.inr h3
        · exact Or.inl ⟨i, by omega, h2, h3⟩
    · rw [if_neg h, ih]
      constructor
      · rintro ⟨i, h1, h2⟩; exact ⟨i, by omega, h2⟩
      · rintro ⟨i, h1, h2, h3⟩
        by_cases e : i = m
        · subst e; exact absurd h2 h
        · exact ⟨i, by omega, h2, h3⟩
theorem bt_p2 {i b : Nat} (hi : i < 8) (hb : b < 32) : bt (nI (2 ^ i)) b = decide (i = b) := by
  rw [bt_nI hb, Nat.testBit_two_pow]
theorem and_p2 {s : Int32} {i : Nat} (hi : i < 8) : s &&& nI (2 ^ i) = nI (2 ^ i) ↔ bt s i = true := by
  constructor
  · intro h
    have q := congrArg (fun z => bt z i) h
    simp only [bt_and, bt_p2 hi (show i < 32 by omega), decide_true, Bool.and_true] at q
    exact q
  · intro h
    apply bt_ext
    intro b hb
    rw [bt_and, bt_p2 hi hb]
    by_cases e : i = b
    · subst e; simp [h]
    · simp [e]
theorem mkw_bt (T : lm_T) (n : Nat) : ∀ k s b, b < 32 → (bt (mkw T n k s) b = true ↔ (b < 8 ∧ cst T n (nI (2 ^ b)) (-1) k s = true)) := by
  intro k
  induction k with
  | zero =>
    intro s b hb
    show bt (s_marks s) b = true ↔ (b < 8 ∧ decide (s &&& nI (2 ^ b) = nI (2 ^ b)) = true)
    rw [bt_marks hb, Bool.and_eq_true, decide_eq_true_eq, decide_eq_true_eq]
    constructor
    · rintro ⟨h1, h2⟩; exact ⟨h1, (and_p2 h1).mpr h2⟩
    · rintro ⟨h1, h2⟩; exact ⟨h1, (and_p2 h1).mp h2⟩
  | succ k ih =>
    intro s b hb
    have hw := awk_lt s
    show bt (mwl T (mkw T n k) s (n + 1)) b = true ↔ (b < 8 ∧ csl T (cst T n (nI (2 ^ b)) (-1) k) s 0 ((if nI (awk s) = -1 then 0 else n) + 1) = true)
    rw [mwl_bt, csl_iff, if_neg (nI_n1 (by omega))]
    constructor
    · rintro ⟨i, h1, h2, h3⟩
      have q := (ih _ b hb).mp h3
      exact ⟨q.1, i, by omega, by omega, h2, q.2⟩
    · rintro ⟨h0, i, h1, h2, h3, h4⟩
      exact ⟨i, by omega, h3, (ih _ b hb).mpr ⟨h0, h4⟩⟩
def rcS (T : lm_T) (n k : Nat) (s : Int32) : Nat → Int32
  | 0 => 0
  | m + 1 => if cst T n (nI (2 ^ m)) (-1) k s = true then rcS T n k s m ||| (1 <<< (nI m &&& 31)) else rcS T n k s m
theorem rcS_bt (T : lm_T) (n k : Nat) (s : Int32) {b : Nat} (hb : b < 32) : ∀ m, m ≤ 8 → (bt (rcS T n k s m) b = true ↔ (b < m ∧ cst T n (nI (2 ^ b)) (-1) k s = true)) := by
  intro m
  induction m with
  | zero =>
    intro _
    constructor
    · intro h
      have e : bt (rcS T n k s 0) b = false := by
        show bt 0 b = false
        unfold bt
        exact BitVec.getLsbD_zero
      rw [e] at h; cases h
    · rintro ⟨h, -⟩; omega
  | succ m ih =>
    intro hm
    have ih := ih (by omega)
    unfold rcS
    by_cases h : cst T n (nI (2 ^ m)) (-1) k s = true
    · rw [if_pos h, bt_or, Bool.or_eq_true, ih, bt_lit m (by omega) hb, decide_eq_true_eq]
      constructor
      · rintro (⟨h1, h2⟩ | h1)
        · exact ⟨by omega, h2⟩
        · subst h1; exact ⟨by omega, h⟩
      · rintro ⟨h1, h2⟩
        by_cases e : m = b
        · exact Or.inr e
        · exact Or.inl ⟨by omega, h2⟩
    · rw [if_neg h, ih]
      constructor
      · rintro ⟨h1, h2⟩; exact ⟨by omega, h2⟩
      · rintro ⟨h1, h2⟩
        by_cases e : b = m
        · subst e; exact absurd h2 h
        · exact ⟨by omega, h2⟩
theorem reach_eq (T : lm_T) (n k : Nat) (s : Int32) : mkw T n k s = rcS T n k s 8 := by
  apply bt_ext
  intro b hb
  have q1 := mkw_bt T n k s b hb
  have q2 := rcS_bt T n k s hb 8 (by omega)
  cases h1 : bt (mkw T n k s) b <;> cases h2 : bt (rcS T n k s 8) b
  · rfl
  · rw [h1] at q1; rw [h2] at q2; exact absurd (q1.mpr (q2.mp rfl)) (by decide)
  · rw [h1] at q1; rw [h2] at q2; exact absurd (q2.mpr (q1.mp rfl)) (by decide)
  · rfl
theorem x_reach_b {d : Nat} {hi : Nat → Nat → Int32} {hl : Nat → Nat → Int64} {X : lm_X} {hi0 : Nat → Nat → Int32} {hl0 : Nat → Nat → Int64} {C n ts : Nat} {T : lm_T} {R : Nat → Int32} {KO : ab_K} {V : ab_V} {tl F : Nat → Int32} (P : cP hi0 hl0 hi hl X C T n R KO V ts tl F) {k : Int32}  (hb : (wi k 0 4) = false) (hC : C + 25 < 2147483648) : lm_w (d + 30) 117 [.ref 64, .int k] (hi, hl, X) (cQ hi0 hl0 X (C + 25) (.int (-2)) T n R KO V ts tl (rfU F (-2))) := by
  obtain ⟨S, O, H, HR, FO, HV, HT, HF, HK, E0, EL0⟩ := id P
  refine lm_w_in (Nat.le_of_ble_eq_true rfl) ?_
  show lm_wp (d + 30) 117 0 [.ref 64, .int k] [] (hi, hl, X) _
  refine w_N 3 3 [.ref 64, .int k] [.int 4, .int 0, .int k] rfl ?_
  refine w_cc rfl x_within ?_
  show lm_wp _ 117 6 [.ref 64, .int k] [.int (bz (wi k 0 4))] (hi, hl, X) _
  refine w_zne (t := 16) rfl rfl (fun c1 => ?_) (fun c1 => ?_)
  · exact absurd hb (by simp [c1])
  · refine w_N 2 12 [.ref 64, .int k] [.int (-2), .ref 64] rfl ?_
    refine w_ca (w_vst rfl rfl rfl (Nat.le_of_ble_eq_true rfl) (Nat.le_of_ble_eq_true rfl) (A_k S 64 (by decide))) (x_refuse P (by unfold isW; decide)) ?_
    rintro _ _ ⟨rfl, hi9, rfl, P9⟩
    show lm_wp _ 117 15 [.ref 64, .int k] [.int (-2)] (hi9, hl, X) _
    refine w_ri rfl rfl ?_
    exact cq_ P9 (by omega) hC
theorem y_reach_b {d : Nat} {hi : Nat → Nat → Int32} {hl : Nat → Nat → Int64} {X : lm_X} {hi0 : Nat → Nat → Int32} {hl0 : Nat → Nat → Int64} {X0 : lm_X} {n ts : Nat} {T : lm_T} {R : Nat → Int32} {KO : ab_K} {V : ab_V} {tl F : Nat → Int32} (P : mP hi0 hl0 X0 hi hl X T n R KO V ts tl F) {k : Int32}  (hb : (wi k 0 4) = false) : lm_w (d + 30) 208 [.ref 123, .int k] (hi, hl, X) (mQ hi0 hl0 X0 (.int (-2)) T n R KO V ts tl (rfU F (-2))) := by
  obtain ⟨SR, O, H, HR, HV, HT, HF, HK, E0, EL0, EX0⟩ := id P
  have S := SR.1
  refine lm_w_in (Nat.le_of_ble_eq_true rfl) ?_
  show lm_wp (d + 30) 208 0 [.ref 123, .int k, lm_jk, lm_jk] [] (hi, hl, X) _
  refine w_N 4 6 [.ref 123, .int k, lm_jk, lm_jk] [.long 4, .long 0, .long k.toInt64] rfl ?_
  refine w_cc rfl (m_in (x := k) (lo := 0) (up := 4) rfl (by decide) (by decide)) ?_
  show lm_wp _ 208 9 [.ref 123, .int k, lm_jk, lm_jk] [.int (bz (wi k 0 4))] (hi, hl, X) _
  refine w_zne (t := 19) rfl rfl (fun c1 => ?_) (fun c1 => ?_)
  · exact absurd hb (by simp [c1])
  · refine w_N 2 15 [.ref 123, .int k, lm_jk, lm_jk] [.int (-2), .ref 123] rfl ?_
    refine w_ca (w_vst rfl rfl rfl (Nat.le_of_ble_eq_true rfl) (Nat.le_of_ble_eq_true rfl) (M_kd S)) (m_refuse P (by unfold isW; decide)) ?_
    rintro _ _ ⟨rfl, hi9, rfl, P9⟩
    show lm_wp _ 208 18 [.ref 123, .int k, lm_jk, lm_jk] [.int (-2)] (hi9, hl, X) _
    refine w_ri rfl rfl ?_
    exact mq_ P9
theorem x_reach {d : Nat} {hi : Nat → Nat → Int32} {hl : Nat → Nat → Int64} {X : lm_X} {hi0 : Nat → Nat → Int32} {hl0 : Nat → Nat → Int64} {C n ts : Nat} {T : lm_T} {R : Nat → Int32} {KO : ab_K} {V : ab_V} {tl F : Nat → Int32} (P : cP hi0 hl0 hi hl X C T n R KO V ts tl F) {k : Nat} (hk4 : k ≤ 4) (hC : C + 25 < 2147483648) : lm_w (d + 30) 117 [.ref 64, .int (nI k)] (hi, hl, X) (cQ hi0 hl0 X (C + 25) (.int (rcS T n k (R 10) 8)) T n R KO V ts tl F) := by
  obtain ⟨S, O, H, HR, FO, HV, HT, HF, HK, E0, EL0⟩ := id P
  refine lm_w_in (Nat.le_of_ble_eq_true rfl) ?_
  show lm_wp (d + 30) 117 0 [.ref 64, .int (nI k)] [] (hi, hl, X) _
  refine w_N 3 3 [.ref 64, .int (nI k)] [.int 4, .int 0, .int (nI k)] rfl ?_
  refine w_cc rfl (x_within1 (wi_t (n := 4) hk4 (by decide))) ?_
  show lm_wp _ 117 6 [.ref 64, .int (nI k)] [.int 1] (hi, hl, X) _
  refine w_if_ne_t (t := 16) rfl rfl (by decide) ?_
  refine w_N 1 17 [.ref 64, .int (nI k)] [.ref 64] rfl ?_
  refine w_gr 65 rfl rfl rfl (A_k S 64 (by decide)) (A_r S 64 0 (by decide)) ?_
  refine w_N 1 21 [.ref 64, .int (nI k)] [.ref 64, .ref 65] rfl ?_
  refine w_gr 65 rfl rfl rfl (A_k S 64 (by decide)) (A_r S 64 0 (by decide)) ?_
  refine w_gi (v := R 10) rfl rfl rfl (T_kd (A_T65 S)) (HR.1) ?_
  refine w_N 1 28 [.ref 64, .int (nI k)] [.int (nI k), .int (R 10), .ref 65] rfl ?_
  refine w_cc rfl (lm_c_v (q_marksWithin (d := d + 23) (A_T65 S) H hk4) (reach_eq T n k (R 10))) ?_
  show lm_wp _ 117 31 [.ref 64, .int (nI k)] [.int (rcS T n k (R 10) 8)] (hi, hl, X) _
  refine w_ri rfl rfl ?_
  exact cq_ P (by omega) hC
theorem p2_lt {m : Nat} (h : m < 8) : 2 ^ m < 256 := Nat.pow_lt_pow_right (a := 2) (by decide) (show m < 8 by omega)
theorem idl_n : ∀ h, h < 2 → (nI h = (-1 : Int32) ↔ (false = true ∧ ¬ nI h = nI 0)) := fun h hh => ⟨fun z => absurd z (nI_n1 (by omega)), fun z => absurd z.1 (by decide)⟩
theorem sh_p2 {m : Nat} (h : m < 8) : (1 : Int32) <<< (nI m &&& 31) = nI (2 ^ m) := by
  rw [sh_lit (by omega), show (1 : Int32) = nI 1 from rfl, sl_nI (by omega), Nat.one_mul]
theorem y_reach1 {d : Nat} {hi : Nat → Nat → Int32} {hl : Nat → Nat → Int64} {X : lm_X} {n k D : Nat} {T : lm_T} {R : Nat → Int32} (S : sh_M X 123) (H : rT hi 123 T n) (HR : rR hi 123 R) (hT : okT T n) (hO : okR R D) (hD : D < 2000000) (hk4 : k ≤ 4) {P : Option Value → lm_H → Prop} (kc : ∀ (c : Int32), lm_wp (d + 20) 208 62 [.ref 123, .int (nI k), .int (rcS T n k (R 10) 8), .int c] [] (hi, hl, X) P) : ∀ (r m : Nat) (sm : Int32) (mk : Int32), m + r = 8 → (sm = rcS T n k (R 10) m) → (mk = nI m) → lm_wp (d + 20) 208 23 [.ref 123, .int (nI k), .int sm, .int mk] [] (hi, hl, X) P := by
  intro r
  induction r with
  | zero =>
    intro m sm mk hm e1 e2
    refine w_N 2 26 [.ref 123, .int (nI k), .int sm, .int mk] [.int 8, .int mk] rfl ?_
    refine w_icmp_ge_t (t := 62) rfl rfl (by rw [e2, show m = 8 by omega]; decide) ?_
    obtain rfl : m = 8 := by omega
    rw [e1]
    exact kc _
  | succ r ih =>
    intro m sm mk hm e1 e2
    refine w_N 2 26 [.ref 123, .int (nI k), .int sm, .int mk] [.int 8, .int mk] rfl ?_
    refine w_icmp_ge_f (t := 62) rfl rfl (by rw [e2]; exact nI_lt (b := 8) (by omega) (by decide)) ?_
    refine w_N 7 36 [.ref 123, .int (nI k), .int sm, .int mk] [.ref 123, .int (nI k), .int (1 <<< (mk &&& 31)), .ref 123, .int sm] rfl ?_
    refine w_gi (v := nI D) rfl rfl rfl (M_kd S) (HR.2.2.1.trans hO.2.2.1) ?_
    refine w_N 2 41 [.ref 123, .int (nI k), .int sm, .int mk] [.int 0, .int 0, .int (nI D), .int (nI k), .int (1 <<< (mk &&& 31)), .ref 123, .int sm] rfl ?_
    refine w_cc (w_vst rfl rfl rfl (Nat.le_of_ble_eq_true rfl) (Nat.le_of_ble_eq_true rfl) (M_kd S)) (m_isDoneE (d := d + 14) (k := k) (st := 2 ^ m) (al := false) (idle := -1) (hf := 0) S H HR.1 hT hO.2.2.2.1 (by omega) hk4 (p2_lt (by omega)) idl_n rfl rfl (by rw [e2]; exact sh_p2 (by omega)) rfl rfl) ?_
    show lm_wp _ 208 44 [.ref 123, .int (nI k), .int sm, .int mk] [.int (bz (cst T n (nI (2 ^ m)) (-1) k (R 10))), .int sm] (hi, hl, X) _
    refine w_zeq (t := 53) rfl rfl (fun c1 => ?_) (fun c1 => ?_)
    · refine w_N 5 23 [.ref 123, .int (nI k), .int (sm ||| 0), .int (mk + 1)] [] rfl ?_
      refine ih (m + 1) _ _ (by omega) ?_ (by rw [e2, nI_succ])
      show _ = if cst T n (nI (2 ^ m)) (-1) k (R 10) = true then rcS T n k (R 10) m ||| (1 <<< (nI m &&& 31)) else rcS T n k (R 10) m
      rw [c1, if_neg (by decide), e1, Int32.or_zero]
    · refine w_N 8 23 [.ref 123, .int (nI k), .int (sm ||| (1 <<< (mk &&& 31))), .int (mk + 1)] [] rfl ?_
      refine ih (m + 1) _ _ (by omega) ?_ (by rw [e2, nI_succ])
      show _ = if cst T n (nI (2 ^ m)) (-1) k (R 10) = true then rcS T n k (R 10) m ||| (1 <<< (nI m &&& 31)) else rcS T n k (R 10) m
      rw [c1, if_pos rfl, e1, e2]
theorem y_reach {d : Nat} {hi : Nat → Nat → Int32} {hl : Nat → Nat → Int64} {X : lm_X} {hi0 : Nat → Nat → Int32} {hl0 : Nat → Nat → Int64} {X0 : lm_X} {n ts : Nat} {T : lm_T} {R : Nat → Int32} {KO : ab_K} {V : ab_V} {tl F : Nat → Int32} (P : mP hi0 hl0 X0 hi hl X T n R KO V ts tl F) {B D : Nat} (Z : okZ B D T n R KO V ts tl) {k : Nat} (hk4 : k ≤ 4) : lm_w (d + 30) 208 [.ref 123, .int (nI k)] (hi, hl, X) (mQ hi0 hl0 X0 (.int (rcS T n k (R 10) 8)) T n R KO V ts tl F) := by
  obtain ⟨SR, O, H, HR, HV, HT, HF, HK, E0, EL0, EX0⟩ := id P
  have S := SR.1
  obtain ⟨hT, hO, hV, hts, htl, hDB, hB0, hKO⟩ := id Z
  refine lm_w_in (Nat.le_of_ble_eq_true rfl) ?_
  show lm_wp (d + 30) 208 0 [.ref 123, .int (nI k), lm_jk, lm_jk] [] (hi, hl, X) _
  refine w_N 4 6 [.ref 123, .int (nI k), lm_jk, lm_jk] [.long 4, .long 0, .long ((nI k).toInt64)] rfl ?_
  refine w_cc rfl (lm_c_1 (m_in (x := nI k) (lo := 0) (up := 4) rfl (by decide) (by decide)) (wi_t (n := 4) hk4 (by decide))) ?_
  show lm_wp _ 208 9 [.ref 123, .int (nI k), lm_jk, lm_jk] [.int 1] (hi, hl, X) _
  refine w_if_ne_t (t := 19) rfl rfl (by decide) ?_
  refine w_N 4 23 [.ref 123, .int (nI k), .int 0, .int 0] [] rfl ?_
  refine y_reach1 (d := d + 10) S H HR hT hO (by omega) hk4 (fun c => ?_) 8 0 _ _ (by omega) rfl rfl
  refine w_N 1 63 _ [.int (rcS T n k (R 10) 8)] rfl ?_
  refine w_ri rfl rfl ?_
  exact mq_ P
theorem st_reach {B D : Nat} {n ts : Nat} {T : lm_T} {R : Nat → Int32} {KO : ab_K} {V : ab_V} {tl F : Nat → Int32} {k : Int32} (Z : okZ B D T n R KO V ts tl) (hB : B + 20 < 2000000) : STEP B 117 208 [.int k] T n R KO V ts tl F := by
  obtain ⟨hT, hO, hV, hts, htl, hDB, hB0, hKO⟩ := id Z
  cases hb : wi k 0 4
  · exact ⟨_, D, _, _, _, _, _, _, _, _, okZ_up Z hB, fun _ _ _ _ _ _ P hC => x_reach_b (d := 10) P hb hC, fun _ _ _ _ _ _ P => y_reach_b (d := 10) P hb⟩
  · obtain ⟨k, rfl, hk4⟩ := wi_e (n := 4) hb (by decide)
    exact ⟨_, D, _, _, _, _, _, _, _, _, okZ_up Z hB, fun _ _ _ _ _ _ P hC => x_reach (d := 10) P hk4 hC, fun _ _ _ _ _ _ P => y_reach (d := 10) P Z hk4⟩
theorem x_found_n {d : Nat} {hi : Nat → Nat → Int32} {hl : Nat → Nat → Int64} {X : lm_X} {hi0 : Nat → Nat → Int32} {hl0 : Nat → Nat → Int64} {C n ts : Nat} {T : lm_T} {R : Nat → Int32} {KO : ab_K} {V : ab_V} {tl F : Nat → Int32} (P : cP hi0 hl0 hi hl X C T n R KO V ts tl F) (h15 : R 15 = 0) (hC : C + 25 < 2147483648) : lm_w (d + 30) 118 [.ref 64] (hi, hl, X) (cQ hi0 hl0 X (C + 25) (.int (-5)) T n R KO V ts tl (rfU F (-5))) := by
  obtain ⟨S, O, H, HR, FO, HV, HT, HF, HK, E0, EL0⟩ := id P
  refine lm_w_in (Nat.le_of_ble_eq_true rfl) ?_
  show lm_wp (d + 30) 118 0 [.ref 64] [] (hi, hl, X) _
  refine w_N 1 1 [.ref 64] [.ref 64] rfl ?_
  refine w_gr 65 rfl rfl rfl (A_k S 64 (by decide)) (A_r S 64 0 (by decide)) ?_
  refine w_gi (v := R 15) rfl rfl rfl (T_kd (A_T65 S)) (HR.2.2.2.2.2.1) ?_
  refine w_if_ne_f (t := 17) rfl rfl h15 ?_
  refine w_N 2 13 [.ref 64] [.int (-5), .ref 64] rfl ?_
  refine w_ca (w_vst rfl rfl rfl (Nat.le_of_ble_eq_true rfl) (Nat.le_of_ble_eq_true rfl) (A_k S 64 (by decide))) (x_refuse P (by unfold isW; decide)) ?_
  rintro _ _ ⟨rfl, hi9, rfl, P9⟩
  show lm_wp _ 118 16 [.ref 64] [.int (-5)] (hi9, hl, X) _
  refine w_ri rfl rfl ?_
  exact cq_ P9 (by omega) hC
theorem y_found_n {d : Nat} {hi : Nat → Nat → Int32} {hl : Nat → Nat → Int64} {X : lm_X} {hi0 : Nat → Nat → Int32} {hl0 : Nat → Nat → Int64} {X0 : lm_X} {n ts : Nat} {T : lm_T} {R : Nat → Int32} {KO : ab_K} {V : ab_V} {tl F : Nat → Int32} (P : mP hi0 hl0 X0 hi hl X T n R KO V ts tl F) (h15 : R 15 = 0) : lm_w (d + 30) 210 [.ref 123] (hi, hl, X) (mQ hi0 hl0 X0 (.int (-5)) T n R KO V ts tl (rfU F (-5))) := by
  obtain ⟨SR, O, H, HR, HV, HT, HF, HK, E0, EL0, EX0⟩ := id P
  have S := SR.1
  refine lm_w_in (Nat.le_of_ble_eq_true rfl) ?_
  show lm_wp (d + 30) 210 0 [.ref 123] [] (hi, hl, X) _
  refine w_N 1 1 [.ref 123] [.ref 123] rfl ?_
  refine w_gi (v := R 15) rfl rfl rfl (M_kd S) (HR.2.2.2.2.2.1) ?_
  refine w_if_eq_t (t := 18) rfl rfl h15 ?_
  refine w_N 2 21 [.ref 123] [.int (-5), .ref 123] rfl ?_
  refine w_ca (w_vst rfl rfl rfl (Nat.le_of_ble_eq_true rfl) (Nat.le_of_ble_eq_true rfl) (M_kd S)) (m_refuse P (by unfold isW; decide)) ?_
  rintro _ _ ⟨rfl, hi9, rfl, P9⟩
  show lm_wp _ 210 24 [.ref 123] [.int (-5)] (hi9, hl, X) _
  refine w_ri rfl rfl ?_
  exact mq_ P9
theorem x_found {d : Nat} {hi : Nat → Nat → Int32} {hl : Nat → Nat → Int64} {X : lm_X} {hi0 : Nat → Nat → Int32} {hl0 : Nat → Nat → Int64} {C n ts : Nat} {T : lm_T} {R : Nat → Int32} {KO : ab_K} {V : ab_V} {tl F : Nat → Int32} (P : cP hi0 hl0 hi hl X C T n R KO V ts tl F) {u : Nat} (hu : u < 256) (eu : R 11 = nI u) (h15 : R 15 = 1) (hC : C + 25 < 2147483648) : lm_w (d + 30) 118 [.ref 64] (hi, hl, X) (cQ hi0 hl0 X (C + 25) (.int (lky T (awk (R 14)) (R 14) (R 10) (nI u ^^^ (-1)) (n + 1))) T n R KO V ts tl F) := by
  obtain ⟨S, O, H, HR, FO, HV, HT, HF, HK, E0, EL0⟩ := id P
  refine lm_w_in (Nat.le_of_ble_eq_true rfl) ?_
  show lm_wp (d + 30) 118 0 [.ref 64] [] (hi, hl, X) _
  refine w_N 1 1 [.ref 64] [.ref 64] rfl ?_
  refine w_gr 65 rfl rfl rfl (A_k S 64 (by decide)) (A_r S 64 0 (by decide)) ?_
  refine w_gi (v := R 15) rfl rfl rfl (T_kd (A_T65 S)) (HR.2.2.2.2.2.1) ?_
  refine w_if_ne_t (t := 17) rfl rfl (by rw [h15]; decide) ?_
  refine w_N 1 18 [.ref 64] [.ref 64] rfl ?_
  refine w_gr 65 rfl rfl rfl (A_k S 64 (by decide)) (A_r S 64 0 (by decide)) ?_
  refine w_N 1 22 [.ref 64] [.ref 64, .ref 65] rfl ?_
  refine w_gr 65 rfl rfl rfl (A_k S 64 (by decide)) (A_r S 64 0 (by decide)) ?_
  refine w_gi (v := nI u) rfl rfl rfl (T_kd (A_T65 S)) (HR.2.1.trans eu) ?_
  refine w_cc (w_vst rfl rfl rfl (Nat.le_of_ble_eq_true rfl) (Nat.le_of_ble_eq_true rfl) (T_kd (A_T65 S))) (t_likelyActs (d := d + 27) (A_T65 S) H HR) ?_
  show lm_wp _ 118 31 [.ref 64] [.int (lky T (awk (R 14)) (R 14) (R 10) (nI u ^^^ (-1)) (n + 1))] (hi, hl, X) _
  refine w_ri rfl rfl ?_
  exact cq_ P (by omega) hC
theorem y_found {d : Nat} {hi : Nat → Nat → Int32} {hl : Nat → Nat → Int64} {X : lm_X} {hi0 : Nat → Nat → Int32} {hl0 : Nat → Nat → Int64} {X0 : lm_X} {n ts : Nat} {T : lm_T} {R : Nat → Int32} {KO : ab_K} {V : ab_V} {tl F : Nat → Int32} (P : mP hi0 hl0 X0 hi hl X T n R KO V ts tl F) {B D : Nat} (Z : okZ B D T n R KO V ts tl) {u : Nat} (hu : u < 256) (eu : R 11 = nI u) (h15 : R 15 = 1) : lm_w (d + 30) 210 [.ref 123] (hi, hl, X) (mQ hi0 hl0 X0 (.int (lky T (awk (R 14)) (R 14) (R 10) (nI u ^^^ (-1)) (n + 1))) T n R KO V ts tl F) := by
  obtain ⟨SR, O, H, HR, HV, HT, HF, HK, E0, EL0, EX0⟩ := id P
  have S := SR.1
  obtain ⟨hT, hO, hV, hts, htl, hDB, hB0, hKO⟩ := id Z
  refine lm_w_in (Nat.le_of_ble_eq_true rfl) ?_
  show lm_wp (d + 30) 210 0 [.ref 123] [] (hi, hl, X) _
  refine w_N 1 1 [.ref 123] [.ref 123] rfl ?_
  refine w_gi (v := R 15) rfl rfl rfl (M_kd S) (HR.2.2.2.2.2.1) ?_
  refine w_if_eq_f (t := 18) rfl rfl (by rw [h15]; decide) ?_
  refine w_N 2 9 [.ref 123] [.ref 123, .ref 123] rfl ?_
  refine w_gi (v := nI u) rfl rfl rfl (M_kd S) (HR.2.1.trans eu) ?_
  refine w_cc (w_vst rfl rfl rfl (Nat.le_of_ble_eq_true rfl) (Nat.le_of_ble_eq_true rfl) (M_kd S)) (m_foundBy (d := d + 27) (u := u) S H hT HR.1 (HR.2.2.2.2.1 h15) (HR.2.2.1.trans hO.2.2.1) (hO.2.2.2.2.2 h15).2 (by omega) hO.1 (hO.2.2.2.2.2 h15).1 hO.2.2.2.1 hu) ?_
  show lm_wp _ 210 15 [.ref 123] [.int (lky T (awk (R 14)) (R 14) (R 10) (nI u ^^^ (-1)) (n + 1))] (hi, hl, X) _
  refine w_N 1 24 [.ref 123] [.int (lky T (awk (R 14)) (R 14) (R 10) (nI u ^^^ (-1)) (n + 1))] rfl ?_
  refine w_ri rfl rfl ?_
  exact mq_ P
theorem st_found {B D : Nat} {n ts : Nat} {T : lm_T} {R : Nat → Int32} {KO : ab_K} {V : ab_V} {tl F : Nat → Int32}  (Z : okZ B D T n R KO V ts tl) (hB : B + 20 < 2000000) : STEP B 118 210 [] T n R KO V ts tl F := by
  obtain ⟨hT, hO, hV, hts, htl, hDB, hB0, hKO⟩ := id Z
  obtain ⟨u, hu, eu⟩ := hO.2.1
  rcases hO.2.2.2.2.1 with h15 | h15
  · exact ⟨_, D, _, _, _, _, _, _, _, _, okZ_up Z hB, fun _ _ _ _ _ _ P hC => x_found_n (d := 10) P h15 hC, fun _ _ _ _ _ _ P => y_found_n (d := 10) P h15⟩
  · exact ⟨_, D, _, _, _, _, _, _, _, _, okZ_up Z hB, fun _ _ _ _ _ _ P hC => x_found (d := 10) P hu eu h15 hC, fun _ _ _ _ _ _ P => y_found (d := 10) P Z hu eu h15⟩
