set_option maxRecDepth 16384
/-! calls: against, pact, head -/
theorem x_against_b {d : Nat} {hi : Nat → Nat → Int32} {hl : Nat → Nat → Int64} {X : lm_X} {hi0 : Nat → Nat → Int32} {hl0 : Nat → Nat → Int64} {C n ts : Nat} {T : lm_T} {R : Nat → Int32} {KO : ab_K} {V : ab_V} {tl F : Nat → Int32} (P : cP hi0 hl0 hi hl X C T n R KO V ts tl F) {s k : Int32}  (hb : (wi s 0 7 && wi k 1 4) = false) (hC : C + 25 < 2147483648) : lm_w (d + 30) 113 [.ref 64, .int s, .int k] (hi, hl, X) (cQ hi0 hl0 X (C + 25) (.int (-1000002)) T n R KO V ts tl (rfU F (-2))) := by
  obtain ⟨S, O, H, HR, FO, HV, HT, HF, HK, E0, EL0⟩ := id P
  refine lm_w_in (Nat.le_of_ble_eq_true rfl) ?_
  show lm_wp (d + 30) 113 0 [.ref 64, .int s, .int k, lm_jk] [] (hi, hl, X) _
  refine w_N 1 1 [.ref 64, .int s, .int k, lm_jk] [.int s] rfl ?_
  refine w_cc rfl x_isShelf ?_
  show lm_wp _ 113 4 [.ref 64, .int s, .int k, lm_jk] [.int (bz (wi s 0 7))] (hi, hl, X) _
  refine w_zeq (t := 14) rfl rfl (fun c1 => ?_) (fun c1 => ?_)
  · refine w_N 2 17 [.ref 64, .int s, .int k, lm_jk] [.int (-2), .ref 64] rfl ?_
    refine w_ca (w_vst rfl rfl rfl (Nat.le_of_ble_eq_true rfl) (Nat.le_of_ble_eq_true rfl) (A_k S 64 (by decide))) (x_refuseGain P (by unfold isW; decide)) ?_
    rintro _ _ ⟨rfl, hi9, rfl, P9⟩
    show lm_wp _ 113 20 [.ref 64, .int s, .int k, lm_jk] [.int (-1000002)] (hi9, hl, X) _
    refine w_ri rfl rfl ?_
    exact cq_ P9 (by omega) hC
  · refine w_N 1 8 [.ref 64, .int s, .int k, lm_jk] [.int k] rfl ?_
    refine w_cc rfl x_isAhead ?_
    show lm_wp _ 113 11 [.ref 64, .int s, .int k, lm_jk] [.int (bz (wi k 1 4))] (hi, hl, X) _
    refine w_zne (t := 21) rfl rfl (fun c2 => ?_) (fun c2 => ?_)
    · exact absurd hb (by simp [c1, c2])
    · refine w_N 2 17 [.ref 64, .int s, .int k, lm_jk] [.int (-2), .ref 64] rfl ?_
      refine w_ca (w_vst rfl rfl rfl (Nat.le_of_ble_eq_true rfl) (Nat.le_of_ble_eq_true rfl) (A_k S 64 (by decide))) (x_refuseGain P (by unfold isW; decide)) ?_
      rintro _ _ ⟨rfl, hi9, rfl, P9⟩
      show lm_wp _ 113 20 [.ref 64, .int s, .int k, lm_jk] [.int (-1000002)] (hi9, hl, X) _
      refine w_ri rfl rfl ?_
      exact cq_ P9 (by omega) hC
theorem y_against_b {d : Nat} {hi : Nat → Nat → Int32} {hl : Nat → Nat → Int64} {X : lm_X} {hi0 : Nat → Nat → Int32} {hl0 : Nat → Nat → Int64} {X0 : lm_X} {n ts : Nat} {T : lm_T} {R : Nat → Int32} {KO : ab_K} {V : ab_V} {tl F : Nat → Int32} (P : mP hi0 hl0 X0 hi hl X T n R KO V ts tl F) {s k : Int32}  (hb : (wi s 0 7 && wi k 1 4) = false) : lm_w (d + 30) 201 [.ref 123, .int s, .int k] (hi, hl, X) (mQ hi0 hl0 X0 (.int (-1000002)) T n R KO V ts tl (rfU F (-2))) := by
  obtain ⟨SR, O, H, HR, HV, HT, HF, HK, E0, EL0, EX0⟩ := id P
  have S := SR.1
  refine lm_w_in (Nat.le_of_ble_eq_true rfl) ?_
  show lm_wp (d + 30) 201 0 [.ref 123, .int s, .int k, lm_jk] [] (hi, hl, X) _
  refine w_N 4 6 [.ref 123, .int s, .int k, lm_jk] [.long 7, .long 0, .long s.toInt64] rfl ?_
  refine w_cc rfl (m_in (x := s) (lo := 0) (up := 7) rfl (by decide) (by decide)) ?_
  show lm_wp _ 201 9 [.ref 123, .int s, .int k, lm_jk] [.int (bz (wi s 0 7))] (hi, hl, X) _
  refine w_zeq (t := 19) rfl rfl (fun c1 => ?_) (fun c1 => ?_)
  · refine w_N 3 24 [.ref 123, .int s, .int k, lm_jk] [.int (-2), .ref 123, .int (-1000000)] rfl ?_
    refine w_ca (w_vst rfl rfl rfl (Nat.le_of_ble_eq_true rfl) (Nat.le_of_ble_eq_true rfl) (M_kd S)) (m_refuse P (by unfold isW; decide)) ?_
    rintro _ _ ⟨rfl, hi9, rfl, P9⟩
    show lm_wp _ 201 27 [.ref 123, .int s, .int k, lm_jk] [.int (-2), .int (-1000000)] (hi9, hl, X) _
    refine w_N 1 28 [.ref 123, .int s, .int k, lm_jk] [.int (-1000002)] rfl ?_
    refine w_ri rfl rfl ?_
    exact mq_ P9
  · refine w_N 1 13 [.ref 123, .int s, .int k, lm_jk] [.int k] rfl ?_
    refine w_cc rfl m_areDays ?_
    show lm_wp _ 201 16 [.ref 123, .int s, .int k, lm_jk] [.int (bz (wi k 1 4))] (hi, hl, X) _
    refine w_zne (t := 29) rfl rfl (fun c2 => ?_) (fun c2 => ?_)
    · exact absurd hb (by simp [c1, c2])
    · refine w_N 3 24 [.ref 123, .int s, .int k, lm_jk] [.int (-2), .ref 123, .int (-1000000)] rfl ?_
      refine w_ca (w_vst rfl rfl rfl (Nat.le_of_ble_eq_true rfl) (Nat.le_of_ble_eq_true rfl) (M_kd S)) (m_refuse P (by unfold isW; decide)) ?_
      rintro _ _ ⟨rfl, hi9, rfl, P9⟩
      show lm_wp _ 201 27 [.ref 123, .int s, .int k, lm_jk] [.int (-2), .int (-1000000)] (hi9, hl, X) _
      refine w_N 1 28 [.ref 123, .int s, .int k, lm_jk] [.int (-1000002)] rfl ?_
      refine w_ri rfl rfl ?_
      exact mq_ P9
theorem x_against_l {d : Nat} {hi : Nat → Nat → Int32} {hl : Nat → Nat → Int64} {X : lm_X} {hi0 : Nat → Nat → Int32} {hl0 : Nat → Nat → Int64} {C n ts : Nat} {T : lm_T} {R : Nat → Int32} {KO : ab_K} {V : ab_V} {tl F : Nat → Int32} (P : cP hi0 hl0 hi hl X C T n R KO V ts tl F) {j m : Nat} (hj : j < 8) (hm1 : 1 ≤ m) (hm4 : m ≤ 4) (h0 : ¬ lkR (V j).1 (V j).1 = 0) (hC : C + 25 < 2147483648) : lm_w (d + 30) 113 [.ref 64, .int (nI j), .int (nI m)] (hi, hl, X) (cQ hi0 hl0 X (C + 25) (.int (-1000000 + lkR (V j).1 (V j).1)) T n R KO V ts tl (rfU F (lkR (V j).1 (V j).1))) := by
  obtain ⟨S, O, H, HR, FO, HV, HT, HF, HK, E0, EL0⟩ := id P
  refine lm_w_in (Nat.le_of_ble_eq_true rfl) ?_
  show lm_wp (d + 30) 113 0 [.ref 64, .int (nI j), .int (nI m), lm_jk] [] (hi, hl, X) _
  refine w_N 1 1 [.ref 64, .int (nI j), .int (nI m), lm_jk] [.int (nI j)] rfl ?_
  refine w_cc rfl (x_isShelf1 (wi_t (n := 7) (Nat.le_of_lt_succ hj) (by decide))) ?_
  show lm_wp _ 113 4 [.ref 64, .int (nI j), .int (nI m), lm_jk] [.int 1] (hi, hl, X) _
  refine w_if_eq_f (t := 14) rfl rfl (by decide) ?_
  refine w_N 1 8 [.ref 64, .int (nI j), .int (nI m), lm_jk] [.int (nI m)] rfl ?_
  refine w_cc rfl (x_isAhead1 (wi_t1 (n := 4) hm1 hm4 (by decide))) ?_
  show lm_wp _ 113 11 [.ref 64, .int (nI j), .int (nI m), lm_jk] [.int 1] (hi, hl, X) _
  refine w_if_ne_t (t := 21) rfl rfl (by decide) ?_
  refine w_N 3 24 [.ref 64, .int (nI j), .int (nI m), lm_jk] [.int (nI j), .int (nI j), .ref 64] rfl ?_
  refine w_cc (w_vst rfl rfl rfl (Nat.le_of_ble_eq_true rfl) (Nat.le_of_ble_eq_true rfl) (A_k S 64 (by decide))) (x_lackRules P hj hj) ?_
  show lm_wp _ 113 27 [.ref 64, .int (nI j), .int (nI m), lm_jk] [.int (lkR (V j).1 (V j).1)] (hi, hl, X) _
  refine w_N 2 29 [.ref 64, .int (nI j), .int (nI m), .int (lkR (V j).1 (V j).1)] [.int (lkR (V j).1 (V j).1)] rfl ?_
  refine w_if_eq_f (t := 38) rfl rfl h0 ?_
  refine w_N 2 34 [.ref 64, .int (nI j), .int (nI m), .int (lkR (V j).1 (V j).1)] [.int (lkR (V j).1 (V j).1), .ref 64] rfl ?_
  refine w_ca (w_vst rfl rfl rfl (Nat.le_of_ble_eq_true rfl) (Nat.le_of_ble_eq_true rfl) (A_k S 64 (by decide))) (x_refuseGain P (lkR_W h0)) ?_
  rintro _ _ ⟨rfl, hi9, rfl, P9⟩
  show lm_wp _ 113 37 [.ref 64, .int (nI j), .int (nI m), .int (lkR (V j).1 (V j).1)] [.int (-1000000 + (lkR (V j).1 (V j).1))] (hi9, hl, X) _
  refine w_ri rfl rfl ?_
  exact cq_ P9 (by omega) hC
theorem y_against_l {d : Nat} {hi : Nat → Nat → Int32} {hl : Nat → Nat → Int64} {X : lm_X} {hi0 : Nat → Nat → Int32} {hl0 : Nat → Nat → Int64} {X0 : lm_X} {n ts : Nat} {T : lm_T} {R : Nat → Int32} {KO : ab_K} {V : ab_V} {tl F : Nat → Int32} (P : mP hi0 hl0 X0 hi hl X T n R KO V ts tl F) {j m : Nat} (hj : j < 8) (hm1 : 1 ≤ m) (hm4 : m ≤ 4) (h0 : ¬ lkR (V j).1 (V j).1 = 0) : lm_w (d + 30) 201 [.ref 123, .int (nI j), .int (nI m)] (hi, hl, X) (mQ hi0 hl0 X0 (.int (-1000000 + lkR (V j).1 (V j).1)) T n R KO V ts tl (rfU F (lkR (V j).1 (V j).1))) := by
  obtain ⟨SR, O, H, HR, HV, HT, HF, HK, E0, EL0, EX0⟩ := id P
  have S := SR.1
  refine lm_w_in (Nat.le_of_ble_eq_true rfl) ?_
  show lm_wp (d + 30) 201 0 [.ref 123, .int (nI j), .int (nI m), lm_jk] [] (hi, hl, X) _
  refine w_N 4 6 [.ref 123, .int (nI j), .int (nI m), lm_jk] [.long 7, .long 0, .long ((nI j).toInt64)] rfl ?_
  refine w_cc rfl (lm_c_1 (m_in (x := nI j) (lo := 0) (up := 7) rfl (by decide) (by decide)) (wi_t (n := 7) (Nat.le_of_lt_succ hj) (by decide))) ?_
  show lm_wp _ 201 9 [.ref 123, .int (nI j), .int (nI m), lm_jk] [.int 1] (hi, hl, X) _
  refine w_if_eq_f (t := 19) rfl rfl (by decide) ?_
  refine w_N 1 13 [.ref 123, .int (nI j), .int (nI m), lm_jk] [.int (nI m)] rfl ?_
  refine w_cc rfl (lm_c_1 m_areDays (wi_t1 (n := 4) hm1 hm4 (by decide))) ?_
  show lm_wp _ 201 16 [.ref 123, .int (nI j), .int (nI m), lm_jk] [.int 1] (hi, hl, X) _
  refine w_if_ne_t (t := 29) rfl rfl (by decide) ?_
  refine w_N 2 31 [.ref 123, .int (nI j), .int (nI m), lm_jk] [.int (nI j), .ref 123] rfl ?_
  refine w_ca (w_vst rfl rfl rfl (Nat.le_of_ble_eq_true rfl) (Nat.le_of_ble_eq_true rfl) (M_kd S)) (m_noRule_1 P hj h0) ?_
  rintro _ _ ⟨rfl, hi9, rfl, P9⟩
  show lm_wp _ 201 34 [.ref 123, .int (nI j), .int (nI m), lm_jk] [.int (lkR (V j).1 (V j).1)] (hi9, hl, X) _
  refine w_N 2 36 [.ref 123, .int (nI j), .int (nI m), .int (lkR (V j).1 (V j).1)] [.int (lkR (V j).1 (V j).1)] rfl ?_
  refine w_if_eq_f (t := 46) rfl rfl h0 ?_
  refine w_N 4 69 [.ref 123, .int (nI j), .int (nI m), .int (lkR (V j).1 (V j).1)] [.int ((-1000000) + (lkR (V j).1 (V j).1))] rfl ?_
  refine w_ri rfl rfl ?_
  exact mq_ P9
theorem x_against {d : Nat} {hi : Nat → Nat → Int32} {hl : Nat → Nat → Int64} {X : lm_X} {hi0 : Nat → Nat → Int32} {hl0 : Nat → Nat → Int64} {C n ts : Nat} {T : lm_T} {R : Nat → Int32} {KO : ab_K} {V : ab_V} {tl F : Nat → Int32} (P : cP hi0 hl0 hi hl X C T n R KO V ts tl F) {B D : Nat} (Z : okZ B D T n R KO V ts tl) {j m : Nat} (hj : j < 8) (hm1 : 1 ≤ m) (hm4 : m ≤ 4) {k : Nat} (hk1 : 1 ≤ k) (hk6 : k ≤ 6) (ek : (V j).1 = nI (10 + k)) (hC : C + 25 < 2147483648) : lm_w (d + 30) 113 [.ref 64, .int (nI j), .int (nI m)] (hi, hl, X) (cQ hi0 hl0 X (C + 25) (.int (ags T n k (V j).2.2.1 m (R 10))) T n R KO V ts tl F) := by
  obtain ⟨S, O, H, HR, FO, HV, HT, HF, HK, E0, EL0⟩ := id P
  obtain ⟨hT, hO, hV, hts, htl, hDB, hB0, hKO⟩ := id Z
  have hu := rk_u hk1 hk6 ek
  have h0 : lkR (V j).1 (V j).1 = 0 := lkR_0.mpr ⟨hu, hu⟩
  refine lm_w_in (Nat.le_of_ble_eq_true rfl) ?_
  show lm_wp (d + 30) 113 0 [.ref 64, .int (nI j), .int (nI m), lm_jk] [] (hi, hl, X) _
  refine w_N 1 1 [.ref 64, .int (nI j), .int (nI m), lm_jk] [.int (nI j)] rfl ?_
  refine w_cc rfl (x_isShelf1 (wi_t (n := 7) (Nat.le_of_lt_succ hj) (by decide))) ?_
  show lm_wp _ 113 4 [.ref 64, .int (nI j), .int (nI m), lm_jk] [.int 1] (hi, hl, X) _
  refine w_if_eq_f (t := 14) rfl rfl (by decide) ?_
  refine w_N 1 8 [.ref 64, .int (nI j), .int (nI m), lm_jk] [.int (nI m)] rfl ?_
  refine w_cc rfl (x_isAhead1 (wi_t1 (n := 4) hm1 hm4 (by decide))) ?_
  show lm_wp _ 113 11 [.ref 64, .int (nI j), .int (nI m), lm_jk] [.int 1] (hi, hl, X) _
  refine w_if_ne_t (t := 21) rfl rfl (by decide) ?_
  refine w_N 3 24 [.ref 64, .int (nI j), .int (nI m), lm_jk] [.int (nI j), .int (nI j), .ref 64] rfl ?_
  refine w_cc (w_vst rfl rfl rfl (Nat.le_of_ble_eq_true rfl) (Nat.le_of_ble_eq_true rfl) (A_k S 64 (by decide))) (lm_c_v (x_lackRules P hj hj) h0) ?_
  show lm_wp _ 113 27 [.ref 64, .int (nI j), .int (nI m), lm_jk] [.int 0] (hi, hl, X) _
  refine w_N 2 29 [.ref 64, .int (nI j), .int (nI m), .int 0] [.int 0] rfl ?_
  refine w_if_eq_t (t := 38) rfl rfl (by decide) ?_
  refine w_N 1 39 [.ref 64, .int (nI j), .int (nI m), .int 0] [.ref 64] rfl ?_
  refine w_gr 65 rfl rfl rfl (A_k S 64 (by decide)) (A_r S 64 0 (by decide)) ?_
  refine w_N 1 43 [.ref 64, .int (nI j), .int (nI m), .int 0] [.ref 64, .ref 65] rfl ?_
  refine w_gr 103 rfl rfl rfl (A_k S 64 (by decide)) (A_r S 64 7 (by decide)) ?_
  refine w_N 1 47 [.ref 64, .int (nI j), .int (nI m), .int 0] [.ref 64, .ref 103, .ref 65] rfl ?_
  refine w_gr 97 rfl rfl rfl (A_k S 64 (by decide)) (A_r S 64 5 (by decide)) ?_
  refine w_N 1 51 [.ref 64, .int (nI j), .int (nI m), .int 0] [.int (nI j), .ref 97, .ref 103, .ref 65] rfl ?_
  refine w_aa j (107 + 2 * j) rfl ⟨by rw [A_k S 97 (by decide)]; decide, by rw [A_k S 97 (by decide)]; decide⟩ (show X.2.2.1 97 = 8 from A_l S 97 (by decide)) rfl hj (by decide) (A_sv S hj) ?_
  refine w_N 1 53 [.ref 64, .int (nI j), .int (nI m), .int 0] [.ref 64, .ref (107 + 2 * j), .ref 103, .ref 65] rfl ?_
  refine w_gr 65 rfl rfl rfl (A_k S 64 (by decide)) (A_r S 64 0 (by decide)) ?_
  refine w_gi (v := R 10) rfl rfl rfl (T_kd (A_T65 S)) (HR.1) ?_
  refine w_N 1 60 [.ref 64, .int (nI j), .int (nI m), .int 0] [.int (nI m), .int (R 10), .ref (107 + 2 * j), .ref 103, .ref 65] rfl ?_
  refine w_ca rfl (q_mostAgainst (d := d + 12) S H FO hT hO.1 (A_Sf S hj) ((HV j hj).1.trans ek) (HV j hj).2.2.1 hk1 hk6 (hV j hj).2.2 (by omega) hm4) ?_
  rintro _ _ ⟨hx1, rfl, rfl, f_hx1, FO_hx1⟩
  have P := cP_fore P (fr_mono f_hx1 (by decide)) FO_hx1
  obtain ⟨S, O, H, HR, FO, HV, HT, HF, HK, E0, EL0⟩ := id P
  show lm_wp _ 113 63 [.ref 64, .int (nI j), .int (nI m), .int 0] [.int (ags T n k (V j).2.2.1 m (R 10))] (hx1, hl, X) _
  refine w_ri rfl rfl ?_
  exact cq_ P (by omega) hC
theorem y_against {d : Nat} {hi : Nat → Nat → Int32} {hl : Nat → Nat → Int64} {X : lm_X} {hi0 : Nat → Nat → Int32} {hl0 : Nat → Nat → Int64} {X0 : lm_X} {n ts : Nat} {T : lm_T} {R : Nat → Int32} {KO : ab_K} {V : ab_V} {tl F : Nat → Int32} (P : mP hi0 hl0 X0 hi hl X T n R KO V ts tl F) {B D : Nat} (Z : okZ B D T n R KO V ts tl) {j m : Nat} (hj : j < 8) (hm1 : 1 ≤ m) (hm4 : m ≤ 4) {k : Nat} (hk1 : 1 ≤ k) (hk6 : k ≤ 6) (ek : (V j).1 = nI (10 + k)) : lm_w (d + 30) 201 [.ref 123, .int (nI j), .int (nI m)] (hi, hl, X) (mQ hi0 hl0 X0 (.int (ags T n k (V j).2.2.1 m (R 10))) T n R KO V ts tl F) := by
  obtain ⟨SR, O, H, HR, HV, HT, HF, HK, E0, EL0, EX0⟩ := id P
  have S := SR.1
  obtain ⟨hT, hO, hV, hts, htl, hDB, hB0, hKO⟩ := id Z
  have hu := rk_u hk1 hk6 ek
  have h0 : lkR (V j).1 (V j).1 = 0 := lkR_0.mpr ⟨hu, hu⟩
  refine lm_w_in (Nat.le_of_ble_eq_true rfl) ?_
  show lm_wp (d + 30) 201 0 [.ref 123, .int (nI j), .int (nI m), lm_jk] [] (hi, hl, X) _
  refine w_N 4 6 [.ref 123, .int (nI j), .int (nI m), lm_jk] [.long 7, .long 0, .long ((nI j).toInt64)] rfl ?_
  refine w_cc rfl (lm_c_1 (m_in (x := nI j) (lo := 0) (up := 7) rfl (by decide) (by decide)) (wi_t (n := 7) (Nat.le_of_lt_succ hj) (by decide))) ?_
  show lm_wp _ 201 9 [.ref 123, .int (nI j), .int (nI m), lm_jk] [.int 1] (hi, hl, X) _
  refine w_if_eq_f (t := 19) rfl rfl (by decide) ?_
  refine w_N 1 13 [.ref 123, .int (nI j), .int (nI m), lm_jk] [.int (nI m)] rfl ?_
  refine w_cc rfl (lm_c_1 m_areDays (wi_t1 (n := 4) hm1 hm4 (by decide))) ?_
  show lm_wp _ 201 16 [.ref 123, .int (nI j), .int (nI m), lm_jk] [.int 1] (hi, hl, X) _
  refine w_if_ne_t (t := 29) rfl rfl (by decide) ?_
  refine w_N 2 31 [.ref 123, .int (nI j), .int (nI m), lm_jk] [.int (nI j), .ref 123] rfl ?_
  refine w_cc (w_vst rfl rfl rfl (Nat.le_of_ble_eq_true rfl) (Nat.le_of_ble_eq_true rfl) (M_kd S)) (m_noRule_0 P hj h0) ?_
  show lm_wp _ 201 34 [.ref 123, .int (nI j), .int (nI m), lm_jk] [.int 0] (hi, hl, X) _
  refine w_N 2 36 [.ref 123, .int (nI j), .int (nI m), .int 0] [.int 0] rfl ?_
  refine w_if_eq_t (t := 46) rfl rfl (by decide) ?_
  refine w_N 2 48 [.ref 123, .int (nI j), .int (nI m), .int 0] [.ref 123, .ref 123] rfl ?_
  refine w_gr 137 rfl rfl rfl (M_kd S) (M_r S (k := 5) (o := 14) rfl) ?_
  refine w_N 1 52 [.ref 123, .int (nI j), .int (nI m), .int 0] [.int (nI j), .ref 137, .ref 123] rfl ?_
  refine w_ia j (v := nI k) rfl (show X.2.1 (137) = 1 from M_k S 14 (by decide)) (show X.2.2.1 (137) = 8 from M_l S 14 (by decide)) rfl hj (by decide) (((HV j hj).2.2.2.1 (rk_u hk1 hk6 ek)).trans (rk_e ek)) ?_
  refine w_N 1 54 [.ref 123, .int (nI j), .int (nI m), .int 0] [.ref 123, .int (nI k), .ref 123] rfl ?_
  refine w_gr 138 rfl rfl rfl (M_kd S) (M_r S (k := 6) (o := 15) rfl) ?_
  refine w_N 1 58 [.ref 123, .int (nI j), .int (nI m), .int 0] [.int (nI j), .ref 138, .int (nI k), .ref 123] rfl ?_
  refine w_ia j (v := nI (V j).2.2.1) rfl (show X.2.1 (138) = 1 from M_k S 15 (by decide)) (show X.2.2.1 (138) = 8 from M_l S 15 (by decide)) rfl hj (by decide) ((HV j hj).2.2.2.2.1) ?_
  refine w_N 2 61 [.ref 123, .int (nI j), .int (nI m), .int 0] [.ref 123, .int (nI m), .int (nI (V j).2.2.1), .int (nI k), .ref 123] rfl ?_
  refine w_gi (v := nI D) rfl rfl rfl (M_kd S) (HR.2.2.1.trans hO.2.2.1) ?_
  refine w_N 1 65 [.ref 123, .int (nI j), .int (nI m), .int 0] [.int 2, .int (nI D), .int (nI m), .int (nI (V j).2.2.1), .int (nI k), .ref 123] rfl ?_
  refine w_rem rfl (by decide) ?_
  rw [hrem (s := R 10) hO.2.2.2.1 (by omega)]
  refine w_ca (w_vst rfl rfl rfl (Nat.le_of_ble_eq_true rfl) (Nat.le_of_ble_eq_true rfl) (M_kd S)) (m_mostAgainst (d := d + 17) (kd := k) (a := (V j).2.2.1) (k := m) (hf := 0) S H HR.1 hT (HR.2.2.1.trans hO.2.2.1) hO.2.2.2.1 (by omega) hm1 hm4 hk1 hk6 (hV j hj).2.2 rfl rfl rfl rfl) ?_
  rintro _ _ ⟨hx2, rfl, rfl, f_hx2⟩
  have P := mP_scr P f_hx2
  obtain ⟨SR, O, H, HR, HV, HT, HF, HK, E0, EL0, EX0⟩ := id P
  have S := SR.1
  show lm_wp _ 201 69 [.ref 123, .int (nI j), .int (nI m), .int 0] [.int (ags T n k (V j).2.2.1 m (R 10))] (hx2, hl, X) _
  refine w_ri rfl rfl ?_
  exact mq_ P
theorem st_against {B D : Nat} {n ts : Nat} {T : lm_T} {R : Nat → Int32} {KO : ab_K} {V : ab_V} {tl F : Nat → Int32} {s k : Int32} (Z : okZ B D T n R KO V ts tl) (hB : B + 20 < 2000000) : STEP B 113 201 [.int s, .int k] T n R KO V ts tl F := by
  obtain ⟨hT, hO, hV, hts, htl, hDB, hB0, hKO⟩ := id Z
  by_cases hb : (wi s 0 7 && wi k 1 4) = false
  · exact ⟨_, D, _, _, _, _, _, _, _, _, okZ_up Z hB, fun _ _ _ _ _ _ P hC => x_against_b (d := 10) P hb hC, fun _ _ _ _ _ _ P => y_against_b (d := 10) P hb⟩
  · obtain ⟨h1, h2⟩ := and2_t hb
    obtain ⟨j, rfl, hj⟩ := wi_e (n := 7) h1 (by decide)
    obtain ⟨m, rfl, hm1, hm4⟩ := wi_e1 (n := 4) h2 (by decide)
    by_cases h0 : lkR (V j).1 (V j).1 = 0
    · obtain ⟨k, k1, k6, ek⟩ := (okC_rule (hV j (by omega)).1).mp (lkR_0.mp h0).1
      exact ⟨_, D, _, _, _, _, _, _, _, _, okZ_up Z hB, fun _ _ _ _ _ _ P hC => x_against (d := 10) P Z (by omega) hm1 hm4 k1 k6 ek hC, fun _ _ _ _ _ _ P => y_against (d := 10) P Z (by omega) hm1 hm4 k1 k6 ek⟩
    · exact ⟨_, D, _, _, _, _, _, _, _, _, okZ_up Z hB, fun _ _ _ _ _ _ P hC => x_against_l (d := 10) P (by omega) hm1 hm4 h0 hC, fun _ _ _ _ _ _ P => y_against_l (d := 10) P (by omega) hm1 hm4 h0⟩
theorem y_gb0 {d : Nat} {hi : Nat → Nat → Int32} {hl : Nat → Nat → Int64} {X : lm_X} {hi0 : Nat → Nat → Int32} {hl0 : Nat → Nat → Int64} {X0 : lm_X} {n ts : Nat} {T : lm_T} {R : Nat → Int32} {KO : ab_K} {V : ab_V} {tl F : Nat → Int32} (P : mP hi0 hl0 X0 hi hl X T n R KO V ts tl F) {B D : Nat} (Z : okZ B D T n R KO V ts tl) {j k N : Nat} {K A : Nat → Nat} (hj : j < 8) (hk : k < 8) (hN : N ≤ 60) (hK : ∀ h, h < 2 → 1 ≤ K h ∧ K h ≤ 6 ∧ A h ≤ 99) (e0 : (V j).1 = nI (10 + K 0)) (a0 : (V j).2.2.1 = A 0) (e1 : (V k).1 = nI (10 + K 1)) (a1 : (V k).2.2.1 = A 1) (hz : awk (R 10) = 0) : lm_w (d + 20) 189 [.ref 123, .int (nI j), .int (nI k), .int (nI N)] (hi, hl, X) (mQ hi0 hl0 X0 (.int (rnR T n K A (zrR R) N 20)) T n R KO V ts tl F) := by
  obtain ⟨SR, O, H, HR, HV, HT, HF, HK, E0, EL0, EX0⟩ := id P
  have S := SR.1
  obtain ⟨hT, hO, hV, hts, htl, hDB, hB0, hKO⟩ := id Z
  refine lm_w_in (Nat.le_of_ble_eq_true rfl) ?_
  show lm_wp (d + 20) 189 0 [.ref 123, .int (nI j), .int (nI k), .int (nI N), lm_jk, lm_jk] [] (hi, hl, X) _
  refine w_N 1 1 [.ref 123, .int (nI j), .int (nI k), .int (nI N), lm_jk, lm_jk] [.ref 123] rfl ?_
  refine w_gi (v := nI D) rfl rfl rfl (M_kd S) (HR.2.2.1.trans hO.2.2.1) ?_
  refine w_N 1 5 [.ref 123, .int (nI j), .int (nI k), .int (nI N), lm_jk, lm_jk] [.int 2, .int (nI D)] rfl ?_
  refine w_rem rfl (by decide) ?_
  rw [show nI D - nI D / 2 * 2 = 0 from (rem2 (by omega)).trans (congrArg nI (hO.2.2.2.1.symm.trans hz))]
  refine w_if_ne_f (t := 13) rfl rfl (by decide) ?_
  refine w_N 4 17 [.ref 123, .int (nI j), .int (nI k), .int (nI N), .int (nI j), lm_jk] [.ref 123] rfl ?_
  refine w_gi (v := nI D) rfl rfl rfl (M_kd S) (HR.2.2.1.trans hO.2.2.1) ?_
  refine w_N 1 21 [.ref 123, .int (nI j), .int (nI k), .int (nI N), .int (nI j), lm_jk] [.int 2, .int (nI D)] rfl ?_
  refine w_rem rfl (by decide) ?_
  rw [show nI D - nI D / 2 * 2 = 0 from (rem2 (by omega)).trans (congrArg nI (hO.2.2.2.1.symm.trans hz))]
  refine w_if_ne_f (t := 29) rfl rfl (by decide) ?_
  refine w_N 4 33 [.ref 123, .int (nI j), .int (nI k), .int (nI N), .int (nI j), .int (nI k)] [.ref 123] rfl ?_
  refine w_ca (w_vst rfl rfl rfl (Nat.le_of_ble_eq_true rfl) (Nat.le_of_ble_eq_true rfl) (M_kd S)) (m_fresh (d := d + 17) SR H HR hO.2.2.2.2.1) ?_
  rintro _ _ ⟨h5x, hl5, X5, rfl, rfl, S5, S7, n23, SR5, H7, R7, f7, fl7, fx7⟩
  have P := mP_new P f7 fl7 fx7 SR5
  obtain ⟨SR, O, H, HR, HV, HT, HF, HK, E0, EL0, EX0⟩ := id P
  have S := SR.1
  show lm_wp _ 189 36 [.ref 123, .int (nI j), .int (nI k), .int (nI N), .int (nI j), .int (nI k)] [.ref 700] (h5x, hl5, X5) _
  refine w_N 1 37 [.ref 123, .int (nI j), .int (nI k), .int (nI N), .int (nI j), .int (nI k)] [.ref 123, .ref 700] rfl ?_
  refine w_gr 137 rfl rfl rfl (M_kd S) (M_r S (k := 5) (o := 14) rfl) ?_
  refine w_N 1 42 [.ref 123, .int (nI j), .int (nI k), .int (nI N), .int (nI j), .int (nI k)] [.int (nI j), .ref 137, .ref 700] rfl ?_
  refine w_ia j (v := nI (K 0)) rfl (show X5.2.1 (137) = 1 from M_k S 14 (by decide)) (show X5.2.2.1 (137) = 8 from M_l S 14 (by decide)) rfl hj (by decide) (((HV j hj).2.2.2.1 (rk_u (hK 0 (by decide)).1 (hK 0 (by decide)).2.1 e0)).trans (rk_e e0)) ?_
  refine w_N 1 44 [.ref 123, .int (nI j), .int (nI k), .int (nI N), .int (nI j), .int (nI k)] [.ref 123, .int (nI (K 0)), .ref 700] rfl ?_
  refine w_gr 138 rfl rfl rfl (M_kd S) (M_r S (k := 6) (o := 15) rfl) ?_
  refine w_N 1 49 [.ref 123, .int (nI j), .int (nI k), .int (nI N), .int (nI j), .int (nI k)] [.int (nI j), .ref 138, .int (nI (K 0)), .ref 700] rfl ?_
  refine w_ia j (v := nI (A 0)) rfl (show X5.2.1 (138) = 1 from M_k S 15 (by decide)) (show X5.2.2.1 (138) = 8 from M_l S 15 (by decide)) rfl hj (by decide) ((HV j hj).2.2.2.2.1.trans (congrArg nI a0)) ?_
  refine w_N 1 51 [.ref 123, .int (nI j), .int (nI k), .int (nI N), .int (nI j), .int (nI k)] [.ref 123, .int (nI (A 0)), .int (nI (K 0)), .ref 700] rfl ?_
  refine w_gr 137 rfl rfl rfl (M_kd S) (M_r S (k := 5) (o := 14) rfl) ?_
  refine w_N 1 56 [.ref 123, .int (nI j), .int (nI k), .int (nI N), .int (nI j), .int (nI k)] [.int (nI k), .ref 137, .int (nI (A 0)), .int (nI (K 0)), .ref 700] rfl ?_
  refine w_ia k (v := nI (K 1)) rfl (show X5.2.1 (137) = 1 from M_k S 14 (by decide)) (show X5.2.2.1 (137) = 8 from M_l S 14 (by decide)) rfl hk (by decide) (((HV k hk).2.2.2.1 (rk_u (hK 1 (by decide)).1 (hK 1 (by decide)).2.1 e1)).trans (rk_e e1)) ?_
  refine w_N 1 58 [.ref 123, .int (nI j), .int (nI k), .int (nI N), .int (nI j), .int (nI k)] [.ref 123, .int (nI (K 1)), .int (nI (A 0)), .int (nI (K 0)), .ref 700] rfl ?_
  refine w_gr 138 rfl rfl rfl (M_kd S) (M_r S (k := 6) (o := 15) rfl) ?_
  refine w_N 1 63 [.ref 123, .int (nI j), .int (nI k), .int (nI N), .int (nI j), .int (nI k)] [.int (nI k), .ref 138, .int (nI (K 1)), .int (nI (A 0)), .int (nI (K 0)), .ref 700] rfl ?_
  refine w_ia k (v := nI (A 1)) rfl (show X5.2.1 (138) = 1 from M_k S 15 (by decide)) (show X5.2.2.1 (138) = 8 from M_l S 15 (by decide)) rfl hk (by decide) ((HV k hk).2.2.2.2.1.trans (congrArg nI a1)) ?_
  refine w_N 1 65 [.ref 123, .int (nI j), .int (nI k), .int (nI N), .int (nI j), .int (nI k)] [.int (nI N), .int (nI (A 1)), .int (nI (K 1)), .int (nI (A 0)), .int (nI (K 0)), .ref 700] rfl ?_
  refine w_ca (w_vst rfl rfl rfl (Nat.le_of_ble_eq_true rfl) (Nat.le_of_ble_eq_true rfl) (M_kd S7)) (m_runs (d := d + 11) (K := K) (A := A) S7 hT (okR_zr hO) (by omega) (by omega) hK H7 R7) ?_
  rintro _ _ ⟨h6x, rfl, rfl, H8, R8, Q8, B8, L8⟩
  have P := mP_tried P (fun a ha => Q8.1 a (by omega))
  obtain ⟨SR, O, H, HR, HV, HT, HF, HK, E0, EL0, EX0⟩ := id P
  have S := SR.1
  show lm_wp _ 189 68 [.ref 123, .int (nI j), .int (nI k), .int (nI N), .int (nI j), .int (nI k)] [] (h6x, hl5, X5) _
  refine w_N 1 69 [.ref 123, .int (nI j), .int (nI k), .int (nI N), .int (nI j), .int (nI k)] [.ref 123] rfl ?_
  refine w_gr 700 rfl rfl rfl (M_kd S) n23 ?_
  refine w_gr 733 rfl rfl rfl (M_kd S7) (M_r S7 (k := 17) (o := 33) rfl) ?_
  refine w_N 1 76 [.ref 123, .int (nI j), .int (nI k), .int (nI N), .int (nI j), .int (nI k)] [.ref 123, .ref 733] rfl ?_
  refine w_gi (v := nI D) rfl rfl rfl (M_kd S) (HR.2.2.1.trans hO.2.2.1) ?_
  refine w_N 1 80 [.ref 123, .int (nI j), .int (nI k), .int (nI N), .int (nI j), .int (nI k)] [.int 2, .int (nI D), .ref 733] rfl ?_
  refine w_rem rfl (by decide) ?_
  rw [show nI D - nI D / 2 * 2 = 0 from (rem2 (by omega)).trans (congrArg nI (hO.2.2.2.1.symm.trans hz))]
  refine w_ia 0 (v := rnR T n K A (zrR R) N 20) rfl (show X5.2.1 (733) = 1 from M_k S7 33 (by decide)) (show X5.2.2.1 (733) = 2 from M_l S7 33 (by decide)) rfl (by decide) (by decide) (R8.2.2.2.2.2.2.1) ?_
  refine w_ri rfl rfl ?_
  exact mq_ P
theorem y_gb1 {d : Nat} {hi : Nat → Nat → Int32} {hl : Nat → Nat → Int64} {X : lm_X} {hi0 : Nat → Nat → Int32} {hl0 : Nat → Nat → Int64} {X0 : lm_X} {n ts : Nat} {T : lm_T} {R : Nat → Int32} {KO : ab_K} {V : ab_V} {tl F : Nat → Int32} (P : mP hi0 hl0 X0 hi hl X T n R KO V ts tl F) {B D : Nat} (Z : okZ B D T n R KO V ts tl) {j k N : Nat} {K A : Nat → Nat} (hj : j < 8) (hk : k < 8) (hN : N ≤ 60) (hK : ∀ h, h < 2 → 1 ≤ K h ∧ K h ≤ 6 ∧ A h ≤ 99) (e0 : (V k).1 = nI (10 + K 0)) (a0 : (V k).2.2.1 = A 0) (e1 : (V j).1 = nI (10 + K 1)) (a1 : (V j).2.2.1 = A 1) (hz : awk (R 10) = 1) : lm_w (d + 20) 189 [.ref 123, .int (nI j), .int (nI k), .int (nI N)] (hi, hl, X) (mQ hi0 hl0 X0 (.int (rnR T n K A (zrR R) N 21)) T n R KO V ts tl F) := by
  obtain ⟨SR, O, H, HR, HV, HT, HF, HK, E0, EL0, EX0⟩ := id P
  have S := SR.1
  obtain ⟨hT, hO, hV, hts, htl, hDB, hB0, hKO⟩ := id Z
  refine lm_w_in (Nat.le_of_ble_eq_true rfl) ?_
  show lm_wp (d + 20) 189 0 [.ref 123, .int (nI j), .int (nI k), .int (nI N), lm_jk, lm_jk] [] (hi, hl, X) _
  refine w_N 1 1 [.ref 123, .int (nI j), .int (nI k), .int (nI N), lm_jk, lm_jk] [.ref 123] rfl ?_
  refine w_gi (v := nI D) rfl rfl rfl (M_kd S) (HR.2.2.1.trans hO.2.2.1) ?_
  refine w_N 1 5 [.ref 123, .int (nI j), .int (nI k), .int (nI N), lm_jk, lm_jk] [.int 2, .int (nI D)] rfl ?_
  refine w_rem rfl (by decide) ?_
  rw [show nI D - nI D / 2 * 2 = 1 from (rem2 (by omega)).trans (congrArg nI (hO.2.2.2.1.symm.trans hz))]
  refine w_if_ne_t (t := 13) rfl rfl (by decide) ?_
  refine w_N 3 17 [.ref 123, .int (nI j), .int (nI k), .int (nI N), .int (nI k), lm_jk] [.ref 123] rfl ?_
  refine w_gi (v := nI D) rfl rfl rfl (M_kd S) (HR.2.2.1.trans hO.2.2.1) ?_
  refine w_N 1 21 [.ref 123, .int (nI j), .int (nI k), .int (nI N), .int (nI k), lm_jk] [.int 2, .int (nI D)] rfl ?_
  refine w_rem rfl (by decide) ?_
  rw [show nI D - nI D / 2 * 2 = 1 from (rem2 (by omega)).trans (congrArg nI (hO.2.2.2.1.symm.trans hz))]
  refine w_if_ne_t (t := 29) rfl rfl (by decide) ?_
  refine w_N 3 33 [.ref 123, .int (nI j), .int (nI k), .int (nI N), .int (nI k), .int (nI j)] [.ref 123] rfl ?_
  refine w_ca (w_vst rfl rfl rfl (Nat.le_of_ble_eq_true rfl) (Nat.le_of_ble_eq_true rfl) (M_kd S)) (m_fresh (d := d + 17) SR H HR hO.2.2.2.2.1) ?_
  rintro _ _ ⟨h5x, hl5, X5, rfl, rfl, S5, S7, n23, SR5, H7, R7, f7, fl7, fx7⟩
  have P := mP_new P f7 fl7 fx7 SR5
  obtain ⟨SR, O, H, HR, HV, HT, HF, HK, E0, EL0, EX0⟩ := id P
  have S := SR.1
  show lm_wp _ 189 36 [.ref 123, .int (nI j), .int (nI k), .int (nI N), .int (nI k), .int (nI j)] [.ref 700] (h5x, hl5, X5) _
  refine w_N 1 37 [.ref 123, .int (nI j), .int (nI k), .int (nI N), .int (nI k), .int (nI j)] [.ref 123, .ref 700] rfl ?_
  refine w_gr 137 rfl rfl rfl (M_kd S) (M_r S (k := 5) (o := 14) rfl) ?_
  refine w_N 1 42 [.ref 123, .int (nI j), .int (nI k), .int (nI N), .int (nI k), .int (nI j)] [.int (nI k), .ref 137, .ref 700] rfl ?_
  refine w_ia k (v := nI (K 0)) rfl (show X5.2.1 (137) = 1 from M_k S 14 (by decide)) (show X5.2.2.1 (137) = 8 from M_l S 14 (by decide)) rfl hk (by decide) (((HV k hk).2.2.2.1 (rk_u (hK 0 (by decide)).1 (hK 0 (by decide)).2.1 e0)).trans (rk_e e0)) ?_
  refine w_N 1 44 [.ref 123, .int (nI j), .int (nI k), .int (nI N), .int (nI k), .int (nI j)] [.ref 123, .int (nI (K 0)), .ref 700] rfl ?_
  refine w_gr 138 rfl rfl rfl (M_kd S) (M_r S (k := 6) (o := 15) rfl) ?_
  refine w_N 1 49 [.ref 123, .int (nI j), .int (nI k), .int (nI N), .int (nI k), .int (nI j)] [.int (nI k), .ref 138, .int (nI (K 0)), .ref 700] rfl ?_
  refine w_ia k (v := nI (A 0)) rfl (show X5.2.1 (138) = 1 from M_k S 15 (by decide)) (show X5.2.2.1 (138) = 8 from M_l S 15 (by decide)) rfl hk (by decide) ((HV k hk).2.2.2.2.1.trans (congrArg nI a0)) ?_
  refine w_N 1 51 [.ref 123, .int (nI j), .int (nI k), .int (nI N), .int (nI k), .int (nI j)] [.ref 123, .int (nI (A 0)), .int (nI (K 0)), .ref 700] rfl ?_
  refine w_gr 137 rfl rfl rfl (M_kd S) (M_r S (k := 5) (o := 14) rfl) ?_
  refine w_N 1 56 [.ref 123, .int (nI j), .int (nI k), .int (nI N), .int (nI k), .int (nI j)] [.int (nI j), .ref 137, .int (nI (A 0)), .int (nI (K 0)), .ref 700] rfl ?_
  refine w_ia j (v := nI (K 1)) rfl (show X5.2.1 (137) = 1 from M_k S 14 (by decide)) (show X5.2.2.1 (137) = 8 from M_l S 14 (by decide)) rfl hj (by decide) (((HV j hj).2.2.2.1 (rk_u (hK 1 (by decide)).1 (hK 1 (by decide)).2.1 e1)).trans (rk_e e1)) ?_
  refine w_N 1 58 [.ref 123, .int (nI j), .int (nI k), .int (nI N), .int (nI k), .int (nI j)] [.ref 123, .int (nI (K 1)), .int (nI (A 0)), .int (nI (K 0)), .ref 700] rfl ?_
  refine w_gr 138 rfl rfl rfl (M_kd S) (M_r S (k := 6) (o := 15) rfl) ?_
  refine w_N 1 63 [.ref 123, .int (nI j), .int (nI k), .int (nI N), .int (nI k), .int (nI j)] [.int (nI j), .ref 138, .int (nI (K 1)), .int (nI (A 0)), .int (nI (K 0)), .ref 700] rfl ?_
  refine w_ia j (v := nI (A 1)) rfl (show X5.2.1 (138) = 1 from M_k S 15 (by decide)) (show X5.2.2.1 (138) = 8 from M_l S 15 (by decide)) rfl hj (by decide) ((HV j hj).2.2.2.2.1.trans (congrArg nI a1)) ?_
  refine w_N 1 65 [.ref 123, .int (nI j), .int (nI k), .int (nI N), .int (nI k), .int (nI j)] [.int (nI N), .int (nI (A 1)), .int (nI (K 1)), .int (nI (A 0)), .int (nI (K 0)), .ref 700] rfl ?_
  refine w_ca (w_vst rfl rfl rfl (Nat.le_of_ble_eq_true rfl) (Nat.le_of_ble_eq_true rfl) (M_kd S7)) (m_runs (d := d + 11) (K := K) (A := A) S7 hT (okR_zr hO) (by omega) (by omega) hK H7 R7) ?_
  rintro _ _ ⟨h6x, rfl, rfl, H8, R8, Q8, B8, L8⟩
  have P := mP_tried P (fun a ha => Q8.1 a (by omega))
  obtain ⟨SR, O, H, HR, HV, HT, HF, HK, E0, EL0, EX0⟩ := id P
  have S := SR.1
  show lm_wp _ 189 68 [.ref 123, .int (nI j), .int (nI k), .int (nI N), .int (nI k), .int (nI j)] [] (h6x, hl5, X5) _
  refine w_N 1 69 [.ref 123, .int (nI j), .int (nI k), .int (nI N), .int (nI k), .int (nI j)] [.ref 123] rfl ?_
  refine w_gr 700 rfl rfl rfl (M_kd S) n23 ?_
  refine w_gr 733 rfl rfl rfl (M_kd S7) (M_r S7 (k := 17) (o := 33) rfl) ?_
  refine w_N 1 76 [.ref 123, .int (nI j), .int (nI k), .int (nI N), .int (nI k), .int (nI j)] [.ref 123, .ref 733] rfl ?_
  refine w_gi (v := nI D) rfl rfl rfl (M_kd S) (HR.2.2.1.trans hO.2.2.1) ?_
  refine w_N 1 80 [.ref 123, .int (nI j), .int (nI k), .int (nI N), .int (nI k), .int (nI j)] [.int 2, .int (nI D), .ref 733] rfl ?_
  refine w_rem rfl (by decide) ?_
  rw [show nI D - nI D / 2 * 2 = 1 from (rem2 (by omega)).trans (congrArg nI (hO.2.2.2.1.symm.trans hz))]
  refine w_ia 1 (v := rnR T n K A (zrR R) N 21) rfl (show X5.2.1 (733) = 1 from M_k S7 33 (by decide)) (show X5.2.2.1 (733) = 2 from M_l S7 33 (by decide)) rfl (by decide) (by decide) (R8.2.2.2.2.2.2.2) ?_
  refine w_ri rfl rfl ?_
  exact mq_ P
theorem y_gb {d : Nat} {hi : Nat → Nat → Int32} {hl : Nat → Nat → Int64} {X : lm_X} {hi0 : Nat → Nat → Int32} {hl0 : Nat → Nat → Int64} {X0 : lm_X} {n ts : Nat} {T : lm_T} {R : Nat → Int32} {KO : ab_K} {V : ab_V} {tl F : Nat → Int32} (P : mP hi0 hl0 X0 hi hl X T n R KO V ts tl F) {B D : Nat} (Z : okZ B D T n R KO V ts tl) {j k N : Nat} {K A : Nat → Nat} (hj : j < 8) (hk : k < 8) (hN : N ≤ 60) (hK : ∀ h, h < 2 → 1 ≤ K h ∧ K h ≤ 6 ∧ A h ≤ 99) (e0 : (V j).1 = nI (10 + K (awk (R 10)))) (a0 : (V j).2.2.1 = A (awk (R 10))) (e1 : (V k).1 = nI (10 + K (1 - awk (R 10)))) (a1 : (V k).2.2.1 = A (1 - awk (R 10))) : lm_w (d + 20) 189 [.ref 123, .int (nI j), .int (nI k), .int (nI N)] (hi, hl, X) (mQ hi0 hl0 X0 (.int (rnR T n K A (zrR R) N (20 + awk (R 10)))) T n R KO V ts tl F) := by
  have h := awk_lt (R 10)
  rcases (by omega : awk (R 10) = 0 ∨ awk (R 10) = 1) with h | h
  · rw [h] at e0 a0 e1 a1
    rw [h]
    exact y_gb0 P Z hj hk hN hK e0 a0 e1 a1 h
  · rw [h] at e0 a0 e1 a1
    rw [h]
    exact y_gb1 P Z hj hk hN hK e1 a1 e0 a0 h
theorem y_gbE {d : Nat} {hi : Nat → Nat → Int32} {hl : Nat → Nat → Int64} {X : lm_X} {x : Int32} {j : Nat} (hx : x = nI j) {hi0 : Nat → Nat → Int32} {hl0 : Nat → Nat → Int64} {X0 : lm_X} {n ts : Nat} {T : lm_T} {R : Nat → Int32} {KO : ab_K} {V : ab_V} {tl F : Nat → Int32} (P : mP hi0 hl0 X0 hi hl X T n R KO V ts tl F) {B D : Nat} (Z : okZ B D T n R KO V ts tl) {k N : Nat} {K A : Nat → Nat} (hj : j < 8) (hk : k < 8) (hN : N ≤ 60) (hK : ∀ h, h < 2 → 1 ≤ K h ∧ K h ≤ 6 ∧ A h ≤ 99) (e0 : (V j).1 = nI (10 + K (awk (R 10)))) (a0 : (V j).2.2.1 = A (awk (R 10))) (e1 : (V k).1 = nI (10 + K (1 - awk (R 10)))) (a1 : (V k).2.2.1 = A (1 - awk (R 10))) : lm_w (d + 20) 189 [.ref 123, .int x, .int (nI k), .int (nI N)] (hi, hl, X) (mQ hi0 hl0 X0 (.int (rnR T n K A (zrR R) N (20 + awk (R 10)))) T n R KO V ts tl F) := by
  subst hx
  exact y_gb P Z hj hk hN hK e0 a0 e1 a1
theorem x_pact_b {d : Nat} {hi : Nat → Nat → Int32} {hl : Nat → Nat → Int64} {X : lm_X} {hi0 : Nat → Nat → Int32} {hl0 : Nat → Nat → Int64} {C n ts : Nat} {T : lm_T} {R : Nat → Int32} {KO : ab_K} {V : ab_V} {tl F : Nat → Int32} (P : cP hi0 hl0 hi hl X C T n R KO V ts tl F) {s t k : Int32}  (hb : (wi s 0 7 && wi t 0 7 && wi k 1 4) = false) (hC : C + 25 < 2147483648) : lm_w (d + 30) 124 [.ref 64, .int s, .int t, .int k] (hi, hl, X) (cQ hi0 hl0 X (C + 25) (.int (-2)) T n R KO V ts tl (rfU F (-2))) := by
  obtain ⟨S, O, H, HR, FO, HV, HT, HF, HK, E0, EL0⟩ := id P
  refine lm_w_in (Nat.le_of_ble_eq_true rfl) ?_
  show lm_wp (d + 30) 124 0 [.ref 64, .int s, .int t, .int k, lm_jk, lm_jk, lm_jk, lm_jk] [] (hi, hl, X) _
  refine w_N 1 1 [.ref 64, .int s, .int t, .int k, lm_jk, lm_jk, lm_jk, lm_jk] [.int s] rfl ?_
  refine w_cc rfl x_isShelf ?_
  show lm_wp _ 124 4 [.ref 64, .int s, .int t, .int k, lm_jk, lm_jk, lm_jk, lm_jk] [.int (bz (wi s 0 7))] (hi, hl, X) _
  refine w_zeq (t := 21) rfl rfl (fun c1 => ?_) (fun c1 => ?_)
  · refine w_N 2 24 [.ref 64, .int s, .int t, .int k, lm_jk, lm_jk, lm_jk, lm_jk] [.int (-2), .ref 64] rfl ?_
    refine w_ca (w_vst rfl rfl rfl (Nat.le_of_ble_eq_true rfl) (Nat.le_of_ble_eq_true rfl) (A_k S 64 (by decide))) (x_refuse P (by unfold isW; decide)) ?_
    rintro _ _ ⟨rfl, hi9, rfl, P9⟩
    show lm_wp _ 124 27 [.ref 64, .int s, .int t, .int k, lm_jk, lm_jk, lm_jk, lm_jk] [.int (-2)] (hi9, hl, X) _
    refine w_ri rfl rfl ?_
    exact cq_ P9 (by omega) hC
  · refine w_N 1 8 [.ref 64, .int s, .int t, .int k, lm_jk, lm_jk, lm_jk, lm_jk] [.int t] rfl ?_
    refine w_cc rfl x_isShelf ?_
    show lm_wp _ 124 11 [.ref 64, .int s, .int t, .int k, lm_jk, lm_jk, lm_jk, lm_jk] [.int (bz (wi t 0 7))] (hi, hl, X) _
    refine w_zeq (t := 21) rfl rfl (fun c2 => ?_) (fun c2 => ?_)
    · refine w_N 2 24 [.ref 64, .int s, .int t, .int k, lm_jk, lm_jk, lm_jk, lm_jk] [.int (-2), .ref 64] rfl ?_
      refine w_ca (w_vst rfl rfl rfl (Nat.le_of_ble_eq_true rfl) (Nat.le_of_ble_eq_true rfl) (A_k S 64 (by decide))) (x_refuse P (by unfold isW; decide)) ?_
      rintro _ _ ⟨rfl, hi9, rfl, P9⟩
      show lm_wp _ 124 27 [.ref 64, .int s, .int t, .int k, lm_jk, lm_jk, lm_jk, lm_jk] [.int (-2)] (hi9, hl, X) _
      refine w_ri rfl rfl ?_
      exact cq_ P9 (by omega) hC
    · refine w_N 1 15 [.ref 64, .int s, .int t, .int k, lm_jk, lm_jk, lm_jk, lm_jk] [.int k] rfl ?_
      refine w_cc rfl x_isAhead ?_
      show lm_wp _ 124 18 [.ref 64, .int s, .int t, .int k, lm_jk, lm_jk, lm_jk, lm_jk] [.int (bz (wi k 1 4))] (hi, hl, X) _
      refine w_zne (t := 28) rfl rfl (fun c3 => ?_) (fun c3 => ?_)
      · exact absurd hb (by simp [c1, c2, c3])
      · refine w_N 2 24 [.ref 64, .int s, .int t, .int k, lm_jk, lm_jk, lm_jk, lm_jk] [.int (-2), .ref 64] rfl ?_
        refine w_ca (w_vst rfl rfl rfl (Nat.le_of_ble_eq_true rfl) (Nat.le_of_ble_eq_true rfl) (A_k S 64 (by decide))) (x_refuse P (by unfold isW; decide)) ?_
        rintro _ _ ⟨rfl, hi9, rfl, P9⟩
        show lm_wp _ 124 27 [.ref 64, .int s, .int t, .int k, lm_jk, lm_jk, lm_jk, lm_jk] [.int (-2)] (hi9, hl, X) _
        refine w_ri rfl rfl ?_
        exact cq_ P9 (by omega) hC
theorem y_pact_b {d : Nat} {hi : Nat → Nat → Int32} {hl : Nat → Nat → Int64} {X : lm_X} {hi0 : Nat → Nat → Int32} {hl0 : Nat → Nat → Int64} {X0 : lm_X} {n ts : Nat} {T : lm_T} {R : Nat → Int32} {KO : ab_K} {V : ab_V} {tl F : Nat → Int32} (P : mP hi0 hl0 X0 hi hl X T n R KO V ts tl F) {s t k : Int32}  (hb : (wi s 0 7 && wi t 0 7 && wi k 1 4) = false) : lm_w (d + 30) 217 [.ref 123, .int s, .int t, .int k] (hi, hl, X) (mQ hi0 hl0 X0 (.int (-2)) T n R KO V ts tl (rfU F (-2))) := by
  obtain ⟨SR, O, H, HR, HV, HT, HF, HK, E0, EL0, EX0⟩ := id P
  have S := SR.1
  refine lm_w_in (Nat.le_of_ble_eq_true rfl) ?_
  show lm_wp (d + 30) 217 0 [.ref 123, .int s, .int t, .int k, lm_jk, lm_jk, lm_jk, lm_jk] [] (hi, hl, X) _
  refine w_N 4 6 [.ref 123, .int s, .int t, .int k, lm_jk, lm_jk, lm_jk, lm_jk] [.long 7, .long 0, .long s.toInt64] rfl ?_
  refine w_cc rfl (m_in (x := s) (lo := 0) (up := 7) rfl (by decide) (by decide)) ?_
  show lm_wp _ 217 9 [.ref 123, .int s, .int t, .int k, lm_jk, lm_jk, lm_jk, lm_jk] [.int (bz (wi s 0 7))] (hi, hl, X) _
  refine w_zeq (t := 31) rfl rfl (fun c1 => ?_) (fun c1 => ?_)
  · refine w_N 2 34 [.ref 123, .int s, .int t, .int k, lm_jk, lm_jk, lm_jk, lm_jk] [.int (-2), .ref 123] rfl ?_
    refine w_ca (w_vst rfl rfl rfl (Nat.le_of_ble_eq_true rfl) (Nat.le_of_ble_eq_true rfl) (M_kd S)) (m_refuse P (by unfold isW; decide)) ?_
    rintro _ _ ⟨rfl, hi9, rfl, P9⟩
    show lm_wp _ 217 37 [.ref 123, .int s, .int t, .int k, lm_jk, lm_jk, lm_jk, lm_jk] [.int (-2)] (hi9, hl, X) _
    refine w_ri rfl rfl ?_
    exact mq_ P9
  · refine w_N 4 18 [.ref 123, .int s, .int t, .int k, lm_jk, lm_jk, lm_jk, lm_jk] [.long 7, .long 0, .long t.toInt64] rfl ?_
    refine w_cc rfl (m_in (x := t) (lo := 0) (up := 7) rfl (by decide) (by decide)) ?_
    show lm_wp _ 217 21 [.ref 123, .int s, .int t, .int k, lm_jk, lm_jk, lm_jk, lm_jk] [.int (bz (wi t 0 7))] (hi, hl, X) _
    refine w_zeq (t := 31) rfl rfl (fun c2 => ?_) (fun c2 => ?_)
    · refine w_N 2 34 [.ref 123, .int s, .int t, .int k, lm_jk, lm_jk, lm_jk, lm_jk] [.int (-2), .ref 123] rfl ?_
      refine w_ca (w_vst rfl rfl rfl (Nat.le_of_ble_eq_true rfl) (Nat.le_of_ble_eq_true rfl) (M_kd S)) (m_refuse P (by unfold isW; decide)) ?_
      rintro _ _ ⟨rfl, hi9, rfl, P9⟩
      show lm_wp _ 217 37 [.ref 123, .int s, .int t, .int k, lm_jk, lm_jk, lm_jk, lm_jk] [.int (-2)] (hi9, hl, X) _
      refine w_ri rfl rfl ?_
      exact mq_ P9
    · refine w_N 1 25 [.ref 123, .int s, .int t, .int k, lm_jk, lm_jk, lm_jk, lm_jk] [.int k] rfl ?_
      refine w_cc rfl m_areDays ?_
      show lm_wp _ 217 28 [.ref 123, .int s, .int t, .int k, lm_jk, lm_jk, lm_jk, lm_jk] [.int (bz (wi k 1 4))] (hi, hl, X) _
      refine w_zne (t := 38) rfl rfl (fun c3 => ?_) (fun c3 => ?_)
      · exact absurd hb (by simp [c1, c2, c3])
      · refine w_N 2 34 [.ref 123, .int s, .int t, .int k, lm_jk, lm_jk, lm_jk, lm_jk] [.int (-2), .ref 123] rfl ?_
        refine w_ca (w_vst rfl rfl rfl (Nat.le_of_ble_eq_true rfl) (Nat.le_of_ble_eq_true rfl) (M_kd S)) (m_refuse P (by unfold isW; decide)) ?_
        rintro _ _ ⟨rfl, hi9, rfl, P9⟩
        show lm_wp _ 217 37 [.ref 123, .int s, .int t, .int k, lm_jk, lm_jk, lm_jk, lm_jk] [.int (-2)] (hi9, hl, X) _
        refine w_ri rfl rfl ?_
        exact mq_ P9
theorem x_pact_l {d : Nat} {hi : Nat → Nat → Int32} {hl : Nat → Nat → Int64} {X : lm_X} {hi0 : Nat → Nat → Int32} {hl0 : Nat → Nat → Int64} {C n ts : Nat} {T : lm_T} {R : Nat → Int32} {KO : ab_K} {V : ab_V} {tl F : Nat → Int32} (P : cP hi0 hl0 hi hl X C T n R KO V ts tl F) {j k m : Nat} (hj : j < 8) (hk : k < 8) (hm1 : 1 ≤ m) (hm4 : m ≤ 4) (h0 : ¬ lkR (V j).1 (V k).1 = 0) (hC : C + 25 < 2147483648) : lm_w (d + 30) 124 [.ref 64, .int (nI j), .int (nI k), .int (nI m)] (hi, hl, X) (cQ hi0 hl0 X (C + 25) (.int (lkR (V j).1 (V k).1)) T n R KO V ts tl (rfU F (lkR (V j).1 (V k).1))) := by
  obtain ⟨S, O, H, HR, FO, HV, HT, HF, HK, E0, EL0⟩ := id P
  refine lm_w_in (Nat.le_of_ble_eq_true rfl) ?_
  show lm_wp (d + 30) 124 0 [.ref 64, .int (nI j), .int (nI k), .int (nI m), lm_jk, lm_jk, lm_jk, lm_jk] [] (hi, hl, X) _
  refine w_N 1 1 [.ref 64, .int (nI j), .int (nI k), .int (nI m), lm_jk, lm_jk, lm_jk, lm_jk] [.int (nI j)] rfl ?_
  refine w_cc rfl (x_isShelf1 (wi_t (n := 7) (Nat.le_of_lt_succ hj) (by decide))) ?_
  show lm_wp _ 124 4 [.ref 64, .int (nI j), .int (nI k), .int (nI m), lm_jk, lm_jk, lm_jk, lm_jk] [.int 1] (hi, hl, X) _
  refine w_if_eq_f (t := 21) rfl rfl (by decide) ?_
  refine w_N 1 8 [.ref 64, .int (nI j), .int (nI k), .int (nI m), lm_jk, lm_jk, lm_jk, lm_jk] [.int (nI k)] rfl ?_
  refine w_cc rfl (x_isShelf1 (wi_t (n := 7) (Nat.le_of_lt_succ hk) (by decide))) ?_
  show lm_wp _ 124 11 [.ref 64, .int (nI j), .int (nI k), .int (nI m), lm_jk, lm_jk, lm_jk, lm_jk] [.int 1] (hi, hl, X) _
  refine w_if_eq_f (t := 21) rfl rfl (by decide) ?_
  refine w_N 1 15 [.ref 64, .int (nI j), .int (nI k), .int (nI m), lm_jk, lm_jk, lm_jk, lm_jk] [.int (nI m)] rfl ?_
  refine w_cc rfl (x_isAhead1 (wi_t1 (n := 4) hm1 hm4 (by decide))) ?_
  show lm_wp _ 124 18 [.ref 64, .int (nI j), .int (nI k), .int (nI m), lm_jk, lm_jk, lm_jk, lm_jk] [.int 1] (hi, hl, X) _
  refine w_if_ne_t (t := 28) rfl rfl (by decide) ?_
  refine w_N 3 31 [.ref 64, .int (nI j), .int (nI k), .int (nI m), lm_jk, lm_jk, lm_jk, lm_jk] [.int (nI k), .int (nI j), .ref 64] rfl ?_
  refine w_cc (w_vst rfl rfl rfl (Nat.le_of_ble_eq_true rfl) (Nat.le_of_ble_eq_true rfl) (A_k S 64 (by decide))) (x_lackRules P hj hk) ?_
  show lm_wp _ 124 34 [.ref 64, .int (nI j), .int (nI k), .int (nI m), lm_jk, lm_jk, lm_jk, lm_jk] [.int (lkR (V j).1 (V k).1)] (hi, hl, X) _
  refine w_N 2 38 [.ref 64, .int (nI j), .int (nI k), .int (nI m), .int (lkR (V j).1 (V k).1), lm_jk, lm_jk, lm_jk] [.int (lkR (V j).1 (V k).1)] rfl ?_
  refine w_if_eq_f (t := 48) rfl rfl h0 ?_
  refine w_N 2 44 [.ref 64, .int (nI j), .int (nI k), .int (nI m), .int (lkR (V j).1 (V k).1), lm_jk, lm_jk, lm_jk] [.int (lkR (V j).1 (V k).1), .ref 64] rfl ?_
  refine w_ca (w_vst rfl rfl rfl (Nat.le_of_ble_eq_true rfl) (Nat.le_of_ble_eq_true rfl) (A_k S 64 (by decide))) (x_refuse P (lkR_W h0)) ?_
  rintro _ _ ⟨rfl, hi9, rfl, P9⟩
  show lm_wp _ 124 47 [.ref 64, .int (nI j), .int (nI k), .int (nI m), .int (lkR (V j).1 (V k).1), lm_jk, lm_jk, lm_jk] [.int (lkR (V j).1 (V k).1)] (hi9, hl, X) _
  refine w_ri rfl rfl ?_
  exact cq_ P9 (by omega) hC
theorem y_pact_l {d : Nat} {hi : Nat → Nat → Int32} {hl : Nat → Nat → Int64} {X : lm_X} {hi0 : Nat → Nat → Int32} {hl0 : Nat → Nat → Int64} {X0 : lm_X} {n ts : Nat} {T : lm_T} {R : Nat → Int32} {KO : ab_K} {V : ab_V} {tl F : Nat → Int32} (P : mP hi0 hl0 X0 hi hl X T n R KO V ts tl F) {j k m : Nat} (hj : j < 8) (hk : k < 8) (hm1 : 1 ≤ m) (hm4 : m ≤ 4) (h0 : ¬ lkR (V j).1 (V k).1 = 0) : lm_w (d + 30) 217 [.ref 123, .int (nI j), .int (nI k), .int (nI m)] (hi, hl, X) (mQ hi0 hl0 X0 (.int (lkR (V j).1 (V k).1)) T n R KO V ts tl (rfU F (lkR (V j).1 (V k).1))) := by
  obtain ⟨SR, O, H, HR, HV, HT, HF, HK, E0, EL0, EX0⟩ := id P
  have S := SR.1
  refine lm_w_in (Nat.le_of_ble_eq_true rfl) ?_
  show lm_wp (d + 30) 217 0 [.ref 123, .int (nI j), .int (nI k), .int (nI m), lm_jk, lm_jk, lm_jk, lm_jk] [] (hi, hl, X) _
  refine w_N 4 6 [.ref 123, .int (nI j), .int (nI k), .int (nI m), lm_jk, lm_jk, lm_jk, lm_jk] [.long 7, .long 0, .long ((nI j).toInt64)] rfl ?_
  refine w_cc rfl (lm_c_1 (m_in (x := nI j) (lo := 0) (up := 7) rfl (by decide) (by decide)) (wi_t (n := 7) (Nat.le_of_lt_succ hj) (by decide))) ?_
  show lm_wp _ 217 9 [.ref 123, .int (nI j), .int (nI k), .int (nI m), lm_jk, lm_jk, lm_jk, lm_jk] [.int 1] (hi, hl, X) _
  refine w_if_eq_f (t := 31) rfl rfl (by decide) ?_
  refine w_N 4 18 [.ref 123, .int (nI j), .int (nI k), .int (nI m), lm_jk, lm_jk, lm_jk, lm_jk] [.long 7, .long 0, .long ((nI k).toInt64)] rfl ?_
  refine w_cc rfl (lm_c_1 (m_in (x := nI k) (lo := 0) (up := 7) rfl (by decide) (by decide)) (wi_t (n := 7) (Nat.le_of_lt_succ hk) (by decide))) ?_
  show lm_wp _ 217 21 [.ref 123, .int (nI j), .int (nI k), .int (nI m), lm_jk, lm_jk, lm_jk, lm_jk] [.int 1] (hi, hl, X) _
  refine w_if_eq_f (t := 31) rfl rfl (by decide) ?_
  refine w_N 1 25 [.ref 123, .int (nI j), .int (nI k), .int (nI m), lm_jk, lm_jk, lm_jk, lm_jk] [.int (nI m)] rfl ?_
  refine w_cc rfl (lm_c_1 m_areDays (wi_t1 (n := 4) hm1 hm4 (by decide))) ?_
  show lm_wp _ 217 28 [.ref 123, .int (nI j), .int (nI k), .int (nI m), lm_jk, lm_jk, lm_jk, lm_jk] [.int 1] (hi, hl, X) _
  refine w_if_ne_t (t := 38) rfl rfl (by decide) ?_
  refine w_N 3 41 [.ref 123, .int (nI j), .int (nI k), .int (nI m), lm_jk, lm_jk, lm_jk, lm_jk] [.int (nI k), .int (nI j), .ref 123] rfl ?_
  refine w_ca (w_vst rfl rfl rfl (Nat.le_of_ble_eq_true rfl) (Nat.le_of_ble_eq_true rfl) (M_kd S)) (m_noRules_1 P hj hk h0) ?_
  rintro _ _ ⟨rfl, hi9, rfl, P9⟩
  show lm_wp _ 217 44 [.ref 123, .int (nI j), .int (nI k), .int (nI m), lm_jk, lm_jk, lm_jk, lm_jk] [.int (lkR (V j).1 (V k).1)] (hi9, hl, X) _
  refine w_N 2 48 [.ref 123, .int (nI j), .int (nI k), .int (nI m), .int (lkR (V j).1 (V k).1), lm_jk, lm_jk, lm_jk] [.int (lkR (V j).1 (V k).1)] rfl ?_
  refine w_if_eq_f (t := 54) rfl rfl h0 ?_
  refine w_N 1 53 [.ref 123, .int (nI j), .int (nI k), .int (nI m), .int (lkR (V j).1 (V k).1), lm_jk, lm_jk, lm_jk] [.int (lkR (V j).1 (V k).1)] rfl ?_
  refine w_ri rfl rfl ?_
  exact mq_ P9
theorem x_pact0 {d : Nat} {hi : Nat → Nat → Int32} {hl : Nat → Nat → Int64} {X : lm_X} {hi0 : Nat → Nat → Int32} {hl0 : Nat → Nat → Int64} {C n ts : Nat} {T : lm_T} {R : Nat → Int32} {KO : ab_K} {V : ab_V} {tl F : Nat → Int32} (P : cP hi0 hl0 hi hl X C T n R KO V ts tl F) {B D : Nat} (Z : okZ B D T n R KO V ts tl) {j k m : Nat} (hj : j < 8) (hk : k < 8) (hm1 : 1 ≤ m) (hm4 : m ≤ 4) {K A : Nat → Nat} (hK : ∀ h, h < 2 → 1 ≤ K h ∧ K h ≤ 6 ∧ A h ≤ 99) (e0 : (V j).1 = nI (10 + K 0)) (a0 : (V j).2.2.1 = A 0) (e1 : (V k).1 = nI (10 + K 1)) (a1 : (V k).2.2.1 = A 1) (hz : awk (R 10) = 0) (hC : C + 25 < 2147483648) : lm_w (d + 30) 124 [.ref 64, .int (nI j), .int (nI k), .int (nI m)] (hi, hl, X) (cQ hi0 hl0 X (C + 25) (.int (bz (!decide (rnR T n K A (zrR R) m 20 < ags T n (K 1) (V k).2.2.1 m (R 10))))) T n R KO V ts tl F) := by
  obtain ⟨S, O, H, HR, FO, HV, HT, HF, HK, E0, EL0⟩ := id P
  obtain ⟨hT, hO, hV, hts, htl, hDB, hB0, hKO⟩ := id Z
  have h0 : lkR (V j).1 (V k).1 = 0 := lkR_0.mpr ⟨rk_u (hK 0 (by decide)).1 (hK 0 (by decide)).2.1 e0, rk_u (hK 1 (by decide)).1 (hK 1 (by decide)).2.1 e1⟩
  have q := rn_eq T n K A R m
  refine lm_w_in (Nat.le_of_ble_eq_true rfl) ?_
  show lm_wp (d + 30) 124 0 [.ref 64, .int (nI j), .int (nI k), .int (nI m), lm_jk, lm_jk, lm_jk, lm_jk] [] (hi, hl, X) _
  refine w_N 1 1 [.ref 64, .int (nI j), .int (nI k), .int (nI m), lm_jk, lm_jk, lm_jk, lm_jk] [.int (nI j)] rfl ?_
  refine w_cc rfl (x_isShelf1 (wi_t (n := 7) (Nat.le_of_lt_succ hj) (by decide))) ?_
  show lm_wp _ 124 4 [.ref 64, .int (nI j), .int (nI k), .int (nI m), lm_jk, lm_jk, lm_jk, lm_jk] [.int 1] (hi, hl, X) _
  refine w_if_eq_f (t := 21) rfl rfl (by decide) ?_
  refine w_N 1 8 [.ref 64, .int (nI j), .int (nI k), .int (nI m), lm_jk, lm_jk, lm_jk, lm_jk] [.int (nI k)] rfl ?_
  refine w_cc rfl (x_isShelf1 (wi_t (n := 7) (Nat.le_of_lt_succ hk) (by decide))) ?_
  show lm_wp _ 124 11 [.ref 64, .int (nI j), .int (nI k), .int (nI m), lm_jk, lm_jk, lm_jk, lm_jk] [.int 1] (hi, hl, X) _
  refine w_if_eq_f (t := 21) rfl rfl (by decide) ?_
  refine w_N 1 15 [.ref 64, .int (nI j), .int (nI k), .int (nI m), lm_jk, lm_jk, lm_jk, lm_jk] [.int (nI m)] rfl ?_
  refine w_cc rfl (x_isAhead1 (wi_t1 (n := 4) hm1 hm4 (by decide))) ?_
  show lm_wp _ 124 18 [.ref 64, .int (nI j), .int (nI k), .int (nI m), lm_jk, lm_jk, lm_jk, lm_jk] [.int 1] (hi, hl, X) _
  refine w_if_ne_t (t := 28) rfl rfl (by decide) ?_
  refine w_N 3 31 [.ref 64, .int (nI j), .int (nI k), .int (nI m), lm_jk, lm_jk, lm_jk, lm_jk] [.int (nI k), .int (nI j), .ref 64] rfl ?_
  refine w_cc (w_vst rfl rfl rfl (Nat.le_of_ble_eq_true rfl) (Nat.le_of_ble_eq_true rfl) (A_k S 64 (by decide))) (lm_c_v (x_lackRules P hj hk) h0) ?_
  show lm_wp _ 124 34 [.ref 64, .int (nI j), .int (nI k), .int (nI m), lm_jk, lm_jk, lm_jk, lm_jk] [.int 0] (hi, hl, X) _
  refine w_N 2 38 [.ref 64, .int (nI j), .int (nI k), .int (nI m), .int 0, lm_jk, lm_jk, lm_jk] [.int 0] rfl ?_
  refine w_if_eq_t (t := 48) rfl rfl (by decide) ?_
  refine w_N 1 49 [.ref 64, .int (nI j), .int (nI k), .int (nI m), .int 0, lm_jk, lm_jk, lm_jk] [.ref 64] rfl ?_
  refine w_gr 65 rfl rfl rfl (A_k S 64 (by decide)) (A_r S 64 0 (by decide)) ?_
  refine w_gi (v := R 10) rfl rfl rfl (T_kd (A_T65 S)) (HR.1) ?_
  refine w_cc rfl (c_awkz hz) ?_
  show lm_wp _ 124 58 [.ref 64, .int (nI j), .int (nI k), .int (nI m), .int 0, lm_jk, lm_jk, lm_jk] [.int 0] (hi, hl, X) _
  refine w_N 2 61 [.ref 64, .int (nI j), .int (nI k), .int (nI m), .int 0, .int 0, lm_jk, lm_jk] [.ref 64] rfl ?_
  refine w_gr 97 rfl rfl rfl (A_k S 64 (by decide)) (A_r S 64 5 (by decide)) ?_
  refine w_N 1 66 [.ref 64, .int (nI j), .int (nI k), .int (nI m), .int 0, .int 0, lm_jk, lm_jk] [.int 0, .ref 97] rfl ?_
  refine w_if_ne_f (t := 73) rfl rfl (by decide) ?_
  refine w_N 2 74 [.ref 64, .int (nI j), .int (nI k), .int (nI m), .int 0, .int 0, lm_jk, lm_jk] [.int (nI j), .ref 97] rfl ?_
  refine w_aa j (107 + 2 * j) rfl ⟨by rw [A_k S 97 (by decide)]; decide, by rw [A_k S 97 (by decide)]; decide⟩ (show X.2.2.1 97 = 8 from A_l S 97 (by decide)) rfl hj (by decide) (A_sv S hj) ?_
  refine w_N 2 78 [.ref 64, .int (nI j), .int (nI k), .int (nI m), .int 0, .int 0, .ref (107 + 2 * j), lm_jk] [.ref 64] rfl ?_
  refine w_gr 97 rfl rfl rfl (A_k S 64 (by decide)) (A_r S 64 5 (by decide)) ?_
  refine w_N 1 83 [.ref 64, .int (nI j), .int (nI k), .int (nI m), .int 0, .int 0, .ref (107 + 2 * j), lm_jk] [.int 0, .ref 97] rfl ?_
  refine w_if_ne_f (t := 90) rfl rfl (by decide) ?_
  refine w_N 2 91 [.ref 64, .int (nI j), .int (nI k), .int (nI m), .int 0, .int 0, .ref (107 + 2 * j), lm_jk] [.int (nI k), .ref 97] rfl ?_
  refine w_aa k (107 + 2 * k) rfl ⟨by rw [A_k S 97 (by decide)]; decide, by rw [A_k S 97 (by decide)]; decide⟩ (show X.2.2.1 97 = 8 from A_l S 97 (by decide)) rfl hk (by decide) (A_sv S hk) ?_
  refine w_N 2 95 [.ref 64, .int (nI j), .int (nI k), .int (nI m), .int 0, .int 0, .ref (107 + 2 * j), .ref (107 + 2 * k)] [.ref 64] rfl ?_
  refine w_gr 104 rfl rfl rfl (A_k S 64 (by decide)) (A_r S 64 8 (by decide)) ?_
  refine w_N 3 103 [.ref 64, .int (nI j), .int (nI k), .int (nI m), .int 0, .int 0, .ref (107 + 2 * j), .ref (107 + 2 * k)] [.int (nI m), .ref (107 + 2 * k), .ref (107 + 2 * j), .ref 104] rfl ?_
  refine w_ca (w_vst rfl rfl rfl (Nat.le_of_ble_eq_true rfl) (Nat.le_of_ble_eq_true rfl) (A_k S 104 (by decide))) (z_goByRules (d := d + 14) (K := K) (A := A) S hT hO.1 hz (A_Sf S hj) (A_Sf S hk) (by omega) (by omega) hK ((HV j hj).1.trans e0) ((HV j hj).2.2.1.trans (congrArg nI a0)) ((HV k hk).1.trans e1) ((HV k hk).2.2.1.trans (congrArg nI a1)) (by omega) H FO HR.1) ?_
  rintro _ _ ⟨h5x, rfl, rfl, Z5, f5, FO5⟩
  have P := cP_fore P f5 FO5
  obtain ⟨S, O, H, HR, FO, HV, HT, HF, HK, E0, EL0⟩ := id P
  show lm_wp _ 124 106 [.ref 64, .int (nI j), .int (nI k), .int (nI m), .int 0, .int 0, .ref (107 + 2 * j), .ref (107 + 2 * k)] [] (h5x, hl, X) _
  refine w_N 1 107 [.ref 64, .int (nI j), .int (nI k), .int (nI m), .int 0, .int 0, .ref (107 + 2 * j), .ref (107 + 2 * k)] [.ref 64] rfl ?_
  refine w_gr 65 rfl rfl rfl (A_k S 64 (by decide)) (A_r S 64 0 (by decide)) ?_
  refine w_N 1 111 [.ref 64, .int (nI j), .int (nI k), .int (nI m), .int 0, .int 0, .ref (107 + 2 * j), .ref (107 + 2 * k)] [.ref 64, .ref 65] rfl ?_
  refine w_gr 103 rfl rfl rfl (A_k S 64 (by decide)) (A_r S 64 7 (by decide)) ?_
  refine w_N 2 117 [.ref 64, .int (nI j), .int (nI k), .int (nI m), .int 0, .int 0, .ref (107 + 2 * j), .ref (107 + 2 * k)] [.ref 64, .ref (107 + 2 * k), .ref 103, .ref 65] rfl ?_
  refine w_gr 65 rfl rfl rfl (A_k S 64 (by decide)) (A_r S 64 0 (by decide)) ?_
  refine w_gi (v := R 10) rfl rfl rfl (T_kd (A_T65 S)) (HR.1) ?_
  refine w_N 1 124 [.ref 64, .int (nI j), .int (nI k), .int (nI m), .int 0, .int 0, .ref (107 + 2 * j), .ref (107 + 2 * k)] [.int (nI m), .int (R 10), .ref (107 + 2 * k), .ref 103, .ref 65] rfl ?_
  refine w_ca rfl (q_mostAgainst (d := d + 12) S H FO hT hO.1 (A_Sf S hk) ((HV k hk).1.trans e1) (HV k hk).2.2.1 (hK 1 (by decide)).1 (hK 1 (by decide)).2.1 (hV k hk).2.2 (by omega) hm4) ?_
  rintro _ _ ⟨hx3, rfl, rfl, f_hx3, FO_hx3⟩
  have P := cP_fore P (fr_mono f_hx3 (by decide)) FO_hx3
  obtain ⟨S, O, H, HR, FO, HV, HT, HF, HK, E0, EL0⟩ := id P
  have Z5 := isZ_fr f_hx3 (by decide) Z5
  show lm_wp _ 124 127 [.ref 64, .int (nI j), .int (nI k), .int (nI m), .int 0, .int 0, .ref (107 + 2 * j), .ref (107 + 2 * k)] [.int (ags T n (K 1) (V k).2.2.1 m (R 10))] (hx3, hl, X) _
  refine w_N 1 128 [.ref 64, .int (nI j), .int (nI k), .int (nI m), .int 0, .int 0, .ref (107 + 2 * j), .ref (107 + 2 * k)] [.ref 64, .int (ags T n (K 1) (V k).2.2.1 m (R 10))] rfl ?_
  refine w_gr 104 rfl rfl rfl (A_k S 64 (by decide)) (A_r S 64 8 (by decide)) ?_
  refine w_gr 105 rfl rfl rfl (A_k S 104 (by decide)) (A_r S 104 2 (by decide)) ?_
  refine w_N 1 136 [.ref 64, .int (nI j), .int (nI k), .int (nI m), .int 0, .int 0, .ref (107 + 2 * j), .ref (107 + 2 * k)] [.int 0, .ref 105, .int (ags T n (K 1) (V k).2.2.1 m (R 10))] rfl ?_
  refine w_ia 0 (v := rnZ T n K A (bgZ (R 10)) m 1) rfl (A_k S 105 (by decide)) (show X.2.2.1 105 = 2 from A_l S 105 (by decide)) rfl (by decide) (by decide) (Z5.2.1) ?_
  refine w_icmp_gt (t := 144) rfl rfl (fun c1 => ?_) (fun c1 => ?_)
  · refine w_N 1 145 [.ref 64, .int (nI j), .int (nI k), .int (nI m), .int 0, .int 0, .ref (107 + 2 * j), .ref (107 + 2 * k)] [.int 0] rfl ?_
    refine w_ri rfl rfl ?_
    rw [← q.2.1]
    have e : bz (!decide (rnZ T n K A (bgZ (R 10)) m 1 < ags T n (K 1) (V k).2.2.1 m (R 10))) = 0 := by rw [decide_eq_true c1]; rfl
    rw [e]
    exact cq_ P (by omega) hC
  · refine w_N 2 145 [.ref 64, .int (nI j), .int (nI k), .int (nI m), .int 0, .int 0, .ref (107 + 2 * j), .ref (107 + 2 * k)] [.int 1] rfl ?_
    refine w_ri rfl rfl ?_
    rw [← q.2.1]
    have e : bz (!decide (rnZ T n K A (bgZ (R 10)) m 1 < ags T n (K 1) (V k).2.2.1 m (R 10))) = 1 := by rw [decide_eq_false c1]; rfl
    rw [e]
    exact cq_ P (by omega) hC
theorem y_pact0 {d : Nat} {hi : Nat → Nat → Int32} {hl : Nat → Nat → Int64} {X : lm_X} {hi0 : Nat → Nat → Int32} {hl0 : Nat → Nat → Int64} {X0 : lm_X} {n ts : Nat} {T : lm_T} {R : Nat → Int32} {KO : ab_K} {V : ab_V} {tl F : Nat → Int32} (P : mP hi0 hl0 X0 hi hl X T n R KO V ts tl F) {B D : Nat} (Z : okZ B D T n R KO V ts tl) {j k m : Nat} (hj : j < 8) (hk : k < 8) (hm1 : 1 ≤ m) (hm4 : m ≤ 4) {K A : Nat → Nat} (hK : ∀ h, h < 2 → 1 ≤ K h ∧ K h ≤ 6 ∧ A h ≤ 99) (e0 : (V j).1 = nI (10 + K 0)) (a0 : (V j).2.2.1 = A 0) (e1 : (V k).1 = nI (10 + K 1)) (a1 : (V k).2.2.1 = A 1) (hz : awk (R 10) = 0) : lm_w (d + 30) 217 [.ref 123, .int (nI j), .int (nI k), .int (nI m)] (hi, hl, X) (mQ hi0 hl0 X0 (.int (bz (!decide (rnR T n K A (zrR R) m 20 < ags T n (K 1) (V k).2.2.1 m (R 10))))) T n R KO V ts tl F) := by
  obtain ⟨SR, O, H, HR, HV, HT, HF, HK, E0, EL0, EX0⟩ := id P
  have S := SR.1
  obtain ⟨hT, hO, hV, hts, htl, hDB, hB0, hKO⟩ := id Z
  have h0 : lkR (V j).1 (V k).1 = 0 := lkR_0.mpr ⟨rk_u (hK 0 (by decide)).1 (hK 0 (by decide)).2.1 e0, rk_u (hK 1 (by decide)).1 (hK 1 (by decide)).2.1 e1⟩
  refine lm_w_in (Nat.le_of_ble_eq_true rfl) ?_
  show lm_wp (d + 30) 217 0 [.ref 123, .int (nI j), .int (nI k), .int (nI m), lm_jk, lm_jk, lm_jk, lm_jk] [] (hi, hl, X) _
  refine w_N 4 6 [.ref 123, .int (nI j), .int (nI k), .int (nI m), lm_jk, lm_jk, lm_jk, lm_jk] [.long 7, .long 0, .long ((nI j).toInt64)] rfl ?_
  refine w_cc rfl (lm_c_1 (m_in (x := nI j) (lo := 0) (up := 7) rfl (by decide) (by decide)) (wi_t (n := 7) (Nat.le_of_lt_succ hj) (by decide))) ?_
  show lm_wp _ 217 9 [.ref 123, .int (nI j), .int (nI k), .int (nI m), lm_jk, lm_jk, lm_jk, lm_jk] [.int 1] (hi, hl, X) _
  refine w_if_eq_f (t := 31) rfl rfl (by decide) ?_
  refine w_N 4 18 [.ref 123, .int (nI j), .int (nI k), .int (nI m), lm_jk, lm_jk, lm_jk, lm_jk] [.long 7, .long 0, .long ((nI k).toInt64)] rfl ?_
  refine w_cc rfl (lm_c_1 (m_in (x := nI k) (lo := 0) (up := 7) rfl (by decide) (by decide)) (wi_t (n := 7) (Nat.le_of_lt_succ hk) (by decide))) ?_
  show lm_wp _ 217 21 [.ref 123, .int (nI j), .int (nI k), .int (nI m), lm_jk, lm_jk, lm_jk, lm_jk] [.int 1] (hi, hl, X) _
  refine w_if_eq_f (t := 31) rfl rfl (by decide) ?_
  refine w_N 1 25 [.ref 123, .int (nI j), .int (nI k), .int (nI m), lm_jk, lm_jk, lm_jk, lm_jk] [.int (nI m)] rfl ?_
  refine w_cc rfl (lm_c_1 m_areDays (wi_t1 (n := 4) hm1 hm4 (by decide))) ?_
  show lm_wp _ 217 28 [.ref 123, .int (nI j), .int (nI k), .int (nI m), lm_jk, lm_jk, lm_jk, lm_jk] [.int 1] (hi, hl, X) _
  refine w_if_ne_t (t := 38) rfl rfl (by decide) ?_
  refine w_N 3 41 [.ref 123, .int (nI j), .int (nI k), .int (nI m), lm_jk, lm_jk, lm_jk, lm_jk] [.int (nI k), .int (nI j), .ref 123] rfl ?_
  refine w_cc (w_vst rfl rfl rfl (Nat.le_of_ble_eq_true rfl) (Nat.le_of_ble_eq_true rfl) (M_kd S)) (m_noRules_0 P hj hk h0) ?_
  show lm_wp _ 217 44 [.ref 123, .int (nI j), .int (nI k), .int (nI m), lm_jk, lm_jk, lm_jk, lm_jk] [.int 0] (hi, hl, X) _
  refine w_N 2 48 [.ref 123, .int (nI j), .int (nI k), .int (nI m), .int 0, lm_jk, lm_jk, lm_jk] [.int 0] rfl ?_
  refine w_if_eq_t (t := 54) rfl rfl (by decide) ?_
  refine w_N 1 55 [.ref 123, .int (nI j), .int (nI k), .int (nI m), .int 0, lm_jk, lm_jk, lm_jk] [.ref 123] rfl ?_
  refine w_gi (v := nI D) rfl rfl rfl (M_kd S) (HR.2.2.1.trans hO.2.2.1) ?_
  refine w_N 1 59 [.ref 123, .int (nI j), .int (nI k), .int (nI m), .int 0, lm_jk, lm_jk, lm_jk] [.int 2, .int (nI D)] rfl ?_
  refine w_rem rfl (by decide) ?_
  rw [show nI D - nI D / 2 * 2 = 0 from (rem2 (by omega)).trans (congrArg nI (hO.2.2.2.1.symm.trans hz))]
  refine w_if_ne_f (t := 67) rfl rfl (by decide) ?_
  refine w_N 4 71 [.ref 123, .int (nI j), .int (nI k), .int (nI m), .int 0, .int (nI j), lm_jk, lm_jk] [.ref 123] rfl ?_
  refine w_gi (v := nI D) rfl rfl rfl (M_kd S) (HR.2.2.1.trans hO.2.2.1) ?_
  refine w_N 1 75 [.ref 123, .int (nI j), .int (nI k), .int (nI m), .int 0, .int (nI j), lm_jk, lm_jk] [.int 2, .int (nI D)] rfl ?_
  refine w_rem rfl (by decide) ?_
  rw [show nI D - nI D / 2 * 2 = 0 from (rem2 (by omega)).trans (congrArg nI (hO.2.2.2.1.symm.trans hz))]
  refine w_if_ne_f (t := 83) rfl rfl (by decide) ?_
  refine w_N 7 92 [.ref 123, .int (nI j), .int (nI k), .int (nI m), .int 0, .int (nI j), .int (nI k), lm_jk] [.int (nI m), .int (nI k), .int (nI j), .ref 123] rfl ?_
  refine w_ca (w_vst rfl rfl rfl (Nat.le_of_ble_eq_true rfl) (Nat.le_of_ble_eq_true rfl) (M_kd S)) (y_gb0 (d := d + 9) (K := K) (A := A) P Z hj hk (by omega) hK e0 a0 e1 a1 hz) ?_
  rintro _ _ ⟨rfl, h5x, hl5, X5, rfl, P⟩
  obtain ⟨SR, O, H, HR, HV, HT, HF, HK, E0, EL0, EX0⟩ := id P
  have S := SR.1
  show lm_wp _ 217 95 [.ref 123, .int (nI j), .int (nI k), .int (nI m), .int 0, .int (nI j), .int (nI k), lm_jk] [.int (rnR T n K A (zrR R) m 20)] (h5x, hl5, X5) _
  refine w_N 3 99 [.ref 123, .int (nI j), .int (nI k), .int (nI m), .int 0, .int (nI j), .int (nI k), .int (rnR T n K A (zrR R) m 20)] [.ref 123, .ref 123] rfl ?_
  refine w_gr 137 rfl rfl rfl (M_kd S) (M_r S (k := 5) (o := 14) rfl) ?_
  refine w_N 1 104 [.ref 123, .int (nI j), .int (nI k), .int (nI m), .int 0, .int (nI j), .int (nI k), .int (rnR T n K A (zrR R) m 20)] [.int (nI k), .ref 137, .ref 123] rfl ?_
  refine w_ia k (v := nI (K 1)) rfl (show X5.2.1 (137) = 1 from M_k S 14 (by decide)) (show X5.2.2.1 (137) = 8 from M_l S 14 (by decide)) rfl hk (by decide) (((HV k hk).2.2.2.1 (rk_u (hK 1 (by decide)).1 (hK 1 (by decide)).2.1 e1)).trans (rk_e e1)) ?_
  refine w_N 1 106 [.ref 123, .int (nI j), .int (nI k), .int (nI m), .int 0, .int (nI j), .int (nI k), .int (rnR T n K A (zrR R) m 20)] [.ref 123, .int (nI (K 1)), .ref 123] rfl ?_
  refine w_gr 138 rfl rfl rfl (M_kd S) (M_r S (k := 6) (o := 15) rfl) ?_
  refine w_N 1 111 [.ref 123, .int (nI j), .int (nI k), .int (nI m), .int 0, .int (nI j), .int (nI k), .int (rnR T n K A (zrR R) m 20)] [.int (nI k), .ref 138, .int (nI (K 1)), .ref 123] rfl ?_
  refine w_ia k (v := nI (V k).2.2.1) rfl (show X5.2.1 (138) = 1 from M_k S 15 (by decide)) (show X5.2.2.1 (138) = 8 from M_l S 15 (by decide)) rfl hk (by decide) ((HV k hk).2.2.2.2.1) ?_
  refine w_N 2 114 [.ref 123, .int (nI j), .int (nI k), .int (nI m), .int 0, .int (nI j), .int (nI k), .int (rnR T n K A (zrR R) m 20)] [.ref 123, .int (nI m), .int (nI (V k).2.2.1), .int (nI (K 1)), .ref 123] rfl ?_
  refine w_gi (v := nI D) rfl rfl rfl (M_kd S) (HR.2.2.1.trans hO.2.2.1) ?_
  refine w_N 1 118 [.ref 123, .int (nI j), .int (nI k), .int (nI m), .int 0, .int (nI j), .int (nI k), .int (rnR T n K A (zrR R) m 20)] [.int 2, .int (nI D), .int (nI m), .int (nI (V k).2.2.1), .int (nI (K 1)), .ref 123] rfl ?_
  refine w_rem rfl (by decide) ?_
  rw [show nI D - nI D / 2 * 2 = 0 from (rem2 (by omega)).trans (congrArg nI (hO.2.2.2.1.symm.trans hz))]
  refine w_ca (w_vst rfl rfl rfl (Nat.le_of_ble_eq_true rfl) (Nat.le_of_ble_eq_true rfl) (M_kd S)) (m_mostAgainst (d := d + 17) (kd := K 1) (a := (V k).2.2.1) (k := m) (hf := 0) S H HR.1 hT (HR.2.2.1.trans hO.2.2.1) hO.2.2.2.1 (by omega) hm1 hm4 (hK 1 (by decide)).1 (hK 1 (by decide)).2.1 (hV k hk).2.2 rfl rfl rfl (congrArg nI hz).symm) ?_
  rintro _ _ ⟨hx4, rfl, rfl, f_hx4⟩
  have P := mP_scr P f_hx4
  obtain ⟨SR, O, H, HR, HV, HT, HF, HK, E0, EL0, EX0⟩ := id P
  have S := SR.1
  show lm_wp _ 217 122 [.ref 123, .int (nI j), .int (nI k), .int (nI m), .int 0, .int (nI j), .int (nI k), .int (rnR T n K A (zrR R) m 20)] [.int (ags T n (K 1) (V k).2.2.1 m (R 10))] (hx4, hl5, X5) _
  refine w_N 1 124 [.ref 123, .int (nI j), .int (nI k), .int (nI m), .int 0, .int (nI j), .int (nI k), .int (rnR T n K A (zrR R) m 20)] [.int (rnR T n K A (zrR R) m 20), .int (ags T n (K 1) (V k).2.2.1 m (R 10))] rfl ?_
  refine w_icmp_gt (t := 131) rfl rfl (fun c1 => ?_) (fun c1 => ?_)
  · refine w_N 1 132 [.ref 123, .int (nI j), .int (nI k), .int (nI m), .int 0, .int (nI j), .int (nI k), .int (rnR T n K A (zrR R) m 20)] [.int 0] rfl ?_
    refine w_ri rfl rfl ?_
    have e : bz (!decide (rnR T n K A (zrR R) m 20 < ags T n (K 1) (V k).2.2.1 m (R 10))) = 0 := by rw [decide_eq_true c1]; rfl
    rw [e]
    exact mq_ P
  · refine w_N 2 132 [.ref 123, .int (nI j), .int (nI k), .int (nI m), .int 0, .int (nI j), .int (nI k), .int (rnR T n K A (zrR R) m 20)] [.int 1] rfl ?_
    refine w_ri rfl rfl ?_
    have e : bz (!decide (rnR T n K A (zrR R) m 20 < ags T n (K 1) (V k).2.2.1 m (R 10))) = 1 := by rw [decide_eq_false c1]; rfl
    rw [e]
    exact mq_ P
theorem x_pact1 {d : Nat} {hi : Nat → Nat → Int32} {hl : Nat → Nat → Int64} {X : lm_X} {hi0 : Nat → Nat → Int32} {hl0 : Nat → Nat → Int64} {C n ts : Nat} {T : lm_T} {R : Nat → Int32} {KO : ab_K} {V : ab_V} {tl F : Nat → Int32} (P : cP hi0 hl0 hi hl X C T n R KO V ts tl F) {B D : Nat} (Z : okZ B D T n R KO V ts tl) {j k m : Nat} (hj : j < 8) (hk : k < 8) (hm1 : 1 ≤ m) (hm4 : m ≤ 4) {K A : Nat → Nat} (hK : ∀ h, h < 2 → 1 ≤ K h ∧ K h ≤ 6 ∧ A h ≤ 99) (e0 : (V j).1 = nI (10 + K 0)) (a0 : (V j).2.2.1 = A 0) (e1 : (V k).1 = nI (10 + K 1)) (a1 : (V k).2.2.1 = A 1) (hz : awk (R 10) = 1) (hC : C + 25 < 2147483648) : lm_w (d + 30) 124 [.ref 64, .int (nI j), .int (nI k), .int (nI m)] (hi, hl, X) (cQ hi0 hl0 X (C + 25) (.int (bz (!decide (rnR T n K A (zrR R) m 21 < ags T n (K 0) (V j).2.2.1 m (R 10))))) T n R KO V ts tl F) := by
  obtain ⟨S, O, H, HR, FO, HV, HT, HF, HK, E0, EL0⟩ := id P
  obtain ⟨hT, hO, hV, hts, htl, hDB, hB0, hKO⟩ := id Z
  have h0 : lkR (V j).1 (V k).1 = 0 := lkR_0.mpr ⟨rk_u (hK 0 (by decide)).1 (hK 0 (by decide)).2.1 e0, rk_u (hK 1 (by decide)).1 (hK 1 (by decide)).2.1 e1⟩
  have q := rn_eq T n K A R m
  refine lm_w_in (Nat.le_of_ble_eq_true rfl) ?_
  show lm_wp (d + 30) 124 0 [.ref 64, .int (nI j), .int (nI k), .int (nI m), lm_jk, lm_jk, lm_jk, lm_jk] [] (hi, hl, X) _
  refine w_N 1 1 [.ref 64, .int (nI j), .int (nI k), .int (nI m), lm_jk, lm_jk, lm_jk, lm_jk] [.int (nI j)] rfl ?_
  refine w_cc rfl (x_isShelf1 (wi_t (n := 7) (Nat.le_of_lt_succ hj) (by decide))) ?_
  show lm_wp _ 124 4 [.ref 64, .int (nI j), .int (nI k), .int (nI m), lm_jk, lm_jk, lm_jk, lm_jk] [.int 1] (hi, hl, X) _
  refine w_if_eq_f (t := 21) rfl rfl (by decide) ?_
  refine w_N 1 8 [.ref 64, .int (nI j), .int (nI k), .int (nI m), lm_jk, lm_jk, lm_jk, lm_jk] [.int (nI k)] rfl ?_
  refine w_cc rfl (x_isShelf1 (wi_t (n := 7) (Nat.le_of_lt_succ hk) (by decide))) ?_
  show lm_wp _ 124 11 [.ref 64, .int (nI j), .int (nI k), .int (nI m), lm_jk, lm_jk, lm_jk, lm_jk] [.int 1] (hi, hl, X) _
  refine w_if_eq_f (t := 21) rfl rfl (by decide) ?_
  refine w_N 1 15 [.ref 64, .int (nI j), .int (nI k), .int (nI m), lm_jk, lm_jk, lm_jk, lm_jk] [.int (nI m)] rfl ?_
  refine w_cc rfl (x_isAhead1 (wi_t1 (n := 4) hm1 hm4 (by decide))) ?_
  show lm_wp _ 124 18 [.ref 64, .int (nI j), .int (nI k), .int (nI m), lm_jk, lm_jk, lm_jk, lm_jk] [.int 1] (hi, hl, X) _
  refine w_if_ne_t (t := 28) rfl rfl (by decide) ?_
  refine w_N 3 31 [.ref 64, .int (nI j), .int (nI k), .int (nI m), lm_jk, lm_jk, lm_jk, lm_jk] [.int (nI k), .int (nI j), .ref 64] rfl ?_
  refine w_cc (w_vst rfl rfl rfl (Nat.le_of_ble_eq_true rfl) (Nat.le_of_ble_eq_true rfl) (A_k S 64 (by decide))) (lm_c_v (x_lackRules P hj hk) h0) ?_
  show lm_wp _ 124 34 [.ref 64, .int (nI j), .int (nI k), .int (nI m), lm_jk, lm_jk, lm_jk, lm_jk] [.int 0] (hi, hl, X) _
  refine w_N 2 38 [.ref 64, .int (nI j), .int (nI k), .int (nI m), .int 0, lm_jk, lm_jk, lm_jk] [.int 0] rfl ?_
  refine w_if_eq_t (t := 48) rfl rfl (by decide) ?_
  refine w_N 1 49 [.ref 64, .int (nI j), .int (nI k), .int (nI m), .int 0, lm_jk, lm_jk, lm_jk] [.ref 64] rfl ?_
  refine w_gr 65 rfl rfl rfl (A_k S 64 (by decide)) (A_r S 64 0 (by decide)) ?_
  refine w_gi (v := R 10) rfl rfl rfl (T_kd (A_T65 S)) (HR.1) ?_
  refine w_cc rfl (c_awkz hz) ?_
  show lm_wp _ 124 58 [.ref 64, .int (nI j), .int (nI k), .int (nI m), .int 0, lm_jk, lm_jk, lm_jk] [.int 1] (hi, hl, X) _
  refine w_N 2 61 [.ref 64, .int (nI j), .int (nI k), .int (nI m), .int 0, .int 1, lm_jk, lm_jk] [.ref 64] rfl ?_
  refine w_gr 97 rfl rfl rfl (A_k S 64 (by decide)) (A_r S 64 5 (by decide)) ?_
  refine w_N 1 66 [.ref 64, .int (nI j), .int (nI k), .int (nI m), .int 0, .int 1, lm_jk, lm_jk] [.int 1, .ref 97] rfl ?_
  refine w_if_ne_t (t := 73) rfl rfl (by decide) ?_
  refine w_N 1 74 [.ref 64, .int (nI j), .int (nI k), .int (nI m), .int 0, .int 1, lm_jk, lm_jk] [.int (nI k), .ref 97] rfl ?_
  refine w_aa k (107 + 2 * k) rfl ⟨by rw [A_k S 97 (by decide)]; decide, by rw [A_k S 97 (by decide)]; decide⟩ (show X.2.2.1 97 = 8 from A_l S 97 (by decide)) rfl hk (by decide) (A_sv S hk) ?_
  refine w_N 2 78 [.ref 64, .int (nI j), .int (nI k), .int (nI m), .int 0, .int 1, .ref (107 + 2 * k), lm_jk] [.ref 64] rfl ?_
  refine w_gr 97 rfl rfl rfl (A_k S 64 (by decide)) (A_r S 64 5 (by decide)) ?_
  refine w_N 1 83 [.ref 64, .int (nI j), .int (nI k), .int (nI m), .int 0, .int 1, .ref (107 + 2 * k), lm_jk] [.int 1, .ref 97] rfl ?_
  refine w_if_ne_t (t := 90) rfl rfl (by decide) ?_
  refine w_N 1 91 [.ref 64, .int (nI j), .int (nI k), .int (nI m), .int 0, .int 1, .ref (107 + 2 * k), lm_jk] [.int (nI j), .ref 97] rfl ?_
  refine w_aa j (107 + 2 * j) rfl ⟨by rw [A_k S 97 (by decide)]; decide, by rw [A_k S 97 (by decide)]; decide⟩ (show X.2.2.1 97 = 8 from A_l S 97 (by decide)) rfl hj (by decide) (A_sv S hj) ?_
  refine w_N 2 95 [.ref 64, .int (nI j), .int (nI k), .int (nI m), .int 0, .int 1, .ref (107 + 2 * k), .ref (107 + 2 * j)] [.ref 64] rfl ?_
  refine w_gr 104 rfl rfl rfl (A_k S 64 (by decide)) (A_r S 64 8 (by decide)) ?_
  refine w_N 3 103 [.ref 64, .int (nI j), .int (nI k), .int (nI m), .int 0, .int 1, .ref (107 + 2 * k), .ref (107 + 2 * j)] [.int (nI m), .ref (107 + 2 * j), .ref (107 + 2 * k), .ref 104] rfl ?_
  refine w_ca (w_vst rfl rfl rfl (Nat.le_of_ble_eq_true rfl) (Nat.le_of_ble_eq_true rfl) (A_k S 104 (by decide))) (z_goByRules (d := d + 14) (K := K) (A := A) S hT hO.1 hz (A_Sf S hk) (A_Sf S hj) (by omega) (by omega) hK ((HV k hk).1.trans e1) ((HV k hk).2.2.1.trans (congrArg nI a1)) ((HV j hj).1.trans e0) ((HV j hj).2.2.1.trans (congrArg nI a0)) (by omega) H FO HR.1) ?_
  rintro _ _ ⟨h5x, rfl, rfl, Z5, f5, FO5⟩
  have P := cP_fore P f5 FO5
  obtain ⟨S, O, H, HR, FO, HV, HT, HF, HK, E0, EL0⟩ := id P
  show lm_wp _ 124 106 [.ref 64, .int (nI j), .int (nI k), .int (nI m), .int 0, .int 1, .ref (107 + 2 * k), .ref (107 + 2 * j)] [] (h5x, hl, X) _
  refine w_N 1 107 [.ref 64, .int (nI j), .int (nI k), .int (nI m), .int 0, .int 1, .ref (107 + 2 * k), .ref (107 + 2 * j)] [.ref 64] rfl ?_
  refine w_gr 65 rfl rfl rfl (A_k S 64 (by decide)) (A_r S 64 0 (by decide)) ?_
  refine w_N 1 111 [.ref 64, .int (nI j), .int (nI k), .int (nI m), .int 0, .int 1, .ref (107 + 2 * k), .ref (107 + 2 * j)] [.ref 64, .ref 65] rfl ?_
  refine w_gr 103 rfl rfl rfl (A_k S 64 (by decide)) (A_r S 64 7 (by decide)) ?_
  refine w_N 2 117 [.ref 64, .int (nI j), .int (nI k), .int (nI m), .int 0, .int 1, .ref (107 + 2 * k), .ref (107 + 2 * j)] [.ref 64, .ref (107 + 2 * j), .ref 103, .ref 65] rfl ?_
  refine w_gr 65 rfl rfl rfl (A_k S 64 (by decide)) (A_r S 64 0 (by decide)) ?_
  refine w_gi (v := R 10) rfl rfl rfl (T_kd (A_T65 S)) (HR.1) ?_
  refine w_N 1 124 [.ref 64, .int (nI j), .int (nI k), .int (nI m), .int 0, .int 1, .ref (107 + 2 * k), .ref (107 + 2 * j)] [.int (nI m), .int (R 10), .ref (107 + 2 * j), .ref 103, .ref 65] rfl ?_
  refine w_ca rfl (q_mostAgainst (d := d + 12) S H FO hT hO.1 (A_Sf S hj) ((HV j hj).1.trans e0) (HV j hj).2.2.1 (hK 0 (by decide)).1 (hK 0 (by decide)).2.1 (hV j hj).2.2 (by omega) hm4) ?_
  rintro _ _ ⟨hx5, rfl, rfl, f_hx5, FO_hx5⟩
  have P := cP_fore P (fr_mono f_hx5 (by decide)) FO_hx5
  obtain ⟨S, O, H, HR, FO, HV, HT, HF, HK, E0, EL0⟩ := id P
  have Z5 := isZ_fr f_hx5 (by decide) Z5
  show lm_wp _ 124 127 [.ref 64, .int (nI j), .int (nI k), .int (nI m), .int 0, .int 1, .ref (107 + 2 * k), .ref (107 + 2 * j)] [.int (ags T n (K 0) (V j).2.2.1 m (R 10))] (hx5, hl, X) _
  refine w_N 1 128 [.ref 64, .int (nI j), .int (nI k), .int (nI m), .int 0, .int 1, .ref (107 + 2 * k), .ref (107 + 2 * j)] [.ref 64, .int (ags T n (K 0) (V j).2.2.1 m (R 10))] rfl ?_
  refine w_gr 104 rfl rfl rfl (A_k S 64 (by decide)) (A_r S 64 8 (by decide)) ?_
  refine w_gr 105 rfl rfl rfl (A_k S 104 (by decide)) (A_r S 104 2 (by decide)) ?_
  refine w_N 1 136 [.ref 64, .int (nI j), .int (nI k), .int (nI m), .int 0, .int 1, .ref (107 + 2 * k), .ref (107 + 2 * j)] [.int 1, .ref 105, .int (ags T n (K 0) (V j).2.2.1 m (R 10))] rfl ?_
  refine w_ia 1 (v := rnZ T n K A (bgZ (R 10)) m 2) rfl (A_k S 105 (by decide)) (show X.2.2.1 105 = 2 from A_l S 105 (by decide)) rfl (by decide) (by decide) (Z5.2.2.1) ?_
  refine w_icmp_gt (t := 144) rfl rfl (fun c1 => ?_) (fun c1 => ?_)
  · refine w_N 1 145 [.ref 64, .int (nI j), .int (nI k), .int (nI m), .int 0, .int 1, .ref (107 + 2 * k), .ref (107 + 2 * j)] [.int 0] rfl ?_
    refine w_ri rfl rfl ?_
    rw [← q.2.2.1]
    have e : bz (!decide (rnZ T n K A (bgZ (R 10)) m 2 < ags T n (K 0) (V j).2.2.1 m (R 10))) = 0 := by rw [decide_eq_true c1]; rfl
    rw [e]
    exact cq_ P (by omega) hC
  · refine w_N 2 145 [.ref 64, .int (nI j), .int (nI k), .int (nI m), .int 0, .int 1, .ref (107 + 2 * k), .ref (107 + 2 * j)] [.int 1] rfl ?_
    refine w_ri rfl rfl ?_
    rw [← q.2.2.1]
    have e : bz (!decide (rnZ T n K A (bgZ (R 10)) m 2 < ags T n (K 0) (V j).2.2.1 m (R 10))) = 1 := by rw [decide_eq_false c1]; rfl
    rw [e]
    exact cq_ P (by omega) hC
theorem y_pact1 {d : Nat} {hi : Nat → Nat → Int32} {hl : Nat → Nat → Int64} {X : lm_X} {hi0 : Nat → Nat → Int32} {hl0 : Nat → Nat → Int64} {X0 : lm_X} {n ts : Nat} {T : lm_T} {R : Nat → Int32} {KO : ab_K} {V : ab_V} {tl F : Nat → Int32} (P : mP hi0 hl0 X0 hi hl X T n R KO V ts tl F) {B D : Nat} (Z : okZ B D T n R KO V ts tl) {j k m : Nat} (hj : j < 8) (hk : k < 8) (hm1 : 1 ≤ m) (hm4 : m ≤ 4) {K A : Nat → Nat} (hK : ∀ h, h < 2 → 1 ≤ K h ∧ K h ≤ 6 ∧ A h ≤ 99) (e0 : (V j).1 = nI (10 + K 0)) (a0 : (V j).2.2.1 = A 0) (e1 : (V k).1 = nI (10 + K 1)) (a1 : (V k).2.2.1 = A 1) (hz : awk (R 10) = 1) : lm_w (d + 30) 217 [.ref 123, .int (nI j), .int (nI k), .int (nI m)] (hi, hl, X) (mQ hi0 hl0 X0 (.int (bz (!decide (rnR T n K A (zrR R) m 21 < ags T n (K 0) (V j).2.2.1 m (R 10))))) T n R KO V ts tl F) := by
  obtain ⟨SR, O, H, HR, HV, HT, HF, HK, E0, EL0, EX0⟩ := id P
  have S := SR.1
  obtain ⟨hT, hO, hV, hts, htl, hDB, hB0, hKO⟩ := id Z
  have h0 : lkR (V j).1 (V k).1 = 0 := lkR_0.mpr ⟨rk_u (hK 0 (by decide)).1 (hK 0 (by decide)).2.1 e0, rk_u (hK 1 (by decide)).1 (hK 1 (by decide)).2.1 e1⟩
  refine lm_w_in (Nat.le_of_ble_eq_true rfl) ?_
  show lm_wp (d + 30) 217 0 [.ref 123, .int (nI j), .int (nI k), .int (nI m), lm_jk, lm_jk, lm_jk, lm_jk] [] (hi, hl, X) _
  refine w_N 4 6 [.ref 123, .int (nI j), .int (nI k), .int (nI m), lm_jk, lm_jk, lm_jk, lm_jk] [.long 7, .long 0, .long ((nI j).toInt64)] rfl ?_
  refine w_cc rfl (lm_c_1 (m_in (x := nI j) (lo := 0) (up := 7) rfl (by decide) (by decide)) (wi_t (n := 7) (Nat.le_of_lt_succ hj) (by decide))) ?_
  show lm_wp _ 217 9 [.ref 123, .int (nI j), .int (nI k), .int (nI m), lm_jk, lm_jk, lm_jk, lm_jk] [.int 1] (hi, hl, X) _
  refine w_if_eq_f (t := 31) rfl rfl (by decide) ?_
  refine w_N 4 18 [.ref 123, .int (nI j), .int (nI k), .int (nI m), lm_jk, lm_jk, lm_jk, lm_jk] [.long 7, .long 0, .long ((nI k).toInt64)] rfl ?_
  refine w_cc rfl (lm_c_1 (m_in (x := nI k) (lo := 0) (up := 7) rfl (by decide) (by decide)) (wi_t (n := 7) (Nat.le_of_lt_succ hk) (by decide))) ?_
  show lm_wp _ 217 21 [.ref 123, .int (nI j), .int (nI k), .int (nI m), lm_jk, lm_jk, lm_jk, lm_jk] [.int 1] (hi, hl, X) _
  refine w_if_eq_f (t := 31) rfl rfl (by decide) ?_
  refine w_N 1 25 [.ref 123, .int (nI j), .int (nI k), .int (nI m), lm_jk, lm_jk, lm_jk, lm_jk] [.int (nI m)] rfl ?_
  refine w_cc rfl (lm_c_1 m_areDays (wi_t1 (n := 4) hm1 hm4 (by decide))) ?_
  show lm_wp _ 217 28 [.ref 123, .int (nI j), .int (nI k), .int (nI m), lm_jk, lm_jk, lm_jk, lm_jk] [.int 1] (hi, hl, X) _
  refine w_if_ne_t (t := 38) rfl rfl (by decide) ?_
  refine w_N 3 41 [.ref 123, .int (nI j), .int (nI k), .int (nI m), lm_jk, lm_jk, lm_jk, lm_jk] [.int (nI k), .int (nI j), .ref 123] rfl ?_
  refine w_cc (w_vst rfl rfl rfl (Nat.le_of_ble_eq_true rfl) (Nat.le_of_ble_eq_true rfl) (M_kd S)) (m_noRules_0 P hj hk h0) ?_
  show lm_wp _ 217 44 [.ref 123, .int (nI j), .int (nI k), .int (nI m), lm_jk, lm_jk, lm_jk, lm_jk] [.int 0] (hi, hl, X) _
  refine w_N 2 48 [.ref 123, .int (nI j), .int (nI k), .int (nI m), .int 0, lm_jk, lm_jk, lm_jk] [.int 0] rfl ?_
  refine w_if_eq_t (t := 54) rfl rfl (by decide) ?_
  refine w_N 1 55 [.ref 123, .int (nI j), .int (nI k), .int (nI m), .int 0, lm_jk, lm_jk, lm_jk] [.ref 123] rfl ?_
  refine w_gi (v := nI D) rfl rfl rfl (M_kd S) (HR.2.2.1.trans hO.2.2.1) ?_
  refine w_N 1 59 [.ref 123, .int (nI j), .int (nI k), .int (nI m), .int 0, lm_jk, lm_jk, lm_jk] [.int 2, .int (nI D)] rfl ?_
  refine w_rem rfl (by decide) ?_
  rw [show nI D - nI D / 2 * 2 = 1 from (rem2 (by omega)).trans (congrArg nI (hO.2.2.2.1.symm.trans hz))]
  refine w_if_ne_t (t := 67) rfl rfl (by decide) ?_
  refine w_N 3 71 [.ref 123, .int (nI j), .int (nI k), .int (nI m), .int 0, .int (nI k), lm_jk, lm_jk] [.ref 123] rfl ?_
  refine w_gi (v := nI D) rfl rfl rfl (M_kd S) (HR.2.2.1.trans hO.2.2.1) ?_
  refine w_N 1 75 [.ref 123, .int (nI j), .int (nI k), .int (nI m), .int 0, .int (nI k), lm_jk, lm_jk] [.int 2, .int (nI D)] rfl ?_
  refine w_rem rfl (by decide) ?_
  rw [show nI D - nI D / 2 * 2 = 1 from (rem2 (by omega)).trans (congrArg nI (hO.2.2.2.1.symm.trans hz))]
  refine w_if_ne_t (t := 83) rfl rfl (by decide) ?_
  refine w_N 6 92 [.ref 123, .int (nI j), .int (nI k), .int (nI m), .int 0, .int (nI k), .int (nI j), lm_jk] [.int (nI m), .int (nI j), .int (nI k), .ref 123] rfl ?_
  refine w_ca (w_vst rfl rfl rfl (Nat.le_of_ble_eq_true rfl) (Nat.le_of_ble_eq_true rfl) (M_kd S)) (y_gb1 (d := d + 9) (K := K) (A := A) P Z hk hj (by omega) hK e0 a0 e1 a1 hz) ?_
  rintro _ _ ⟨rfl, h5x, hl5, X5, rfl, P⟩
  obtain ⟨SR, O, H, HR, HV, HT, HF, HK, E0, EL0, EX0⟩ := id P
  have S := SR.1
  show lm_wp _ 217 95 [.ref 123, .int (nI j), .int (nI k), .int (nI m), .int 0, .int (nI k), .int (nI j), lm_jk] [.int (rnR T n K A (zrR R) m 21)] (h5x, hl5, X5) _
  refine w_N 3 99 [.ref 123, .int (nI j), .int (nI k), .int (nI m), .int 0, .int (nI k), .int (nI j), .int (rnR T n K A (zrR R) m 21)] [.ref 123, .ref 123] rfl ?_
  refine w_gr 137 rfl rfl rfl (M_kd S) (M_r S (k := 5) (o := 14) rfl) ?_
  refine w_N 1 104 [.ref 123, .int (nI j), .int (nI k), .int (nI m), .int 0, .int (nI k), .int (nI j), .int (rnR T n K A (zrR R) m 21)] [.int (nI j), .ref 137, .ref 123] rfl ?_
  refine w_ia j (v := nI (K 0)) rfl (show X5.2.1 (137) = 1 from M_k S 14 (by decide)) (show X5.2.2.1 (137) = 8 from M_l S 14 (by decide)) rfl hj (by decide) (((HV j hj).2.2.2.1 (rk_u (hK 0 (by decide)).1 (hK 0 (by decide)).2.1 e0)).trans (rk_e e0)) ?_
  refine w_N 1 106 [.ref 123, .int (nI j), .int (nI k), .int (nI m), .int 0, .int (nI k), .int (nI j), .int (rnR T n K A (zrR R) m 21)] [.ref 123, .int (nI (K 0)), .ref 123] rfl ?_
  refine w_gr 138 rfl rfl rfl (M_kd S) (M_r S (k := 6) (o := 15) rfl) ?_
  refine w_N 1 111 [.ref 123, .int (nI j), .int (nI k), .int (nI m), .int 0, .int (nI k), .int (nI j), .int (rnR T n K A (zrR R) m 21)] [.int (nI j), .ref 138, .int (nI (K 0)), .ref 123] rfl ?_
  refine w_ia j (v := nI (V j).2.2.1) rfl (show X5.2.1 (138) = 1 from M_k S 15 (by decide)) (show X5.2.2.1 (138) = 8 from M_l S 15 (by decide)) rfl hj (by decide) ((HV j hj).2.2.2.2.1) ?_
  refine w_N 2 114 [.ref 123, .int (nI j), .int (nI k), .int (nI m), .int 0, .int (nI k), .int (nI j), .int (rnR T n K A (zrR R) m 21)] [.ref 123, .int (nI m), .int (nI (V j).2.2.1), .int (nI (K 0)), .ref 123] rfl ?_
  refine w_gi (v := nI D) rfl rfl rfl (M_kd S) (HR.2.2.1.trans hO.2.2.1) ?_
  refine w_N 1 118 [.ref 123, .int (nI j), .int (nI k), .int (nI m), .int 0, .int (nI k), .int (nI j), .int (rnR T n K A (zrR R) m 21)] [.int 2, .int (nI D), .int (nI m), .int (nI (V j).2.2.1), .int (nI (K 0)), .ref 123] rfl ?_
  refine w_rem rfl (by decide) ?_
  rw [show nI D - nI D / 2 * 2 = 1 from (rem2 (by omega)).trans (congrArg nI (hO.2.2.2.1.symm.trans hz))]
  refine w_ca (w_vst rfl rfl rfl (Nat.le_of_ble_eq_true rfl) (Nat.le_of_ble_eq_true rfl) (M_kd S)) (m_mostAgainst (d := d + 17) (kd := K 0) (a := (V j).2.2.1) (k := m) (hf := 0) S H HR.1 hT (HR.2.2.1.trans hO.2.2.1) hO.2.2.2.1 (by omega) hm1 hm4 (hK 0 (by decide)).1 (hK 0 (by decide)).2.1 (hV j hj).2.2 rfl rfl rfl (congrArg nI hz).symm) ?_
  rintro _ _ ⟨hx6, rfl, rfl, f_hx6⟩
  have P := mP_scr P f_hx6
  obtain ⟨SR, O, H, HR, HV, HT, HF, HK, E0, EL0, EX0⟩ := id P
  have S := SR.1
  show lm_wp _ 217 122 [.ref 123, .int (nI j), .int (nI k), .int (nI m), .int 0, .int (nI k), .int (nI j), .int (rnR T n K A (zrR R) m 21)] [.int (ags T n (K 0) (V j).2.2.1 m (R 10))] (hx6, hl5, X5) _
  refine w_N 1 124 [.ref 123, .int (nI j), .int (nI k), .int (nI m), .int 0, .int (nI k), .int (nI j), .int (rnR T n K A (zrR R) m 21)] [.int (rnR T n K A (zrR R) m 21), .int (ags T n (K 0) (V j).2.2.1 m (R 10))] rfl ?_
  refine w_icmp_gt (t := 131) rfl rfl (fun c1 => ?_) (fun c1 => ?_)
  · refine w_N 1 132 [.ref 123, .int (nI j), .int (nI k), .int (nI m), .int 0, .int (nI k), .int (nI j), .int (rnR T n K A (zrR R) m 21)] [.int 0] rfl ?_
    refine w_ri rfl rfl ?_
    have e : bz (!decide (rnR T n K A (zrR R) m 21 < ags T n (K 0) (V j).2.2.1 m (R 10))) = 0 := by rw [decide_eq_true c1]; rfl
    rw [e]
    exact mq_ P
  · refine w_N 2 132 [.ref 123, .int (nI j), .int (nI k), .int (nI m), .int 0, .int (nI k), .int (nI j), .int (rnR T n K A (zrR R) m 21)] [.int 1] rfl ?_
    refine w_ri rfl rfl ?_
    have e : bz (!decide (rnR T n K A (zrR R) m 21 < ags T n (K 0) (V j).2.2.1 m (R 10))) = 1 := by rw [decide_eq_false c1]; rfl
    rw [e]
    exact mq_ P
theorem st_pact {B D : Nat} {n ts : Nat} {T : lm_T} {R : Nat → Int32} {KO : ab_K} {V : ab_V} {tl F : Nat → Int32} {s t k : Int32} (Z : okZ B D T n R KO V ts tl) (hB : B + 20 < 2000000) : STEP B 124 217 [.int s, .int t, .int k] T n R KO V ts tl F := by
  obtain ⟨hT, hO, hV, hts, htl, hDB, hB0, hKO⟩ := id Z
  by_cases hb : (wi s 0 7 && wi t 0 7 && wi k 1 4) = false
  · exact ⟨_, D, _, _, _, _, _, _, _, _, okZ_up Z hB, fun _ _ _ _ _ _ P hC => x_pact_b (d := 10) P hb hC, fun _ _ _ _ _ _ P => y_pact_b (d := 10) P hb⟩
  · obtain ⟨h1, h2, h3⟩ := and3_t hb
    obtain ⟨j, rfl, hj⟩ := wi_e (n := 7) h1 (by decide)
    obtain ⟨k, rfl, hk⟩ := wi_e (n := 7) h2 (by decide)
    obtain ⟨m, rfl, hm1, hm4⟩ := wi_e1 (n := 4) h3 (by decide)
    by_cases h0 : lkR (V j).1 (V k).1 = 0
    · obtain ⟨x, x1, x6, ex⟩ := (okC_rule (hV j (by omega)).1).mp (lkR_0.mp h0).1
      obtain ⟨y, y1, y6, ey⟩ := (okC_rule (hV k (by omega)).1).mp (lkR_0.mp h0).2
      have hK := k2_ok (a := x) (b := y) (x := (V j).2.2.1) (y := (V k).2.2.1) ⟨x1, x6, (hV j (by omega)).2.2⟩ ⟨y1, y6, (hV k (by omega)).2.2⟩
      have h := awk_lt (R 10)
      rcases (by omega : awk (R 10) = 0 ∨ awk (R 10) = 1) with h | h
      · exact ⟨_, D, _, _, _, _, _, _, _, _, okZ_up Z hB, fun _ _ _ _ _ _ P hC => x_pact0 (d := 10) P Z (by omega) (by omega) hm1 hm4 hK ex rfl ey rfl h hC, fun _ _ _ _ _ _ P => y_pact0 (d := 10) P Z (by omega) (by omega) hm1 hm4 hK ex rfl ey rfl h⟩
      · exact ⟨_, D, _, _, _, _, _, _, _, _, okZ_up Z hB, fun _ _ _ _ _ _ P hC => x_pact1 (d := 10) P Z (by omega) (by omega) hm1 hm4 hK ex rfl ey rfl h hC, fun _ _ _ _ _ _ P => y_pact1 (d := 10) P Z (by omega) (by omega) hm1 hm4 hK ex rfl ey rfl h⟩
    · exact ⟨_, D, _, _, _, _, _, _, _, _, okZ_up Z hB, fun _ _ _ _ _ _ P hC => x_pact_l (d := 10) P (by omega) (by omega) hm1 hm4 h0 hC, fun _ _ _ _ _ _ P => y_pact_l (d := 10) P (by omega) (by omega) hm1 hm4 h0⟩
def kN (c : Int32) : Nat := (c - 10).toNatClampNeg
theorem kN_e {c : Int32} {k : Nat} (h6 : k ≤ 6) (e : c = nI (10 + k)) : kN c = k := by unfold kN; rw [rk_e e, nI_nn (by omega)]
def hdK (V : ab_V) (t z i : Nat) : Nat → Nat := fun h => if h = z then kN (V i).1 else kN (V t).1
def hdA (V : ab_V) (t z i : Nat) : Nat → Nat := fun h => if h = z then (V i).2.2.1 else (V t).2.2.1
/-- what the half that is awake gains by shelf i's rule against shelf t's -/
def gv (T : lm_T) (n : Nat) (R : Nat → Int32) (V : ab_V) (t N i : Nat) : Int32 := rnR T n (hdK V t (awk (R 10)) i) (hdA V t (awk (R 10)) i) (zrR R) N (20 + awk (R 10))
def hdl (T : lm_T) (n : Nat) (R : Nat → Int32) (V : ab_V) (t N : Nat) : Nat → Nat × Int32
  | 0 => (0, -2000000000)
  | m + 1 => if 10 < (V m).1 ∧ (hdl T n R V t N m).2 < gv T n R V t N m then (m + 1, gv T n R V t N m) else hdl T n R V t N m
theorem hd_ok {V : ab_V} {t z i : Nat} (hV : okV V) (ht : t < 8) (hi : i < 8) (u1 : 10 < (V i).1) (u2 : 10 < (V t).1) (hz : z < 2) : (∀ h, h < 2 → 1 ≤ hdK V t z i h ∧ hdK V t z i h ≤ 6 ∧ hdA V t z i h ≤ 99) ∧ (V i).1 = nI (10 + hdK V t z i z) ∧ (V i).2.2.1 = hdA V t z i z ∧ (V t).1 = nI (10 + hdK V t z i (1 - z)) ∧ (V t).2.2.1 = hdA V t z i (1 - z) := by
  obtain ⟨x, x1, x6, ex⟩ := (okC_rule (hV i hi).1).mp u1
  obtain ⟨y, y1, y6, ey⟩ := (okC_rule (hV t ht).1).mp u2
  have qx := kN_e x6 ex
  have qy := kN_e y6 ey
  have vi := (hV i hi).2.2
  have vt := (hV t ht).2.2
  refine ⟨fun h hh => ?_, ?_, ?_, ?_, ?_⟩
  · unfold hdK hdA
    by_cases e : h = z
    · rw [if_pos e, if_pos e, qx]; exact ⟨x1, x6, vi⟩
    · rw [if_neg e, if_neg e, qy]; exact ⟨y1, y6, vt⟩
  · unfold hdK; rw [if_pos rfl, qx]; exact ex
  · unfold hdA; rw [if_pos rfl]
  · unfold hdK; rw [if_neg (by omega), qy]; exact ey
  · unfold hdA; rw [if_neg (by omega)]
theorem rn_bd {T : lm_T} {n : Nat} {K A : Nat → Nat} {R : Nat → Int32} (hT : okT T n) {h : Nat} (hh : h < 2) : ∀ m, m ≤ 60 → bd (rnR T n K A (zrR R) m (20 + h)) (13068 * m) := by
  intro m
  induction m with
  | zero =>
    intro _
    have e : rnR T n K A (zrR R) 0 (20 + h) = 0 := by
      show zrR R (20 + h) = 0
      unfold zrR
      rw [if_pos (by omega)]
    rw [e]
    exact ⟨by decide, by decide⟩
  | succ m ih =>
    intro hm
    have ih := ih (by omega)
    have hw := awk_lt (rnR T n K A (zrR R) m 10)
    show bd (lvR T _ (rnR T n K A (zrR R) m) (20 + h)) _
    unfold lvR
    rw [if_neg (by omega), if_neg (by omega), if_neg (by omega), if_neg (by omega)]
    split
    · have q := bd_add ih (val_bd (T := T) (n := n) (hf := awk (rnR T n K A (zrR R) m 10)) (s := aft T (chs T n (K (awk (rnR T n K A (zrR R) m 10))) (A (awk (rnR T n K A (zrR R) m 10))) (rnR T n K A (zrR R) m 10)) (rnR T n K A (zrR R) m 10)) hT hw) (by omega)
      exact bd_mono q (by omega)
    · exact bd_mono ih (by omega)
theorem gv_low {T : lm_T} {n : Nat} {R : Nat → Int32} {V : ab_V} {t N i : Nat} (hT : okT T n) (hN : N ≤ 60) : (-2000000000 : Int32) < gv T n R V t N i := bd_low (rn_bd hT (awk_lt _) N hN) (by omega)
theorem isZ_g {hi : Nat → Nat → Int32} {Z : Nat → Int32} {h : Nat} (HZ : isZ hi Z) (hh : h < 2) : hi 105 h = Z (1 + h) := by
  rcases (by omega : h = 0 ∨ h = 1) with rfl | rfl
  · exact HZ.2.1
  · exact HZ.2.2.1
theorem rn_g (T : lm_T) (n : Nat) (K A : Nat → Nat) (R : Nat → Int32) (m : Nat) {h : Nat} (hh : h < 2) : rnZ T n K A (bgZ (R 10)) m (1 + h) = rnR T n K A (zrR R) m (20 + h) := by
  have q := rn_eq T n K A R m
  rcases (by omega : h = 0 ∨ h = 1) with rfl | rfl
  · exact q.2.1
  · exact q.2.2.1
theorem x_head_b {d : Nat} {hi : Nat → Nat → Int32} {hl : Nat → Nat → Int64} {X : lm_X} {hi0 : Nat → Nat → Int32} {hl0 : Nat → Nat → Int64} {C n ts : Nat} {T : lm_T} {R : Nat → Int32} {KO : ab_K} {V : ab_V} {tl F : Nat → Int32} (P : cP hi0 hl0 hi hl X C T n R KO V ts tl F) {s m : Int32}  (hb : (wi s 0 7 && wi m 1 60) = false) (hC : C + 25 < 2147483648) : lm_w (d + 30) 107 [.ref 64, .int s, .int m] (hi, hl, X) (cQ hi0 hl0 X (C + 25) (.int (-2)) T n R KO V ts tl (rfU F (-2))) := by
  obtain ⟨S, O, H, HR, FO, HV, HT, HF, HK, E0, EL0⟩ := id P
  refine lm_w_in (Nat.le_of_ble_eq_true rfl) ?_
  show lm_wp (d + 30) 107 0 [.ref 64, .int s, .int m, lm_jk, lm_jk, lm_jk, lm_jk, lm_jk] [] (hi, hl, X) _
  refine w_N 1 1 [.ref 64, .int s, .int m, lm_jk, lm_jk, lm_jk, lm_jk, lm_jk] [.int s] rfl ?_
  refine w_cc rfl x_isShelf ?_
  show lm_wp _ 107 4 [.ref 64, .int s, .int m, lm_jk, lm_jk, lm_jk, lm_jk, lm_jk] [.int (bz (wi s 0 7))] (hi, hl, X) _
  refine w_zeq (t := 17) rfl rfl (fun c1 => ?_) (fun c1 => ?_)
  · refine w_N 2 20 [.ref 64, .int s, .int m, lm_jk, lm_jk, lm_jk, lm_jk, lm_jk] [.int (-2), .ref 64] rfl ?_
    refine w_ca (w_vst rfl rfl rfl (Nat.le_of_ble_eq_true rfl) (Nat.le_of_ble_eq_true rfl) (A_k S 64 (by decide))) (x_refuse P (by unfold isW; decide)) ?_
    rintro _ _ ⟨rfl, hi9, rfl, P9⟩
    show lm_wp _ 107 23 [.ref 64, .int s, .int m, lm_jk, lm_jk, lm_jk, lm_jk, lm_jk] [.int (-2)] (hi9, hl, X) _
    refine w_ri rfl rfl ?_
    exact cq_ P9 (by omega) hC
  · refine w_N 3 11 [.ref 64, .int s, .int m, lm_jk, lm_jk, lm_jk, lm_jk, lm_jk] [.int 60, .int 1, .int m] rfl ?_
    refine w_cc rfl x_within ?_
    show lm_wp _ 107 14 [.ref 64, .int s, .int m, lm_jk, lm_jk, lm_jk, lm_jk, lm_jk] [.int (bz (wi m 1 60))] (hi, hl, X) _
    refine w_zne (t := 24) rfl rfl (fun c2 => ?_) (fun c2 => ?_)
    · exact absurd hb (by simp [c1, c2])
    · refine w_N 2 20 [.ref 64, .int s, .int m, lm_jk, lm_jk, lm_jk, lm_jk, lm_jk] [.int (-2), .ref 64] rfl ?_
      refine w_ca (w_vst rfl rfl rfl (Nat.le_of_ble_eq_true rfl) (Nat.le_of_ble_eq_true rfl) (A_k S 64 (by decide))) (x_refuse P (by unfold isW; decide)) ?_
      rintro _ _ ⟨rfl, hi9, rfl, P9⟩
      show lm_wp _ 107 23 [.ref 64, .int s, .int m, lm_jk, lm_jk, lm_jk, lm_jk, lm_jk] [.int (-2)] (hi9, hl, X) _
      refine w_ri rfl rfl ?_
      exact cq_ P9 (by omega) hC
theorem y_head_b {d : Nat} {hi : Nat → Nat → Int32} {hl : Nat → Nat → Int64} {X : lm_X} {hi0 : Nat → Nat → Int32} {hl0 : Nat → Nat → Int64} {X0 : lm_X} {n ts : Nat} {T : lm_T} {R : Nat → Int32} {KO : ab_K} {V : ab_V} {tl F : Nat → Int32} (P : mP hi0 hl0 X0 hi hl X T n R KO V ts tl F) {s m : Int32}  (hb : (wi s 0 7 && wi m 1 60) = false) : lm_w (d + 30) 190 [.ref 123, .int s, .int m] (hi, hl, X) (mQ hi0 hl0 X0 (.int (-2)) T n R KO V ts tl (rfU F (-2))) := by
  obtain ⟨SR, O, H, HR, HV, HT, HF, HK, E0, EL0, EX0⟩ := id P
  have S := SR.1
  refine lm_w_in (Nat.le_of_ble_eq_true rfl) ?_
  show lm_wp (d + 30) 190 0 [.ref 123, .int s, .int m, lm_jk, lm_jk, lm_jk, lm_jk, lm_jk] [] (hi, hl, X) _
  refine w_N 4 6 [.ref 123, .int s, .int m, lm_jk, lm_jk, lm_jk, lm_jk, lm_jk] [.long 7, .long 0, .long s.toInt64] rfl ?_
  refine w_cc rfl (m_in (x := s) (lo := 0) (up := 7) rfl (by decide) (by decide)) ?_
  show lm_wp _ 190 9 [.ref 123, .int s, .int m, lm_jk, lm_jk, lm_jk, lm_jk, lm_jk] [.int (bz (wi s 0 7))] (hi, hl, X) _
  refine w_zeq (t := 24) rfl rfl (fun c1 => ?_) (fun c1 => ?_)
  · refine w_N 2 27 [.ref 123, .int s, .int m, lm_jk, lm_jk, lm_jk, lm_jk, lm_jk] [.int (-2), .ref 123] rfl ?_
    refine w_ca (w_vst rfl rfl rfl (Nat.le_of_ble_eq_true rfl) (Nat.le_of_ble_eq_true rfl) (M_kd S)) (m_refuse P (by unfold isW; decide)) ?_
    rintro _ _ ⟨rfl, hi9, rfl, P9⟩
    show lm_wp _ 190 30 [.ref 123, .int s, .int m, lm_jk, lm_jk, lm_jk, lm_jk, lm_jk] [.int (-2)] (hi9, hl, X) _
    refine w_ri rfl rfl ?_
    exact mq_ P9
  · refine w_N 4 18 [.ref 123, .int s, .int m, lm_jk, lm_jk, lm_jk, lm_jk, lm_jk] [.long 60, .long 1, .long m.toInt64] rfl ?_
    refine w_cc rfl (m_in (x := m) (lo := 1) (up := 60) rfl (by decide) (by decide)) ?_
    show lm_wp _ 190 21 [.ref 123, .int s, .int m, lm_jk, lm_jk, lm_jk, lm_jk, lm_jk] [.int (bz (wi m 1 60))] (hi, hl, X) _
    refine w_zne (t := 31) rfl rfl (fun c2 => ?_) (fun c2 => ?_)
    · exact absurd hb (by simp [c1, c2])
    · refine w_N 2 27 [.ref 123, .int s, .int m, lm_jk, lm_jk, lm_jk, lm_jk, lm_jk] [.int (-2), .ref 123] rfl ?_
      refine w_ca (w_vst rfl rfl rfl (Nat.le_of_ble_eq_true rfl) (Nat.le_of_ble_eq_true rfl) (M_kd S)) (m_refuse P (by unfold isW; decide)) ?_
      rintro _ _ ⟨rfl, hi9, rfl, P9⟩
      show lm_wp _ 190 30 [.ref 123, .int s, .int m, lm_jk, lm_jk, lm_jk, lm_jk, lm_jk] [.int (-2)] (hi9, hl, X) _
      refine w_ri rfl rfl ?_
      exact mq_ P9
theorem x_head_l {d : Nat} {hi : Nat → Nat → Int32} {hl : Nat → Nat → Int64} {X : lm_X} {hi0 : Nat → Nat → Int32} {hl0 : Nat → Nat → Int64} {C n ts : Nat} {T : lm_T} {R : Nat → Int32} {KO : ab_K} {V : ab_V} {tl F : Nat → Int32} (P : cP hi0 hl0 hi hl X C T n R KO V ts tl F) {j N : Nat} (hj : j < 8) (hN1 : 1 ≤ N) (hN : N ≤ 60) (h0 : ¬ lkR (V j).1 (V j).1 = 0) (hC : C + 25 < 2147483648) : lm_w (d + 30) 107 [.ref 64, .int (nI j), .int (nI N)] (hi, hl, X) (cQ hi0 hl0 X (C + 25) (.int (lkR (V j).1 (V j).1)) T n R KO V ts tl (rfU F (lkR (V j).1 (V j).1))) := by
  obtain ⟨S, O, H, HR, FO, HV, HT, HF, HK, E0, EL0⟩ := id P
  refine lm_w_in (Nat.le_of_ble_eq_true rfl) ?_
  show lm_wp (d + 30) 107 0 [.ref 64, .int (nI j), .int (nI N), lm_jk, lm_jk, lm_jk, lm_jk, lm_jk] [] (hi, hl, X) _
  refine w_N 1 1 [.ref 64, .int (nI j), .int (nI N), lm_jk, lm_jk, lm_jk, lm_jk, lm_jk] [.int (nI j)] rfl ?_
  refine w_cc rfl (x_isShelf1 (wi_t (n := 7) (Nat.le_of_lt_succ hj) (by decide))) ?_
  show lm_wp _ 107 4 [.ref 64, .int (nI j), .int (nI N), lm_jk, lm_jk, lm_jk, lm_jk, lm_jk] [.int 1] (hi, hl, X) _
  refine w_if_eq_f (t := 17) rfl rfl (by decide) ?_
  refine w_N 3 11 [.ref 64, .int (nI j), .int (nI N), lm_jk, lm_jk, lm_jk, lm_jk, lm_jk] [.int 60, .int 1, .int (nI N)] rfl ?_
  refine w_cc rfl (x_within1 (wi_t1 (n := 60) hN1 hN (by decide))) ?_
  show lm_wp _ 107 14 [.ref 64, .int (nI j), .int (nI N), lm_jk, lm_jk, lm_jk, lm_jk, lm_jk] [.int 1] (hi, hl, X) _
  refine w_if_ne_t (t := 24) rfl rfl (by decide) ?_
  refine w_N 3 27 [.ref 64, .int (nI j), .int (nI N), lm_jk, lm_jk, lm_jk, lm_jk, lm_jk] [.int (nI j), .int (nI j), .ref 64] rfl ?_
  refine w_cc (w_vst rfl rfl rfl (Nat.le_of_ble_eq_true rfl) (Nat.le_of_ble_eq_true rfl) (A_k S 64 (by decide))) (x_lackRules P hj hj) ?_
  show lm_wp _ 107 30 [.ref 64, .int (nI j), .int (nI N), lm_jk, lm_jk, lm_jk, lm_jk, lm_jk] [.int (lkR (V j).1 (V j).1)] (hi, hl, X) _
  refine w_N 2 32 [.ref 64, .int (nI j), .int (nI N), .int (lkR (V j).1 (V j).1), lm_jk, lm_jk, lm_jk, lm_jk] [.int (lkR (V j).1 (V j).1)] rfl ?_
  refine w_if_eq_f (t := 41) rfl rfl h0 ?_
  refine w_N 2 37 [.ref 64, .int (nI j), .int (nI N), .int (lkR (V j).1 (V j).1), lm_jk, lm_jk, lm_jk, lm_jk] [.int (lkR (V j).1 (V j).1), .ref 64] rfl ?_
  refine w_ca (w_vst rfl rfl rfl (Nat.le_of_ble_eq_true rfl) (Nat.le_of_ble_eq_true rfl) (A_k S 64 (by decide))) (x_refuse P (lkR_W h0)) ?_
  rintro _ _ ⟨rfl, hi9, rfl, P9⟩
  show lm_wp _ 107 40 [.ref 64, .int (nI j), .int (nI N), .int (lkR (V j).1 (V j).1), lm_jk, lm_jk, lm_jk, lm_jk] [.int (lkR (V j).1 (V j).1)] (hi9, hl, X) _
  refine w_ri rfl rfl ?_
  exact cq_ P9 (by omega) hC
theorem y_head_l {d : Nat} {hi : Nat → Nat → Int32} {hl : Nat → Nat → Int64} {X : lm_X} {hi0 : Nat → Nat → Int32} {hl0 : Nat → Nat → Int64} {X0 : lm_X} {n ts : Nat} {T : lm_T} {R : Nat → Int32} {KO : ab_K} {V : ab_V} {tl F : Nat → Int32} (P : mP hi0 hl0 X0 hi hl X T n R KO V ts tl F) {j N : Nat} (hj : j < 8) (hN1 : 1 ≤ N) (hN : N ≤ 60) (h0 : ¬ lkR (V j).1 (V j).1 = 0) : lm_w (d + 30) 190 [.ref 123, .int (nI j), .int (nI N)] (hi, hl, X) (mQ hi0 hl0 X0 (.int (lkR (V j).1 (V j).1)) T n R KO V ts tl (rfU F (lkR (V j).1 (V j).1))) := by
  obtain ⟨SR, O, H, HR, HV, HT, HF, HK, E0, EL0, EX0⟩ := id P
  have S := SR.1
  refine lm_w_in (Nat.le_of_ble_eq_true rfl) ?_
  show lm_wp (d + 30) 190 0 [.ref 123, .int (nI j), .int (nI N), lm_jk, lm_jk, lm_jk, lm_jk, lm_jk] [] (hi, hl, X) _
  refine w_N 4 6 [.ref 123, .int (nI j), .int (nI N), lm_jk, lm_jk, lm_jk, lm_jk, lm_jk] [.long 7, .long 0, .long ((nI j).toInt64)] rfl ?_
  refine w_cc rfl (lm_c_1 (m_in (x := nI j) (lo := 0) (up := 7) rfl (by decide) (by decide)) (wi_t (n := 7) (Nat.le_of_lt_succ hj) (by decide))) ?_
  show lm_wp _ 190 9 [.ref 123, .int (nI j), .int (nI N), lm_jk, lm_jk, lm_jk, lm_jk, lm_jk] [.int 1] (hi, hl, X) _
  refine w_if_eq_f (t := 24) rfl rfl (by decide) ?_
  refine w_N 4 18 [.ref 123, .int (nI j), .int (nI N), lm_jk, lm_jk, lm_jk, lm_jk, lm_jk] [.long 60, .long 1, .long ((nI N).toInt64)] rfl ?_
  refine w_cc rfl (lm_c_1 (m_in (x := nI N) (lo := 1) (up := 60) rfl (by decide) (by decide)) (wi_t1 (n := 60) hN1 hN (by decide))) ?_
  show lm_wp _ 190 21 [.ref 123, .int (nI j), .int (nI N), lm_jk, lm_jk, lm_jk, lm_jk, lm_jk] [.int 1] (hi, hl, X) _
  refine w_if_ne_t (t := 31) rfl rfl (by decide) ?_
  refine w_N 2 33 [.ref 123, .int (nI j), .int (nI N), lm_jk, lm_jk, lm_jk, lm_jk, lm_jk] [.int (nI j), .ref 123] rfl ?_
  refine w_ca (w_vst rfl rfl rfl (Nat.le_of_ble_eq_true rfl) (Nat.le_of_ble_eq_true rfl) (M_kd S)) (m_noRule_1 P hj h0) ?_
  rintro _ _ ⟨rfl, hi9, rfl, P9⟩
  show lm_wp _ 190 36 [.ref 123, .int (nI j), .int (nI N), lm_jk, lm_jk, lm_jk, lm_jk, lm_jk] [.int (lkR (V j).1 (V j).1)] (hi9, hl, X) _
  refine w_N 2 38 [.ref 123, .int (nI j), .int (nI N), .int (lkR (V j).1 (V j).1), lm_jk, lm_jk, lm_jk, lm_jk] [.int (lkR (V j).1 (V j).1)] rfl ?_
  refine w_if_eq_f (t := 43) rfl rfl h0 ?_
  refine w_N 1 42 [.ref 123, .int (nI j), .int (nI N), .int (lkR (V j).1 (V j).1), lm_jk, lm_jk, lm_jk, lm_jk] [.int (lkR (V j).1 (V j).1)] rfl ?_
  refine w_ri rfl rfl ?_
  exact mq_ P9
theorem x_head1 {d : Nat} {hi : Nat → Nat → Int32} {hl : Nat → Nat → Int64} {X : lm_X} {hi0 : Nat → Nat → Int32} {hl0 : Nat → Nat → Int64} {C n ts : Nat} {T : lm_T} {R : Nat → Int32} {KO : ab_K} {V : ab_V} {tl F : Nat → Int32} {B D : Nat} (Z : okZ B D T n R KO V ts tl) {j N : Nat} (hj : j < 8) (hN1 : 1 ≤ N) (hN : N ≤ 60) (hu : 10 < (V j).1) {Po : Option Value → lm_H → Prop} (kc : ∀ (c ms : Int32) (hi' : Nat → Nat → Int32) (x7 : Value), cP hi0 hl0 hi' hl X C T n R KO V ts tl F → lm_wp (d + 30) 107 134 [.ref 64, .int (nI j), .int (nI N), .int 0, .int (aI (hdl T n R V j N 8).1), .int ms, .int c, x7] [] (hi', hl, X) Po) : ∀ (r m : Nat) (hi' : Nat → Nat → Int32) (fs : Int32) (ms : Int32) (mk : Int32) (x7 : Value), m + r = 8 → (fs = aI (hdl T n R V j N m).1) → (ms = (hdl T n R V j N m).2) → (mk = nI m) → (cP hi0 hl0 hi' hl X C T n R KO V ts tl F) → lm_wp (d + 30) 107 52 [.ref 64, .int (nI j), .int (nI N), .int 0, .int fs, .int ms, .int mk, x7] [] (hi', hl, X) Po := by
  intro r
  induction r with
  | zero =>
    intro m hi' fs ms mk x7 hm e1 e3 e2 P
    refine w_N 2 56 [.ref 64, .int (nI j), .int (nI N), .int 0, .int fs, .int ms, .int mk, x7] [.int 8, .int mk] rfl ?_
    refine w_icmp_ge_t (t := 134) rfl rfl (by rw [e2, show m = 8 by omega]; decide) ?_
    obtain rfl : m = 8 := by omega
    rw [e1]
    exact kc _ _ _ _ P
  | succ r ih =>
    intro m hi' fs ms mk x7 hm e1 e3 e2 P
    obtain ⟨S, O, H, HR, FO, HV, HT, HF, HK, E0, EL0⟩ := id P
    obtain ⟨hT, hO, hV, hts, htl, hDB, hB0, hKO⟩ := id Z
    refine w_N 2 56 [.ref 64, .int (nI j), .int (nI N), .int 0, .int fs, .int ms, .int mk, x7] [.int 8, .int mk] rfl ?_
    refine w_icmp_ge_f (t := 134) rfl rfl (by rw [e2]; exact nI_lt (b := 8) (by omega) (by decide)) ?_
    refine w_N 1 60 [.ref 64, .int (nI j), .int (nI N), .int 0, .int fs, .int ms, .int mk, x7] [.ref 64] rfl ?_
    refine w_gr 97 rfl rfl rfl (A_k S 64 (by decide)) (A_r S 64 5 (by decide)) ?_
    refine w_N 1 65 [.ref 64, .int (nI j), .int (nI N), .int 0, .int fs, .int ms, .int mk, x7] [.int mk, .ref 97] rfl ?_
    refine w_aa m (107 + 2 * m) rfl ⟨by rw [A_k S 97 (by decide)]; decide, by rw [A_k S 97 (by decide)]; decide⟩ (show X.2.2.1 97 = 8 from A_l S 97 (by decide)) e2 (by omega) (by decide) (A_sv S (by omega)) ?_
    refine w_cc (w_vst rfl rfl rfl (Nat.le_of_ble_eq_true rfl) (Nat.le_of_ble_eq_true rfl) (Sf_kd (A_Sf S (by omega)))) (s_isRule (A_Sf S (by omega)) ((HV m (by omega)).1)) ?_
    show lm_wp _ 107 69 [.ref 64, .int (nI j), .int (nI N), .int 0, .int fs, .int ms, .int mk, x7] [.int (bz (decide (10 < (V m).1)))] (hi', hl, X) _
    refine w_zeq (t := 128) rfl rfl (fun c1 => ?_) (fun c1 => ?_)
    · refine w_N 2 52 [.ref 64, .int (nI j), .int (nI N), .int 0, .int fs, .int ms, .int (mk + 1), x7] [] rfl ?_
      refine ih (m + 1) _ _ _ _ _ (by omega) ?_ ?_ (by rw [e2, nI_succ]) P
      · show _ = aI (if 10 < (V m).1 ∧ (hdl T n R V j N m).2 < gv T n R V j N m then (m + 1, gv T n R V j N m) else hdl T n R V j N m).1
        rw [if_neg (fun z => (of_decide_eq_false c1) z.1)]; exact e1
      · show _ = (if 10 < (V m).1 ∧ (hdl T n R V j N m).2 < gv T n R V j N m then (m + 1, gv T n R V j N m) else hdl T n R V j N m).2
        rw [if_neg (fun z => (of_decide_eq_false c1) z.1)]; exact e3
    · refine w_N 1 73 [.ref 64, .int (nI j), .int (nI N), .int 0, .int fs, .int ms, .int mk, x7] [.ref 64] rfl ?_
      refine w_gr 104 rfl rfl rfl (A_k S 64 (by decide)) (A_r S 64 8 (by decide)) ?_
      refine w_N 1 77 [.ref 64, .int (nI j), .int (nI N), .int 0, .int fs, .int ms, .int mk, x7] [.ref 64, .ref 104] rfl ?_
      refine w_gr 97 rfl rfl rfl (A_k S 64 (by decide)) (A_r S 64 5 (by decide)) ?_
      refine w_N 1 82 [.ref 64, .int (nI j), .int (nI N), .int 0, .int fs, .int ms, .int mk, x7] [.int mk, .ref 97, .ref 104] rfl ?_
      refine w_aa m (107 + 2 * m) rfl ⟨by rw [A_k S 97 (by decide)]; decide, by rw [A_k S 97 (by decide)]; decide⟩ (show X.2.2.1 97 = 8 from A_l S 97 (by decide)) e2 (by omega) (by decide) (A_sv S (by omega)) ?_
      refine w_N 1 84 [.ref 64, .int (nI j), .int (nI N), .int 0, .int fs, .int ms, .int mk, x7] [.ref 64, .ref (107 + 2 * m), .ref 104] rfl ?_
      refine w_gr 97 rfl rfl rfl (A_k S 64 (by decide)) (A_r S 64 5 (by decide)) ?_
      refine w_N 1 88 [.ref 64, .int (nI j), .int (nI N), .int 0, .int fs, .int ms, .int mk, x7] [.int (nI j), .ref 97, .ref (107 + 2 * m), .ref 104] rfl ?_
      refine w_aa j (107 + 2 * j) rfl ⟨by rw [A_k S 97 (by decide)]; decide, by rw [A_k S 97 (by decide)]; decide⟩ (show X.2.2.1 97 = 8 from A_l S 97 (by decide)) rfl hj (by decide) (A_sv S hj) ?_
      refine w_N 1 90 [.ref 64, .int (nI j), .int (nI N), .int 0, .int fs, .int ms, .int mk, x7] [.int (nI N), .ref (107 + 2 * j), .ref (107 + 2 * m), .ref 104] rfl ?_
      obtain ⟨hK, g0, b0, g1, b1⟩ := hd_ok (z := awk (R 10)) hV hj (show m < 8 by omega) (of_decide_eq_true c1) hu (awk_lt _)
      refine w_ca (w_vst rfl rfl rfl (Nat.le_of_ble_eq_true rfl) (Nat.le_of_ble_eq_true rfl) (A_k S 104 (by decide))) (z_goByRules (d := d + 14) (K := hdK V j (awk (R 10)) m) (A := hdA V j (awk (R 10)) m) S hT hO.1 rfl (A_Sf S (by omega)) (A_Sf S hj) (by omega) (by omega) hK ((HV m (by omega)).1.trans g0) ((HV m (by omega)).2.2.1.trans (congrArg nI b0)) ((HV j hj).1.trans g1) ((HV j hj).2.2.1.trans (congrArg nI b1)) (by omega) H FO HR.1) ?_
      rintro _ _ ⟨h5x, rfl, rfl, Z5, f5, FO5⟩
      have P := cP_fore P f5 FO5
      obtain ⟨S, O, H, HR, FO, HV, HT, HF, HK, E0, EL0⟩ := id P
      show lm_wp _ 107 93 [.ref 64, .int (nI j), .int (nI N), .int 0, .int fs, .int ms, .int mk, x7] [] (h5x, hl, X) _
      refine w_N 1 94 [.ref 64, .int (nI j), .int (nI N), .int 0, .int fs, .int ms, .int mk, x7] [.ref 64] rfl ?_
      refine w_gr 104 rfl rfl rfl (A_k S 64 (by decide)) (A_r S 64 8 (by decide)) ?_
      refine w_gr 105 rfl rfl rfl (A_k S 104 (by decide)) (A_r S 104 2 (by decide)) ?_
      refine w_N 1 101 [.ref 64, .int (nI j), .int (nI N), .int 0, .int fs, .int ms, .int mk, x7] [.ref 64, .ref 105] rfl ?_
      refine w_gr 65 rfl rfl rfl (A_k S 64 (by decide)) (A_r S 64 0 (by decide)) ?_
      refine w_gi (v := R 10) rfl rfl rfl (T_kd (A_T65 S)) (HR.1) ?_
      refine w_cc rfl (c_awkz rfl) ?_
      show lm_wp _ 107 110 [.ref 64, .int (nI j), .int (nI N), .int 0, .int fs, .int ms, .int mk, x7] [.int (nI (awk (R 10))), .ref 105] (h5x, hl, X) _
      refine w_ia (awk (R 10)) (v := gv T n R V j N m) rfl (A_k S 105 (by decide)) (show X.2.2.1 105 = 2 from A_l S 105 (by decide)) rfl (awk_lt _) (by decide) ((isZ_g Z5 (awk_lt _)).trans (rn_g T n _ _ R N (awk_lt _))) ?_
      refine w_N 3 117 [.ref 64, .int (nI j), .int (nI N), .int 0, .int fs, .int ms, .int mk, .int (gv T n R V j N m)] [.int ms, .int (gv T n R V j N m)] rfl ?_
      refine w_icmp_le (t := 128) rfl rfl (fun c2 => ?_) (fun c2 => ?_)
      · refine w_N 2 52 [.ref 64, .int (nI j), .int (nI N), .int 0, .int fs, .int ms, .int (mk + 1), .int (gv T n R V j N m)] [] rfl ?_
        refine ih (m + 1) _ _ _ _ _ (by omega) ?_ ?_ (by rw [e2, nI_succ]) P
        · show _ = aI (if 10 < (V m).1 ∧ (hdl T n R V j N m).2 < gv T n R V j N m then (m + 1, gv T n R V j N m) else hdl T n R V j N m).1
          rw [if_neg (fun z => c2 (by rw [e3]; exact z.2))]; exact e1
        · show _ = (if 10 < (V m).1 ∧ (hdl T n R V j N m).2 < gv T n R V j N m then (m + 1, gv T n R V j N m) else hdl T n R V j N m).2
          rw [if_neg (fun z => c2 (by rw [e3]; exact z.2))]; exact e3
      · refine w_N 6 52 [.ref 64, .int (nI j), .int (nI N), .int 0, .int mk, .int (gv T n R V j N m), .int (mk + 1), .int (gv T n R V j N m)] [] rfl ?_
        refine ih (m + 1) _ _ _ _ _ (by omega) ?_ ?_ (by rw [e2, nI_succ]) P
        · show _ = aI (if 10 < (V m).1 ∧ (hdl T n R V j N m).2 < gv T n R V j N m then (m + 1, gv T n R V j N m) else hdl T n R V j N m).1
          rw [if_pos ⟨of_decide_eq_true c1, by rw [← e3]; exact c2⟩]; exact e2
        · show _ = (if 10 < (V m).1 ∧ (hdl T n R V j N m).2 < gv T n R V j N m then (m + 1, gv T n R V j N m) else hdl T n R V j N m).2
          rw [if_pos ⟨of_decide_eq_true c1, by rw [← e3]; exact c2⟩]
theorem x_head {d : Nat} {hi : Nat → Nat → Int32} {hl : Nat → Nat → Int64} {X : lm_X} {hi0 : Nat → Nat → Int32} {hl0 : Nat → Nat → Int64} {C n ts : Nat} {T : lm_T} {R : Nat → Int32} {KO : ab_K} {V : ab_V} {tl F : Nat → Int32} (P : cP hi0 hl0 hi hl X C T n R KO V ts tl F) {B D : Nat} (Z : okZ B D T n R KO V ts tl) {j N : Nat} (hj : j < 8) (hN1 : 1 ≤ N) (hN : N ≤ 60) (hu : 10 < (V j).1) (hC : C + 25 < 2147483648) : lm_w (d + 30) 107 [.ref 64, .int (nI j), .int (nI N)] (hi, hl, X) (cQ hi0 hl0 X (C + 25) (.int (aI (hdl T n R V j N 8).1)) T n R KO V ts tl F) := by
  obtain ⟨S, O, H, HR, FO, HV, HT, HF, HK, E0, EL0⟩ := id P
  obtain ⟨hT, hO, hV, hts, htl, hDB, hB0, hKO⟩ := id Z
  have h0 : lkR (V j).1 (V j).1 = 0 := lkR_0.mpr ⟨hu, hu⟩
  refine lm_w_in (Nat.le_of_ble_eq_true rfl) ?_
  show lm_wp (d + 30) 107 0 [.ref 64, .int (nI j), .int (nI N), lm_jk, lm_jk, lm_jk, lm_jk, lm_jk] [] (hi, hl, X) _
  refine w_N 1 1 [.ref 64, .int (nI j), .int (nI N), lm_jk, lm_jk, lm_jk, lm_jk, lm_jk] [.int (nI j)] rfl ?_
  refine w_cc rfl (x_isShelf1 (wi_t (n := 7) (Nat.le_of_lt_succ hj) (by decide))) ?_
  show lm_wp _ 107 4 [.ref 64, .int (nI j), .int (nI N), lm_jk, lm_jk, lm_jk, lm_jk, lm_jk] [.int 1] (hi, hl, X) _
  refine w_if_eq_f (t := 17) rfl rfl (by decide) ?_
  refine w_N 3 11 [.ref 64, .int (nI j), .int (nI N), lm_jk, lm_jk, lm_jk, lm_jk, lm_jk] [.int 60, .int 1, .int (nI N)] rfl ?_
  refine w_cc rfl (x_within1 (wi_t1 (n := 60) hN1 hN (by decide))) ?_
  show lm_wp _ 107 14 [.ref 64, .int (nI j), .int (nI N), lm_jk, lm_jk, lm_jk, lm_jk, lm_jk] [.int 1] (hi, hl, X) _
  refine w_if_ne_t (t := 24) rfl rfl (by decide) ?_
  refine w_N 3 27 [.ref 64, .int (nI j), .int (nI N), lm_jk, lm_jk, lm_jk, lm_jk, lm_jk] [.int (nI j), .int (nI j), .ref 64] rfl ?_
  refine w_cc (w_vst rfl rfl rfl (Nat.le_of_ble_eq_true rfl) (Nat.le_of_ble_eq_true rfl) (A_k S 64 (by decide))) (lm_c_v (x_lackRules P hj hj) h0) ?_
  show lm_wp _ 107 30 [.ref 64, .int (nI j), .int (nI N), lm_jk, lm_jk, lm_jk, lm_jk, lm_jk] [.int 0] (hi, hl, X) _
  refine w_N 2 32 [.ref 64, .int (nI j), .int (nI N), .int 0, lm_jk, lm_jk, lm_jk, lm_jk] [.int 0] rfl ?_
  refine w_if_eq_t (t := 41) rfl rfl (by decide) ?_
  refine w_N 6 52 [.ref 64, .int (nI j), .int (nI N), .int 0, .int (-1), .int (-2000000000), .int 0, lm_jk] [] rfl ?_
  refine x_head1 (hi := hi) Z hj hN1 hN hu (fun c ms h5x x7 P => ?_) 8 0 _ _ _ _ _ (by omega) rfl rfl rfl P
  refine w_N 1 136 _ [.int (aI (hdl T n R V j N 8).1)] rfl ?_
  refine w_ri rfl rfl ?_
  exact cq_ P (by omega) hC
theorem hd_le (T : lm_T) (n : Nat) (R : Nat → Int32) (V : ab_V) (t N m : Nat) (hm : m ≤ 8) : (hdl T n R V t N m).1 < 2147483648 := by
  have h : ∀ m, (hdl T n R V t N m).1 ≤ m := by
    intro m
    induction m with
    | zero => exact Nat.le_refl _
    | succ m ih =>
      show (if _ then _ else _ : Nat × Int32).1 ≤ _
      split
      · exact Nat.le_refl _
      · omega
  have := h m
  omega
theorem hd_low {T : lm_T} {n : Nat} {R : Nat → Int32} {V : ab_V} {t N m i : Nat} (hT : okT T n) (hN : N ≤ 60) (h : (hdl T n R V t N m).1 = 0) : (hdl T n R V t N m).2 < gv T n R V t N i := by
  have q : ∀ m, (hdl T n R V t N m).1 = 0 → (hdl T n R V t N m).2 = -2000000000 := by
    intro m
    induction m with
    | zero => intro _; rfl
    | succ m ih =>
      show (if _ then _ else _ : Nat × Int32).1 = 0 → (if _ then _ else _ : Nat × Int32).2 = _
      split
      · intro z; exact absurd z (Nat.succ_ne_zero m)
      · exact ih
  rw [q m h]
  exact gv_low hT hN
theorem y_head1 {d : Nat} {hi : Nat → Nat → Int32} {hl : Nat → Nat → Int64} {X : lm_X} {hi0 : Nat → Nat → Int32} {hl0 : Nat → Nat → Int64} {X0 : lm_X} {n ts : Nat} {T : lm_T} {R : Nat → Int32} {KO : ab_K} {V : ab_V} {tl F : Nat → Int32} {B D : Nat} (Z : okZ B D T n R KO V ts tl) {j N : Nat} (hj : j < 8) (hN1 : 1 ≤ N) (hN : N ≤ 60) (hu : 10 < (V j).1) {Po : Option Value → lm_H → Prop} (kc : ∀ (c ms : Int32) (hi' : Nat → Nat → Int32) (hl' : Nat → Nat → Int64) (X' : lm_X) (x7 : Value), mP hi0 hl0 X0 hi' hl' X' T n R KO V ts tl F → lm_wp (d + 30) 190 107 [.ref 123, .int (nI j), .int (nI N), .int 0, .int (aI (hdl T n R V j N 8).1), .int ms, .int c, x7] [] (hi', hl', X') Po) : ∀ (r m : Nat) (hi' : Nat → Nat → Int32) (hl' : Nat → Nat → Int64) (X' : lm_X) (fs : Int32) (ms : Int32) (mk : Int32) (x7 : Value), m + r = 8 → (fs = aI (hdl T n R V j N m).1) → ((hdl T n R V j N m).1 ≠ 0 → ms = (hdl T n R V j N m).2) → (mk = nI m) → (mP hi0 hl0 X0 hi' hl' X' T n R KO V ts tl F) → lm_wp (d + 30) 190 52 [.ref 123, .int (nI j), .int (nI N), .int 0, .int fs, .int ms, .int mk, x7] [] (hi', hl', X') Po := by
  intro r
  induction r with
  | zero =>
    intro m hi' hl' X' fs ms mk x7 hm e1 e3 e2 P
    refine w_N 2 56 [.ref 123, .int (nI j), .int (nI N), .int 0, .int fs, .int ms, .int mk, x7] [.int 8, .int mk] rfl ?_
    refine w_icmp_ge_t (t := 107) rfl rfl (by rw [e2, show m = 8 by omega]; decide) ?_
    obtain rfl : m = 8 := by omega
    rw [e1]
    exact kc _ _ _ _ _ _ P
  | succ r ih =>
    intro m hi' hl' X' fs ms mk x7 hm e1 e3 e2 P
    obtain ⟨SR, O, H, HR, HV, HT, HF, HK, E0, EL0, EX0⟩ := id P
    have S := SR.1
    obtain ⟨hT, hO, hV, hts, htl, hDB, hB0, hKO⟩ := id Z
    refine w_N 2 56 [.ref 123, .int (nI j), .int (nI N), .int 0, .int fs, .int ms, .int mk, x7] [.int 8, .int mk] rfl ?_
    refine w_icmp_ge_f (t := 107) rfl rfl (by rw [e2]; exact nI_lt (b := 8) (by omega) (by decide)) ?_
    refine w_N 1 60 [.ref 123, .int (nI j), .int (nI N), .int 0, .int fs, .int ms, .int mk, x7] [.ref 123] rfl ?_
    refine w_gr 124 rfl rfl rfl (M_kd S) (M_r S (k := 0) (o := 1) rfl) ?_
    refine w_N 1 65 [.ref 123, .int (nI j), .int (nI N), .int 0, .int fs, .int ms, .int mk, x7] [.int mk, .ref 124] rfl ?_
    refine w_ia m (v := shK (V m).1) rfl (show X'.2.1 (124) = 1 from M_k S 1 (by decide)) (show X'.2.2.1 (124) = 8 from M_l S 1 (by decide)) e2 (by omega) (by decide) ((HV m (by omega)).1) ?_
    refine w_N 1 67 [.ref 123, .int (nI j), .int (nI N), .int 0, .int fs, .int ms, .int mk, x7] [.int 2, .int (shK (V m).1)] rfl ?_
    refine w_icmp_ne (t := 101) rfl rfl (fun c1 => ?_) (fun c1 => ?_)
    · refine w_N 2 52 [.ref 123, .int (nI j), .int (nI N), .int 0, .int fs, .int ms, .int (mk + 1), x7] [] rfl ?_
      refine ih (m + 1) _ _ _ _ _ _ _ (by omega) ?_ ?_ (by rw [e2, nI_succ]) P
      · show _ = aI (if 10 < (V m).1 ∧ (hdl T n R V j N m).2 < gv T n R V j N m then (m + 1, gv T n R V j N m) else hdl T n R V j N m).1
        rw [if_neg (fun z => c1 (shK_u z.1))]; exact e1
      · show (if 10 < (V m).1 ∧ (hdl T n R V j N m).2 < gv T n R V j N m then (m + 1, gv T n R V j N m) else hdl T n R V j N m).1 ≠ 0 → _ = (if 10 < (V m).1 ∧ (hdl T n R V j N m).2 < gv T n R V j N m then (m + 1, gv T n R V j N m) else hdl T n R V j N m).2
        rw [if_neg (fun z => c1 (shK_u z.1))]; exact e3
    · refine w_N 4 75 [.ref 123, .int (nI j), .int (nI N), .int 0, .int fs, .int ms, .int mk, x7] [.int (nI N), .int (nI j), .int mk, .ref 123] rfl ?_
      have um := shK_3 c1
      obtain ⟨hK, g0, b0, g1, b1⟩ := hd_ok (z := awk (R 10)) hV hj (show m < 8 by omega) um hu (awk_lt _)
      refine w_ca (w_vst rfl rfl rfl (Nat.le_of_ble_eq_true rfl) (Nat.le_of_ble_eq_true rfl) (M_kd S)) (y_gbE (d := d + 9) e2 P Z (show m < 8 by omega) hj hN hK g0 b0 g1 b1) ?_
      rintro _ _ ⟨rfl, h5x, hl5, X5, rfl, P⟩
      obtain ⟨SR, O, H, HR, HV, HT, HF, HK, E0, EL0, EX0⟩ := id P
      have S := SR.1
      show lm_wp _ 190 78 [.ref 123, .int (nI j), .int (nI N), .int 0, .int fs, .int ms, .int mk, x7] [.int (gv T n R V j N m)] (h5x, hl5, X5) _
      refine w_N 3 83 [.ref 123, .int (nI j), .int (nI N), .int 0, .int fs, .int ms, .int mk, .int (gv T n R V j N m)] [.int (-1), .int fs] rfl ?_
      refine w_icmp_eq (t := 93) rfl rfl (fun c2 => ?_) (fun c2 => ?_)
      · refine w_N 6 52 [.ref 123, .int (nI j), .int (nI N), .int 0, .int mk, .int (gv T n R V j N m), .int (mk + 1), .int (gv T n R V j N m)] [] rfl ?_
        refine ih (m + 1) _ _ _ _ _ _ _ (by omega) ?_ ?_ (by rw [e2, nI_succ]) P
        · show _ = aI (if 10 < (V m).1 ∧ (hdl T n R V j N m).2 < gv T n R V j N m then (m + 1, gv T n R V j N m) else hdl T n R V j N m).1
          rw [if_pos ⟨um, (hd_low hT hN (by have q := aI_none (i := (hdl T n R V j N m).1) (hd_le T n R V j N m (by omega)); exact q.mp (e1 ▸ c2)))⟩]; exact e2
        · show (if 10 < (V m).1 ∧ (hdl T n R V j N m).2 < gv T n R V j N m then (m + 1, gv T n R V j N m) else hdl T n R V j N m).1 ≠ 0 → _ = (if 10 < (V m).1 ∧ (hdl T n R V j N m).2 < gv T n R V j N m then (m + 1, gv T n R V j N m) else hdl T n R V j N m).2
          rw [if_pos ⟨um, (hd_low hT hN (by have q := aI_none (i := (hdl T n R V j N m).1) (hd_le T n R V j N m (by omega)); exact q.mp (e1 ▸ c2)))⟩]; exact fun _ => rfl
      · refine w_N 2 90 [.ref 123, .int (nI j), .int (nI N), .int 0, .int fs, .int ms, .int mk, .int (gv T n R V j N m)] [.int ms, .int (gv T n R V j N m)] rfl ?_
        refine w_icmp_le (t := 101) rfl rfl (fun c3 => ?_) (fun c3 => ?_)
        · refine w_N 2 52 [.ref 123, .int (nI j), .int (nI N), .int 0, .int fs, .int ms, .int (mk + 1), .int (gv T n R V j N m)] [] rfl ?_
          refine ih (m + 1) _ _ _ _ _ _ _ (by omega) ?_ ?_ (by rw [e2, nI_succ]) P
          · show _ = aI (if 10 < (V m).1 ∧ (hdl T n R V j N m).2 < gv T n R V j N m then (m + 1, gv T n R V j N m) else hdl T n R V j N m).1
            rw [if_neg (fun z => c3 (by rw [e3 (fun z => c2 (by rw [e1, z]; rfl))]; exact z.2))]; exact e1
          · show (if 10 < (V m).1 ∧ (hdl T n R V j N m).2 < gv T n R V j N m then (m + 1, gv T n R V j N m) else hdl T n R V j N m).1 ≠ 0 → _ = (if 10 < (V m).1 ∧ (hdl T n R V j N m).2 < gv T n R V j N m then (m + 1, gv T n R V j N m) else hdl T n R V j N m).2
            rw [if_neg (fun z => c3 (by rw [e3 (fun z => c2 (by rw [e1, z]; rfl))]; exact z.2))]; exact e3
        · refine w_N 6 52 [.ref 123, .int (nI j), .int (nI N), .int 0, .int mk, .int (gv T n R V j N m), .int (mk + 1), .int (gv T n R V j N m)] [] rfl ?_
          refine ih (m + 1) _ _ _ _ _ _ _ (by omega) ?_ ?_ (by rw [e2, nI_succ]) P
          · show _ = aI (if 10 < (V m).1 ∧ (hdl T n R V j N m).2 < gv T n R V j N m then (m + 1, gv T n R V j N m) else hdl T n R V j N m).1
            rw [if_pos ⟨um, (by rw [← e3 (fun z => c2 (by rw [e1, z]; rfl))]; exact c3)⟩]; exact e2
          · show (if 10 < (V m).1 ∧ (hdl T n R V j N m).2 < gv T n R V j N m then (m + 1, gv T n R V j N m) else hdl T n R V j N m).1 ≠ 0 → _ = (if 10 < (V m).1 ∧ (hdl T n R V j N m).2 < gv T n R V j N m then (m + 1, gv T n R V j N m) else hdl T n R V j N m).2
            rw [if_pos ⟨um, (by rw [← e3 (fun z => c2 (by rw [e1, z]; rfl))]; exact c3)⟩]; exact fun _ => rfl
theorem y_head {d : Nat} {hi : Nat → Nat → Int32} {hl : Nat → Nat → Int64} {X : lm_X} {hi0 : Nat → Nat → Int32} {hl0 : Nat → Nat → Int64} {X0 : lm_X} {n ts : Nat} {T : lm_T} {R : Nat → Int32} {KO : ab_K} {V : ab_V} {tl F : Nat → Int32} (P : mP hi0 hl0 X0 hi hl X T n R KO V ts tl F) {B D : Nat} (Z : okZ B D T n R KO V ts tl) {j N : Nat} (hj : j < 8) (hN1 : 1 ≤ N) (hN : N ≤ 60) (hu : 10 < (V j).1) : lm_w (d + 30) 190 [.ref 123, .int (nI j), .int (nI N)] (hi, hl, X) (mQ hi0 hl0 X0 (.int (aI (hdl T n R V j N 8).1)) T n R KO V ts tl F) := by
  obtain ⟨SR, O, H, HR, HV, HT, HF, HK, E0, EL0, EX0⟩ := id P
  have S := SR.1
  obtain ⟨hT, hO, hV, hts, htl, hDB, hB0, hKO⟩ := id Z
  have h0 : lkR (V j).1 (V j).1 = 0 := lkR_0.mpr ⟨hu, hu⟩
  refine lm_w_in (Nat.le_of_ble_eq_true rfl) ?_
  show lm_wp (d + 30) 190 0 [.ref 123, .int (nI j), .int (nI N), lm_jk, lm_jk, lm_jk, lm_jk, lm_jk] [] (hi, hl, X) _
  refine w_N 4 6 [.ref 123, .int (nI j), .int (nI N), lm_jk, lm_jk, lm_jk, lm_jk, lm_jk] [.long 7, .long 0, .long ((nI j).toInt64)] rfl ?_
  refine w_cc rfl (lm_c_1 (m_in (x := nI j) (lo := 0) (up := 7) rfl (by decide) (by decide)) (wi_t (n := 7) (Nat.le_of_lt_succ hj) (by decide))) ?_
  show lm_wp _ 190 9 [.ref 123, .int (nI j), .int (nI N), lm_jk, lm_jk, lm_jk, lm_jk, lm_jk] [.int 1] (hi, hl, X) _
  refine w_if_eq_f (t := 24) rfl rfl (by decide) ?_
  refine w_N 4 18 [.ref 123, .int (nI j), .int (nI N), lm_jk, lm_jk, lm_jk, lm_jk, lm_jk] [.long 60, .long 1, .long ((nI N).toInt64)] rfl ?_
  refine w_cc rfl (lm_c_1 (m_in (x := nI N) (lo := 1) (up := 60) rfl (by decide) (by decide)) (wi_t1 (n := 60) hN1 hN (by decide))) ?_
  show lm_wp _ 190 21 [.ref 123, .int (nI j), .int (nI N), lm_jk, lm_jk, lm_jk, lm_jk, lm_jk] [.int 1] (hi, hl, X) _
  refine w_if_ne_t (t := 31) rfl rfl (by decide) ?_
  refine w_N 2 33 [.ref 123, .int (nI j), .int (nI N), lm_jk, lm_jk, lm_jk, lm_jk, lm_jk] [.int (nI j), .ref 123] rfl ?_
  refine w_cc (w_vst rfl rfl rfl (Nat.le_of_ble_eq_true rfl) (Nat.le_of_ble_eq_true rfl) (M_kd S)) (m_noRule_0 P hj h0) ?_
  show lm_wp _ 190 36 [.ref 123, .int (nI j), .int (nI N), lm_jk, lm_jk, lm_jk, lm_jk, lm_jk] [.int 0] (hi, hl, X) _
  refine w_N 2 38 [.ref 123, .int (nI j), .int (nI N), .int 0, lm_jk, lm_jk, lm_jk, lm_jk] [.int 0] rfl ?_
  refine w_if_eq_t (t := 43) rfl rfl (by decide) ?_
  refine w_N 6 52 [.ref 123, .int (nI j), .int (nI N), .int 0, .int (-1), .int 0, .int 0, lm_jk] [] rfl ?_
  refine y_head1 (hi := hi) (hl := hl) (X := X) Z hj hN1 hN hu (fun c ms h5x hl5 X5 x7 P => ?_) 8 0 _ _ _ _ _ _ _ (by omega) rfl (fun z => absurd rfl z) rfl P
  refine w_N 1 109 _ [.int (aI (hdl T n R V j N 8).1)] rfl ?_
  refine w_ri rfl rfl ?_
  exact mq_ P
theorem st_head {B D : Nat} {n ts : Nat} {T : lm_T} {R : Nat → Int32} {KO : ab_K} {V : ab_V} {tl F : Nat → Int32} {s m : Int32} (Z : okZ B D T n R KO V ts tl) (hB : B + 20 < 2000000) : STEP B 107 190 [.int s, .int m] T n R KO V ts tl F := by
  obtain ⟨hT, hO, hV, hts, htl, hDB, hB0, hKO⟩ := id Z
  by_cases hb : (wi s 0 7 && wi m 1 60) = false
  · exact ⟨_, D, _, _, _, _, _, _, _, _, okZ_up Z hB, fun _ _ _ _ _ _ P hC => x_head_b (d := 10) P hb hC, fun _ _ _ _ _ _ P => y_head_b (d := 10) P hb⟩
  · obtain ⟨h1, h2⟩ := and2_t hb
    obtain ⟨j, rfl, hj⟩ := wi_e (n := 7) h1 (by decide)
    obtain ⟨N, rfl, hN1, hN⟩ := wi_e1 (n := 60) h2 (by decide)
    by_cases h0 : lkR (V j).1 (V j).1 = 0
    · have hu := (lkR_0.mp h0).1
      exact ⟨_, D, _, _, _, _, _, _, _, _, okZ_up Z hB, fun _ _ _ _ _ _ P hC => x_head (d := 10) P Z (by omega) hN1 hN hu hC, fun _ _ _ _ _ _ P => y_head (d := 10) P Z (by omega) hN1 hN hu⟩
    · exact ⟨_, D, _, _, _, _, _, _, _, _, okZ_up Z hB, fun _ _ _ _ _ _ P hC => x_head_l (d := 10) P (by omega) hN1 hN h0 hC, fun _ _ _ _ _ _ P => y_head_l (d := 10) P (by omega) hN1 hN h0⟩
