set_option maxRecDepth 16384
/-! calls: gained, can, gain, does, days -/
def cnS (T : lm_T) (hf : Nat) (s : Int32) : Nat → Int32
  | 0 => 0
  | a + 1 => if alw T (a + 1) hf s = true then cnS T hf s a ||| (1 <<< (nI a &&& 31)) else cnS T hf s a
theorem x_gained_b {d : Nat} {hi : Nat → Nat → Int32} {hl : Nat → Nat → Int64} {X : lm_X} {hi0 : Nat → Nat → Int32} {hl0 : Nat → Nat → Int64} {C n ts : Nat} {T : lm_T} {R : Nat → Int32} {KO : ab_K} {V : ab_V} {tl F : Nat → Int32} (P : cP hi0 hl0 hi hl X C T n R KO V ts tl F) {w : Int32}  (hb : (wi w 0 2) = false) (hC : C + 25 < 2147483648) : lm_w (d + 30) 109 [.ref 64, .int w] (hi, hl, X) (cQ hi0 hl0 X (C + 25) (.int (-1000002)) T n R KO V ts tl (rfU F (-2))) := by
  obtain ⟨S, O, H, HR, FO, HV, HT, HF, HK, E0, EL0⟩ := id P
  refine lm_w_in (Nat.le_of_ble_eq_true rfl) ?_
  show lm_wp (d + 30) 109 0 [.ref 64, .int w] [] (hi, hl, X) _
  refine w_N 3 3 [.ref 64, .int w] [.int 2, .int 0, .int w] rfl ?_
  refine w_cc rfl x_within ?_
  show lm_wp _ 109 6 [.ref 64, .int w] [.int (bz (wi w 0 2))] (hi, hl, X) _
  refine w_zne (t := 16) rfl rfl (fun c1 => ?_) (fun c1 => ?_)
  · exact absurd hb (by simp [c1])
  · refine w_N 2 12 [.ref 64, .int w] [.int (-2), .ref 64] rfl ?_
    refine w_ca (w_vst rfl rfl rfl (Nat.le_of_ble_eq_true rfl) (Nat.le_of_ble_eq_true rfl) (A_k S 64 (by decide))) (x_refuseGain P (by unfold isW; decide)) ?_
    rintro _ _ ⟨rfl, hi9, rfl, P9⟩
    show lm_wp _ 109 15 [.ref 64, .int w] [.int (-1000002)] (hi9, hl, X) _
    refine w_ri rfl rfl ?_
    exact cq_ P9 (by omega) hC
theorem y_gained_b {d : Nat} {hi : Nat → Nat → Int32} {hl : Nat → Nat → Int64} {X : lm_X} {hi0 : Nat → Nat → Int32} {hl0 : Nat → Nat → Int64} {X0 : lm_X} {n ts : Nat} {T : lm_T} {R : Nat → Int32} {KO : ab_K} {V : ab_V} {tl F : Nat → Int32} (P : mP hi0 hl0 X0 hi hl X T n R KO V ts tl F) {w : Int32}  (hb : (wi w 0 2) = false) : lm_w (d + 30) 192 [.ref 123, .int w] (hi, hl, X) (mQ hi0 hl0 X0 (.int (-1000002)) T n R KO V ts tl (rfU F (-2))) := by
  obtain ⟨SR, O, H, HR, HV, HT, HF, HK, E0, EL0, EX0⟩ := id P
  have S := SR.1
  refine lm_w_in (Nat.le_of_ble_eq_true rfl) ?_
  show lm_wp (d + 30) 192 0 [.ref 123, .int w] [] (hi, hl, X) _
  refine w_N 4 6 [.ref 123, .int w] [.long 2, .long 0, .long w.toInt64] rfl ?_
  refine w_cc rfl (m_in (x := w) (lo := 0) (up := 2) rfl (by decide) (by decide)) ?_
  show lm_wp _ 192 9 [.ref 123, .int w] [.int (bz (wi w 0 2))] (hi, hl, X) _
  refine w_zne (t := 22) rfl rfl (fun c1 => ?_) (fun c1 => ?_)
  · exact absurd hb (by simp [c1])
  · refine w_N 3 17 [.ref 123, .int w] [.int (-2), .ref 123, .int (-1000000)] rfl ?_
    refine w_ca (w_vst rfl rfl rfl (Nat.le_of_ble_eq_true rfl) (Nat.le_of_ble_eq_true rfl) (M_kd S)) (m_refuse P (by unfold isW; decide)) ?_
    rintro _ _ ⟨rfl, hi9, rfl, P9⟩
    show lm_wp _ 192 20 [.ref 123, .int w] [.int (-2), .int (-1000000)] (hi9, hl, X) _
    refine w_N 1 21 [.ref 123, .int w] [.int (-1000002)] rfl ?_
    refine w_ri rfl rfl ?_
    exact mq_ P9
theorem x_gained0 {d : Nat} {hi : Nat → Nat → Int32} {hl : Nat → Nat → Int64} {X : lm_X} {hi0 : Nat → Nat → Int32} {hl0 : Nat → Nat → Int64} {C n ts : Nat} {T : lm_T} {R : Nat → Int32} {KO : ab_K} {V : ab_V} {tl F : Nat → Int32} (P : cP hi0 hl0 hi hl X C T n R KO V ts tl F) (hC : C + 25 < 2147483648) : lm_w (d + 30) 109 [.ref 64, .int 0] (hi, hl, X) (cQ hi0 hl0 X (C + 25) (.int (R 20)) T n R KO V ts tl F) := by
  obtain ⟨S, O, H, HR, FO, HV, HT, HF, HK, E0, EL0⟩ := id P
  refine lm_w_in (Nat.le_of_ble_eq_true rfl) ?_
  show lm_wp (d + 30) 109 0 [.ref 64, .int 0] [] (hi, hl, X) _
  refine w_N 3 3 [.ref 64, .int 0] [.int 2, .int 0, .int 0] rfl ?_
  refine w_cc rfl (x_within1 (by decide)) ?_
  show lm_wp _ 109 6 [.ref 64, .int 0] [.int 1] (hi, hl, X) _
  refine w_if_ne_t (t := 16) rfl rfl (by decide) ?_
  refine w_N 2 18 [.ref 64, .int 0] [.int 2, .int 0] rfl ?_
  refine w_icmp_ge_f (t := 33) rfl rfl (by decide) ?_
  refine w_N 1 22 [.ref 64, .int 0] [.ref 64] rfl ?_
  refine w_gr 65 rfl rfl rfl (A_k S 64 (by decide)) (A_r S 64 0 (by decide)) ?_
  refine w_gr 74 rfl rfl rfl (T_kd (A_T65 S)) (T_r8 (A_T65 S)) ?_
  refine w_N 1 29 [.ref 64, .int 0] [.int 0, .ref 74] rfl ?_
  refine w_ia 0 (v := R 20) rfl (T_k8 (A_T65 S)) (T_l8 (A_T65 S)) rfl (by decide) (by decide) (HR.2.2.2.2.2.2.1) ?_
  refine w_N 1 52 [.ref 64, .int 0] [.int (R 20)] rfl ?_
  refine w_ri rfl rfl ?_
  exact cq_ P (by omega) hC
theorem y_gained0 {d : Nat} {hi : Nat → Nat → Int32} {hl : Nat → Nat → Int64} {X : lm_X} {hi0 : Nat → Nat → Int32} {hl0 : Nat → Nat → Int64} {X0 : lm_X} {n ts : Nat} {T : lm_T} {R : Nat → Int32} {KO : ab_K} {V : ab_V} {tl F : Nat → Int32} (P : mP hi0 hl0 X0 hi hl X T n R KO V ts tl F) : lm_w (d + 30) 192 [.ref 123, .int 0] (hi, hl, X) (mQ hi0 hl0 X0 (.int (R 20)) T n R KO V ts tl F) := by
  obtain ⟨SR, O, H, HR, HV, HT, HF, HK, E0, EL0, EX0⟩ := id P
  have S := SR.1
  refine lm_w_in (Nat.le_of_ble_eq_true rfl) ?_
  show lm_wp (d + 30) 192 0 [.ref 123, .int 0] [] (hi, hl, X) _
  refine w_N 4 6 [.ref 123, .int 0] [.long 2, .long 0, .long 0] rfl ?_
  refine w_cc rfl (lm_c_1 (m_in (x := 0) (lo := 0) (up := 2) (by decide) (by decide) (by decide)) (by decide)) ?_
  show lm_wp _ 192 9 [.ref 123, .int 0] [.int 1] (hi, hl, X) _
  refine w_if_ne_t (t := 22) rfl rfl (by decide) ?_
  refine w_N 2 24 [.ref 123, .int 0] [.int 2, .int 0] rfl ?_
  refine w_icmp_ne_t (t := 43) rfl rfl (by decide) ?_
  refine w_N 1 44 [.ref 123, .int 0] [.ref 123] rfl ?_
  refine w_gr 156 rfl rfl rfl (M_kd S) (M_r S (k := 17) (o := 33) rfl) ?_
  refine w_N 1 48 [.ref 123, .int 0] [.int 0, .ref 156] rfl ?_
  refine w_ia 0 (v := R 20) rfl (show X.2.1 (156) = 1 from M_k S 33 (by decide)) (show X.2.2.1 (156) = 2 from M_l S 33 (by decide)) rfl (by decide) (by decide) (HR.2.2.2.2.2.2.1) ?_
  refine w_ri rfl rfl ?_
  exact mq_ P
theorem x_gained1 {d : Nat} {hi : Nat → Nat → Int32} {hl : Nat → Nat → Int64} {X : lm_X} {hi0 : Nat → Nat → Int32} {hl0 : Nat → Nat → Int64} {C n ts : Nat} {T : lm_T} {R : Nat → Int32} {KO : ab_K} {V : ab_V} {tl F : Nat → Int32} (P : cP hi0 hl0 hi hl X C T n R KO V ts tl F) (hC : C + 25 < 2147483648) : lm_w (d + 30) 109 [.ref 64, .int 1] (hi, hl, X) (cQ hi0 hl0 X (C + 25) (.int (R 21)) T n R KO V ts tl F) := by
  obtain ⟨S, O, H, HR, FO, HV, HT, HF, HK, E0, EL0⟩ := id P
  refine lm_w_in (Nat.le_of_ble_eq_true rfl) ?_
  show lm_wp (d + 30) 109 0 [.ref 64, .int 1] [] (hi, hl, X) _
  refine w_N 3 3 [.ref 64, .int 1] [.int 2, .int 0, .int 1] rfl ?_
  refine w_cc rfl (x_within1 (by decide)) ?_
  show lm_wp _ 109 6 [.ref 64, .int 1] [.int 1] (hi, hl, X) _
  refine w_if_ne_t (t := 16) rfl rfl (by decide) ?_
  refine w_N 2 18 [.ref 64, .int 1] [.int 2, .int 1] rfl ?_
  refine w_icmp_ge_f (t := 33) rfl rfl (by decide) ?_
  refine w_N 1 22 [.ref 64, .int 1] [.ref 64] rfl ?_
  refine w_gr 65 rfl rfl rfl (A_k S 64 (by decide)) (A_r S 64 0 (by decide)) ?_
  refine w_gr 74 rfl rfl rfl (T_kd (A_T65 S)) (T_r8 (A_T65 S)) ?_
  refine w_N 1 29 [.ref 64, .int 1] [.int 1, .ref 74] rfl ?_
  refine w_ia 1 (v := R 21) rfl (T_k8 (A_T65 S)) (T_l8 (A_T65 S)) rfl (by decide) (by decide) (HR.2.2.2.2.2.2.2) ?_
  refine w_N 1 52 [.ref 64, .int 1] [.int (R 21)] rfl ?_
  refine w_ri rfl rfl ?_
  exact cq_ P (by omega) hC
theorem y_gained1 {d : Nat} {hi : Nat → Nat → Int32} {hl : Nat → Nat → Int64} {X : lm_X} {hi0 : Nat → Nat → Int32} {hl0 : Nat → Nat → Int64} {X0 : lm_X} {n ts : Nat} {T : lm_T} {R : Nat → Int32} {KO : ab_K} {V : ab_V} {tl F : Nat → Int32} (P : mP hi0 hl0 X0 hi hl X T n R KO V ts tl F) : lm_w (d + 30) 192 [.ref 123, .int 1] (hi, hl, X) (mQ hi0 hl0 X0 (.int (R 21)) T n R KO V ts tl F) := by
  obtain ⟨SR, O, H, HR, HV, HT, HF, HK, E0, EL0, EX0⟩ := id P
  have S := SR.1
  refine lm_w_in (Nat.le_of_ble_eq_true rfl) ?_
  show lm_wp (d + 30) 192 0 [.ref 123, .int 1] [] (hi, hl, X) _
  refine w_N 4 6 [.ref 123, .int 1] [.long 2, .long 0, .long 1] rfl ?_
  refine w_cc rfl (lm_c_1 (m_in (x := 1) (lo := 0) (up := 2) (by decide) (by decide) (by decide)) (by decide)) ?_
  show lm_wp _ 192 9 [.ref 123, .int 1] [.int 1] (hi, hl, X) _
  refine w_if_ne_t (t := 22) rfl rfl (by decide) ?_
  refine w_N 2 24 [.ref 123, .int 1] [.int 2, .int 1] rfl ?_
  refine w_icmp_ne_t (t := 43) rfl rfl (by decide) ?_
  refine w_N 1 44 [.ref 123, .int 1] [.ref 123] rfl ?_
  refine w_gr 156 rfl rfl rfl (M_kd S) (M_r S (k := 17) (o := 33) rfl) ?_
  refine w_N 1 48 [.ref 123, .int 1] [.int 1, .ref 156] rfl ?_
  refine w_ia 1 (v := R 21) rfl (show X.2.1 (156) = 1 from M_k S 33 (by decide)) (show X.2.2.1 (156) = 2 from M_l S 33 (by decide)) rfl (by decide) (by decide) (HR.2.2.2.2.2.2.2) ?_
  refine w_ri rfl rfl ?_
  exact mq_ P
theorem x_gained2 {d : Nat} {hi : Nat → Nat → Int32} {hl : Nat → Nat → Int64} {X : lm_X} {hi0 : Nat → Nat → Int32} {hl0 : Nat → Nat → Int64} {C n ts : Nat} {T : lm_T} {R : Nat → Int32} {KO : ab_K} {V : ab_V} {tl F : Nat → Int32} (P : cP hi0 hl0 hi hl X C T n R KO V ts tl F) (hC : C + 25 < 2147483648) : lm_w (d + 30) 109 [.ref 64, .int 2] (hi, hl, X) (cQ hi0 hl0 X (C + 25) (.int (R 20 + R 21)) T n R KO V ts tl F) := by
  obtain ⟨S, O, H, HR, FO, HV, HT, HF, HK, E0, EL0⟩ := id P
  refine lm_w_in (Nat.le_of_ble_eq_true rfl) ?_
  show lm_wp (d + 30) 109 0 [.ref 64, .int 2] [] (hi, hl, X) _
  refine w_N 3 3 [.ref 64, .int 2] [.int 2, .int 0, .int 2] rfl ?_
  refine w_cc rfl (x_within1 (by decide)) ?_
  show lm_wp _ 109 6 [.ref 64, .int 2] [.int 1] (hi, hl, X) _
  refine w_if_ne_t (t := 16) rfl rfl (by decide) ?_
  refine w_N 2 18 [.ref 64, .int 2] [.int 2, .int 2] rfl ?_
  refine w_icmp_ge_t (t := 33) rfl rfl (by decide) ?_
  refine w_N 1 34 [.ref 64, .int 2] [.ref 64] rfl ?_
  refine w_gr 65 rfl rfl rfl (A_k S 64 (by decide)) (A_r S 64 0 (by decide)) ?_
  refine w_gr 74 rfl rfl rfl (T_kd (A_T65 S)) (T_r8 (A_T65 S)) ?_
  refine w_N 1 41 [.ref 64, .int 2] [.int 0, .ref 74] rfl ?_
  refine w_ia 0 (v := R 20) rfl (T_k8 (A_T65 S)) (T_l8 (A_T65 S)) rfl (by decide) (by decide) (HR.2.2.2.2.2.2.1) ?_
  refine w_N 1 43 [.ref 64, .int 2] [.ref 64, .int (R 20)] rfl ?_
  refine w_gr 65 rfl rfl rfl (A_k S 64 (by decide)) (A_r S 64 0 (by decide)) ?_
  refine w_gr 74 rfl rfl rfl (T_kd (A_T65 S)) (T_r8 (A_T65 S)) ?_
  refine w_N 1 50 [.ref 64, .int 2] [.int 1, .ref 74, .int (R 20)] rfl ?_
  refine w_ia 1 (v := R 21) rfl (T_k8 (A_T65 S)) (T_l8 (A_T65 S)) rfl (by decide) (by decide) (HR.2.2.2.2.2.2.2) ?_
  refine w_N 1 52 [.ref 64, .int 2] [.int ((R 20) + (R 21))] rfl ?_
  refine w_ri rfl rfl ?_
  exact cq_ P (by omega) hC
theorem y_gained2 {d : Nat} {hi : Nat → Nat → Int32} {hl : Nat → Nat → Int64} {X : lm_X} {hi0 : Nat → Nat → Int32} {hl0 : Nat → Nat → Int64} {X0 : lm_X} {n ts : Nat} {T : lm_T} {R : Nat → Int32} {KO : ab_K} {V : ab_V} {tl F : Nat → Int32} (P : mP hi0 hl0 X0 hi hl X T n R KO V ts tl F) : lm_w (d + 30) 192 [.ref 123, .int 2] (hi, hl, X) (mQ hi0 hl0 X0 (.int (R 20 + R 21)) T n R KO V ts tl F) := by
  obtain ⟨SR, O, H, HR, HV, HT, HF, HK, E0, EL0, EX0⟩ := id P
  have S := SR.1
  refine lm_w_in (Nat.le_of_ble_eq_true rfl) ?_
  show lm_wp (d + 30) 192 0 [.ref 123, .int 2] [] (hi, hl, X) _
  refine w_N 4 6 [.ref 123, .int 2] [.long 2, .long 0, .long 2] rfl ?_
  refine w_cc rfl (lm_c_1 (m_in (x := 2) (lo := 0) (up := 2) (by decide) (by decide) (by decide)) (by decide)) ?_
  show lm_wp _ 192 9 [.ref 123, .int 2] [.int 1] (hi, hl, X) _
  refine w_if_ne_t (t := 22) rfl rfl (by decide) ?_
  refine w_N 2 24 [.ref 123, .int 2] [.int 2, .int 2] rfl ?_
  refine w_icmp_ne_f (t := 43) rfl rfl (by decide) ?_
  refine w_N 1 28 [.ref 123, .int 2] [.ref 123] rfl ?_
  refine w_gr 156 rfl rfl rfl (M_kd S) (M_r S (k := 17) (o := 33) rfl) ?_
  refine w_N 1 32 [.ref 123, .int 2] [.int 0, .ref 156] rfl ?_
  refine w_ia 0 (v := R 20) rfl (show X.2.1 (156) = 1 from M_k S 33 (by decide)) (show X.2.2.1 (156) = 2 from M_l S 33 (by decide)) rfl (by decide) (by decide) (HR.2.2.2.2.2.2.1) ?_
  refine w_N 1 34 [.ref 123, .int 2] [.ref 123, .int (R 20)] rfl ?_
  refine w_gr 156 rfl rfl rfl (M_kd S) (M_r S (k := 17) (o := 33) rfl) ?_
  refine w_N 1 38 [.ref 123, .int 2] [.int 1, .ref 156, .int (R 20)] rfl ?_
  refine w_ia 1 (v := R 21) rfl (show X.2.1 (156) = 1 from M_k S 33 (by decide)) (show X.2.2.1 (156) = 2 from M_l S 33 (by decide)) rfl (by decide) (by decide) (HR.2.2.2.2.2.2.2) ?_
  refine w_N 2 49 [.ref 123, .int 2] [.int ((R 20) + (R 21))] rfl ?_
  refine w_ri rfl rfl ?_
  exact mq_ P
theorem st_gained {B D : Nat} {n ts : Nat} {T : lm_T} {R : Nat → Int32} {KO : ab_K} {V : ab_V} {tl F : Nat → Int32} {w : Int32} (Z : okZ B D T n R KO V ts tl) (hB : B + 20 < 2000000) : STEP B 109 192 [.int w] T n R KO V ts tl F := by
  obtain ⟨hT, hO, hV, hts, htl, hDB, hB0, hKO⟩ := id Z
  cases hb : wi w 0 2
  · exact ⟨_, D, _, _, _, _, _, _, _, _, okZ_up Z hB, fun _ _ _ _ _ _ P hC => x_gained_b (d := 10) P hb hC, fun _ _ _ _ _ _ P => y_gained_b (d := 10) P hb⟩
  · obtain ⟨w, rfl, hw⟩ := wi_e (n := 2) hb (by decide)
    rcases (by omega : w = 0 ∨ w = 1 ∨ w = 2) with rfl | rfl | rfl
    · exact ⟨_, D, _, _, _, _, _, _, _, _, okZ_up Z hB, fun _ _ _ _ _ _ P hC => x_gained0 (d := 10) P hC, fun _ _ _ _ _ _ P => y_gained0 (d := 10) P⟩
    · exact ⟨_, D, _, _, _, _, _, _, _, _, okZ_up Z hB, fun _ _ _ _ _ _ P hC => x_gained1 (d := 10) P hC, fun _ _ _ _ _ _ P => y_gained1 (d := 10) P⟩
    · exact ⟨_, D, _, _, _, _, _, _, _, _, okZ_up Z hB, fun _ _ _ _ _ _ P hC => x_gained2 (d := 10) P hC, fun _ _ _ _ _ _ P => y_gained2 (d := 10) P⟩
theorem x_can_b {d : Nat} {hi : Nat → Nat → Int32} {hl : Nat → Nat → Int64} {X : lm_X} {hi0 : Nat → Nat → Int32} {hl0 : Nat → Nat → Int64} {C n ts : Nat} {T : lm_T} {R : Nat → Int32} {KO : ab_K} {V : ab_V} {tl F : Nat → Int32} (P : cP hi0 hl0 hi hl X C T n R KO V ts tl F) {hf : Int32}  (hb : (wi hf 0 1) = false) (hC : C + 25 < 2147483648) : lm_w (d + 30) 101 [.ref 64, .int hf] (hi, hl, X) (cQ hi0 hl0 X (C + 25) (.int (-2)) T n R KO V ts tl (rfU F (-2))) := by
  obtain ⟨S, O, H, HR, FO, HV, HT, HF, HK, E0, EL0⟩ := id P
  refine lm_w_in (Nat.le_of_ble_eq_true rfl) ?_
  show lm_wp (d + 30) 101 0 [.ref 64, .int hf, lm_jk, lm_jk] [] (hi, hl, X) _
  refine w_N 1 1 [.ref 64, .int hf, lm_jk, lm_jk] [.int hf] rfl ?_
  refine w_cc rfl x_isHalf ?_
  show lm_wp _ 101 4 [.ref 64, .int hf, lm_jk, lm_jk] [.int (bz (wi hf 0 1))] (hi, hl, X) _
  refine w_zne (t := 14) rfl rfl (fun c1 => ?_) (fun c1 => ?_)
  · exact absurd hb (by simp [c1])
  · refine w_N 2 10 [.ref 64, .int hf, lm_jk, lm_jk] [.int (-2), .ref 64] rfl ?_
    refine w_ca (w_vst rfl rfl rfl (Nat.le_of_ble_eq_true rfl) (Nat.le_of_ble_eq_true rfl) (A_k S 64 (by decide))) (x_refuse P (by unfold isW; decide)) ?_
    rintro _ _ ⟨rfl, hi9, rfl, P9⟩
    show lm_wp _ 101 13 [.ref 64, .int hf, lm_jk, lm_jk] [.int (-2)] (hi9, hl, X) _
    refine w_ri rfl rfl ?_
    exact cq_ P9 (by omega) hC
theorem y_can_b {d : Nat} {hi : Nat → Nat → Int32} {hl : Nat → Nat → Int64} {X : lm_X} {hi0 : Nat → Nat → Int32} {hl0 : Nat → Nat → Int64} {X0 : lm_X} {n ts : Nat} {T : lm_T} {R : Nat → Int32} {KO : ab_K} {V : ab_V} {tl F : Nat → Int32} (P : mP hi0 hl0 X0 hi hl X T n R KO V ts tl F) {hf : Int32}  (hb : (wi hf 0 1) = false) : lm_w (d + 30) 177 [.ref 123, .int hf] (hi, hl, X) (mQ hi0 hl0 X0 (.int (-2)) T n R KO V ts tl (rfU F (-2))) := by
  obtain ⟨SR, O, H, HR, HV, HT, HF, HK, E0, EL0, EX0⟩ := id P
  have S := SR.1
  refine lm_w_in (Nat.le_of_ble_eq_true rfl) ?_
  show lm_wp (d + 30) 177 0 [.ref 123, .int hf, lm_jk, lm_jk] [] (hi, hl, X) _
  refine w_N 4 4 [.ref 123, .int hf, lm_jk, lm_jk] [.long 1, .long 0, .long hf.toInt64] rfl ?_
  refine w_cc rfl (m_in (x := hf) (lo := 0) (up := 1) rfl (by decide) (by decide)) ?_
  show lm_wp _ 177 7 [.ref 123, .int hf, lm_jk, lm_jk] [.int (bz (wi hf 0 1))] (hi, hl, X) _
  refine w_zne (t := 17) rfl rfl (fun c1 => ?_) (fun c1 => ?_)
  · exact absurd hb (by simp [c1])
  · refine w_N 2 13 [.ref 123, .int hf, lm_jk, lm_jk] [.int (-2), .ref 123] rfl ?_
    refine w_ca (w_vst rfl rfl rfl (Nat.le_of_ble_eq_true rfl) (Nat.le_of_ble_eq_true rfl) (M_kd S)) (m_refuse P (by unfold isW; decide)) ?_
    rintro _ _ ⟨rfl, hi9, rfl, P9⟩
    show lm_wp _ 177 16 [.ref 123, .int hf, lm_jk, lm_jk] [.int (-2)] (hi9, hl, X) _
    refine w_ri rfl rfl ?_
    exact mq_ P9
theorem x_can1 {d : Nat} {hi : Nat → Nat → Int32} {hl : Nat → Nat → Int64} {X : lm_X} {n h : Nat} {T : lm_T} {R : Nat → Int32} (S : sh_A X) (H : isT hi 65 T n) (HR : isR hi 65 R) (hh : h < 2) {P : Option Value → lm_H → Prop} (k : ∀ (c : Int32), lm_wp (d + 2) 101 60 [.ref 64, .int (nI h), .int (cnS T h (R 10) n), .int c] [] (hi, hl, X) P) : ∀ (j m : Nat) (sm : Int32) (mk : Int32), m + j = n → (sm = cnS T h (R 10) m) → (mk = nI m) → lm_wp (d + 2) 101 18 [.ref 64, .int (nI h), .int sm, .int mk] [] (hi, hl, X) P := by
  intro j
  induction j with
  | zero =>
    intro m sm mk hm e1 e2
    have hn := isTle H
    refine w_N 2 20 [.ref 64, .int (nI h), .int sm, .int mk] [.ref 64, .int mk] rfl ?_
    refine w_gr 65 rfl rfl rfl (A_k S 64 (by decide)) (A_r S 64 0 (by decide)) ?_
    refine w_gi (v := nI n) rfl rfl rfl (T_kd (A_T65 S)) (isTn H) ?_
    refine w_icmp_ge_t (t := 60) rfl rfl (by rw [e2, show m = n by omega]; exact fun z => Int32.lt_irrefl z) ?_
    obtain rfl : m = n := by omega
    rw [e1]
    exact k _
  | succ j ih =>
    intro m sm mk hm e1 e2
    have hn := isTle H
    refine w_N 2 20 [.ref 64, .int (nI h), .int sm, .int mk] [.ref 64, .int mk] rfl ?_
    refine w_gr 65 rfl rfl rfl (A_k S 64 (by decide)) (A_r S 64 0 (by decide)) ?_
    refine w_gi (v := nI n) rfl rfl rfl (T_kd (A_T65 S)) (isTn H) ?_
    refine w_icmp_ge_f (t := 60) rfl rfl (by rw [e2]; exact nI_lt (by omega) (by omega)) ?_
    refine w_N 1 30 [.ref 64, .int (nI h), .int sm, .int mk] [.ref 64] rfl ?_
    refine w_gr 65 rfl rfl rfl (A_k S 64 (by decide)) (A_r S 64 0 (by decide)) ?_
    refine w_N 3 36 [.ref 64, .int (nI h), .int sm, .int mk] [.ref 64, .int (nI h), .int mk, .ref 65] rfl ?_
    refine w_gr 65 rfl rfl rfl (A_k S 64 (by decide)) (A_r S 64 0 (by decide)) ?_
    refine w_gi (v := R 10) rfl rfl rfl (T_kd (A_T65 S)) (HR.1) ?_
    refine w_cc (w_vst rfl rfl rfl (Nat.le_of_ble_eq_true rfl) (Nat.le_of_ble_eq_true rfl) (T_kd (A_T65 S))) (t_allowsE (i := m + 1) (hf := h) (A_T65 S) H e2 rfl (by omega)) ?_
    show lm_wp _ 101 45 [.ref 64, .int (nI h), .int sm, .int mk] [.int (bz (alw T (m + 1) h (R 10)))] (hi, hl, X) _
    refine w_zeq (t := 54) rfl rfl (fun c1 => ?_) (fun c1 => ?_)
    · refine w_N 2 18 [.ref 64, .int (nI h), .int sm, .int (mk + 1)] [] rfl ?_
      refine ih (m + 1) _ _ (by omega) ?_ (by rw [e2, nI_succ])
      show _ = if alw T (m + 1) h (R 10) = true then cnS T h (R 10) m ||| (1 <<< (nI m &&& 31)) else cnS T h (R 10) m
      rw [c1, if_neg (by decide), e1]
    · refine w_N 8 18 [.ref 64, .int (nI h), .int (sm ||| (1 <<< (mk &&& 31))), .int (mk + 1)] [] rfl ?_
      refine ih (m + 1) _ _ (by omega) ?_ (by rw [e2, nI_succ])
      show _ = if alw T (m + 1) h (R 10) = true then cnS T h (R 10) m ||| (1 <<< (nI m &&& 31)) else cnS T h (R 10) m
      rw [c1, if_pos rfl, e1, e2]
theorem x_can {d : Nat} {hi : Nat → Nat → Int32} {hl : Nat → Nat → Int64} {X : lm_X} {hi0 : Nat → Nat → Int32} {hl0 : Nat → Nat → Int64} {C n ts : Nat} {T : lm_T} {R : Nat → Int32} {KO : ab_K} {V : ab_V} {tl F : Nat → Int32} (P : cP hi0 hl0 hi hl X C T n R KO V ts tl F) {h : Nat} (hh : h < 2) (hC : C + 25 < 2147483648) : lm_w (d + 30) 101 [.ref 64, .int (nI h)] (hi, hl, X) (cQ hi0 hl0 X (C + 25) (.int (cnS T h (R 10) n)) T n R KO V ts tl F) := by
  obtain ⟨S, O, H, HR, FO, HV, HT, HF, HK, E0, EL0⟩ := id P
  refine lm_w_in (Nat.le_of_ble_eq_true rfl) ?_
  show lm_wp (d + 30) 101 0 [.ref 64, .int (nI h), lm_jk, lm_jk] [] (hi, hl, X) _
  refine w_N 1 1 [.ref 64, .int (nI h), lm_jk, lm_jk] [.int (nI h)] rfl ?_
  refine w_cc rfl (x_isHalf1 (wi_t (n := 1) (Nat.le_of_lt_succ hh) (by decide))) ?_
  show lm_wp _ 101 4 [.ref 64, .int (nI h), lm_jk, lm_jk] [.int 1] (hi, hl, X) _
  refine w_if_ne_t (t := 14) rfl rfl (by decide) ?_
  refine w_N 4 18 [.ref 64, .int (nI h), .int 0, .int 0] [] rfl ?_
  refine x_can1 (d := d + 28) S H HR hh (fun c => ?_) n 0 _ _ (by omega) rfl rfl
  refine w_N 1 61 _ [.int (cnS T h (R 10) n)] rfl ?_
  refine w_ri rfl rfl ?_
  exact cq_ P (by omega) hC
theorem y_can1 {d : Nat} {hi : Nat → Nat → Int32} {hl : Nat → Nat → Int64} {X : lm_X} {n h D : Nat} {T : lm_T} {R : Nat → Int32} (S : sh_M X 123) (H : rT hi 123 T n) (HR : rR hi 123 R) (hT : okT T n) (hh : h < 2) {P : Option Value → lm_H → Prop} (k : ∀ (c : Int32), lm_wp (d + 2) 177 54 [.ref 123, .int (nI h), .int (cnS T h (R 10) n), .int c] [] (hi, hl, X) P) : ∀ (j m : Nat) (sm : Int32) (mk : Int32), m + j = n → (sm = cnS T h (R 10) m) → (mk = nI m) → lm_wp (d + 2) 177 21 [.ref 123, .int (nI h), .int sm, .int mk] [] (hi, hl, X) P := by
  intro j
  induction j with
  | zero =>
    intro m sm mk hm e1 e2
    have hn := rTle H
    refine w_N 2 23 [.ref 123, .int (nI h), .int sm, .int mk] [.ref 123, .int mk] rfl ?_
    refine w_gi (v := nI n) rfl rfl rfl (M_kd S) (rTn H) ?_
    refine w_icmp_ge_t (t := 54) rfl rfl (by rw [e2, show m = n by omega]; exact fun z => Int32.lt_irrefl z) ?_
    obtain rfl : m = n := by omega
    rw [e1]
    exact k _
  | succ j ih =>
    intro m sm mk hm e1 e2
    have hn := rTle H
    refine w_N 2 23 [.ref 123, .int (nI h), .int sm, .int mk] [.ref 123, .int mk] rfl ?_
    refine w_gi (v := nI n) rfl rfl rfl (M_kd S) (rTn H) ?_
    refine w_icmp_ge_f (t := 54) rfl rfl (by rw [e2]; exact nI_lt (by omega) (by omega)) ?_
    refine w_N 4 33 [.ref 123, .int (nI h), .int sm, .int mk] [.int (nI h), .int mk, .ref 123, .int sm] rfl ?_
    refine w_cc (w_vst rfl rfl rfl (Nat.le_of_ble_eq_true rfl) (Nat.le_of_ble_eq_true rfl) (M_kd S)) (m_canBeE (a := m) (hf := h) S H HR.1 hT e2 rfl (by omega)) ?_
    show lm_wp _ 177 36 [.ref 123, .int (nI h), .int sm, .int mk] [.int (bz (alw T (m + 1) h (R 10))), .int sm] (hi, hl, X) _
    refine w_zeq (t := 45) rfl rfl (fun c1 => ?_) (fun c1 => ?_)
    · refine w_N 5 21 [.ref 123, .int (nI h), .int (sm ||| 0), .int (mk + 1)] [] rfl ?_
      refine ih (m + 1) _ _ (by omega) ?_ (by rw [e2, nI_succ])
      show _ = if alw T (m + 1) h (R 10) = true then cnS T h (R 10) m ||| (1 <<< (nI m &&& 31)) else cnS T h (R 10) m
      rw [c1, if_neg (by decide), e1, Int32.or_zero]
    · refine w_N 8 21 [.ref 123, .int (nI h), .int (sm ||| (1 <<< (mk &&& 31))), .int (mk + 1)] [] rfl ?_
      refine ih (m + 1) _ _ (by omega) ?_ (by rw [e2, nI_succ])
      show _ = if alw T (m + 1) h (R 10) = true then cnS T h (R 10) m ||| (1 <<< (nI m &&& 31)) else cnS T h (R 10) m
      rw [c1, if_pos rfl, e1, e2]
theorem y_can {d : Nat} {hi : Nat → Nat → Int32} {hl : Nat → Nat → Int64} {X : lm_X} {hi0 : Nat → Nat → Int32} {hl0 : Nat → Nat → Int64} {X0 : lm_X} {n ts : Nat} {T : lm_T} {R : Nat → Int32} {KO : ab_K} {V : ab_V} {tl F : Nat → Int32} (P : mP hi0 hl0 X0 hi hl X T n R KO V ts tl F) {B D : Nat} (Z : okZ B D T n R KO V ts tl) {h : Nat} (hh : h < 2) : lm_w (d + 30) 177 [.ref 123, .int (nI h)] (hi, hl, X) (mQ hi0 hl0 X0 (.int (cnS T h (R 10) n)) T n R KO V ts tl F) := by
  obtain ⟨SR, O, H, HR, HV, HT, HF, HK, E0, EL0, EX0⟩ := id P
  have S := SR.1
  obtain ⟨hT, hO, hV, hts, htl, hDB, hB0, hKO⟩ := id Z
  refine lm_w_in (Nat.le_of_ble_eq_true rfl) ?_
  show lm_wp (d + 30) 177 0 [.ref 123, .int (nI h), lm_jk, lm_jk] [] (hi, hl, X) _
  refine w_N 4 4 [.ref 123, .int (nI h), lm_jk, lm_jk] [.long 1, .long 0, .long ((nI h).toInt64)] rfl ?_
  refine w_cc rfl (lm_c_1 (m_in (x := nI h) (lo := 0) (up := 1) rfl (by decide) (by decide)) (wi_t (n := 1) (Nat.le_of_lt_succ hh) (by decide))) ?_
  show lm_wp _ 177 7 [.ref 123, .int (nI h), lm_jk, lm_jk] [.int 1] (hi, hl, X) _
  refine w_if_ne_t (t := 17) rfl rfl (by decide) ?_
  refine w_N 4 21 [.ref 123, .int (nI h), .int 0, .int 0] [] rfl ?_
  refine y_can1 (d := d + 28) (D := D) S H HR hT hh (fun c => ?_) n 0 _ _ (by omega) rfl rfl
  refine w_N 1 55 _ [.int (cnS T h (R 10) n)] rfl ?_
  refine w_ri rfl rfl ?_
  exact mq_ P
theorem st_can {B D : Nat} {n ts : Nat} {T : lm_T} {R : Nat → Int32} {KO : ab_K} {V : ab_V} {tl F : Nat → Int32} {hf : Int32} (Z : okZ B D T n R KO V ts tl) (hB : B + 20 < 2000000) : STEP B 101 177 [.int hf] T n R KO V ts tl F := by
  obtain ⟨hT, hO, hV, hts, htl, hDB, hB0, hKO⟩ := id Z
  cases hb : wi hf 0 1
  · exact ⟨_, D, _, _, _, _, _, _, _, _, okZ_up Z hB, fun _ _ _ _ _ _ P hC => x_can_b (d := 10) P hb hC, fun _ _ _ _ _ _ P => y_can_b (d := 10) P hb⟩
  · obtain ⟨h, rfl, hh⟩ := wi_e (n := 1) hb (by decide)
    exact ⟨_, D, _, _, _, _, _, _, _, _, okZ_up Z hB, fun _ _ _ _ _ _ P hC => x_can (d := 10) P (by omega) hC, fun _ _ _ _ _ _ P => y_can (d := 10) P Z (by omega)⟩
theorem aon_e {x : Int32} {n : Nat} (hn : n < 2147483648) (h : aon x n = true) : ∃ i, x = aI i ∧ i ≤ n := by
  unfold aon at h
  rw [Bool.or_eq_true] at h
  rcases h with h | h
  · exact ⟨0, of_decide_eq_true h, by omega⟩
  · obtain ⟨j, rfl, hj⟩ := (wi_p hn).mp h
    exact ⟨j + 1, rfl, by omega⟩
theorem aon_t {i n : Nat} (hn : n < 2147483648) (h : i ≤ n) : aon (aI i) n = true := by
  unfold aon
  cases i with
  | zero => rfl
  | succ j => rw [show wi (aI (j + 1)) 0 (nI n - 1) = true from (wi_p hn).mpr ⟨j, rfl, by omega⟩, Bool.or_true]
theorem nI_n1 {a : Nat} (h : a < 2147483648) : ¬ nI a = -1 := fun z => by
  have q := congrArg Int32.toInt z
  rw [nI_ti h] at q
  have e : (-1 : Int32).toInt = -1 := rfl
  omega
theorem x_gain_b {d : Nat} {hi : Nat → Nat → Int32} {hl : Nat → Nat → Int64} {X : lm_X} {hi0 : Nat → Nat → Int32} {hl0 : Nat → Nat → Int64} {C n ts : Nat} {T : lm_T} {R : Nat → Int32} {KO : ab_K} {V : ab_V} {tl F : Nat → Int32} (P : cP hi0 hl0 hi hl X C T n R KO V ts tl F) {x : Int32} (hb : aon x n = false) (hC : C + 25 < 2147483648) : lm_w (d + 30) 103 [.ref 64, .int x] (hi, hl, X) (cQ hi0 hl0 X (C + 25) (.int (-1000002)) T n R KO V ts tl (rfU F (-2))) := by
  obtain ⟨S, O, H, HR, FO, HV, HT, HF, HK, E0, EL0⟩ := id P
  refine lm_w_in (Nat.le_of_ble_eq_true rfl) ?_
  show lm_wp (d + 30) 103 0 [.ref 64, .int x, lm_jk] [] (hi, hl, X) _
  refine w_N 2 2 [.ref 64, .int x, lm_jk] [.int x, .ref 64] rfl ?_
  refine w_cc (w_vst rfl rfl rfl (Nat.le_of_ble_eq_true rfl) (Nat.le_of_ble_eq_true rfl) (A_k S 64 (by decide))) (x_isActOrNone S H) ?_
  show lm_wp _ 103 5 [.ref 64, .int x, lm_jk] [.int (bz (aon x n))] (hi, hl, X) _
  refine w_if_ne_f (t := 15) rfl rfl (c_eqz hb) ?_
  refine w_N 2 11 [.ref 64, .int x, lm_jk] [.int (-2), .ref 64] rfl ?_
  refine w_ca (w_vst rfl rfl rfl (Nat.le_of_ble_eq_true rfl) (Nat.le_of_ble_eq_true rfl) (A_k S 64 (by decide))) (x_refuseGain P (by unfold isW; decide)) ?_
  rintro _ _ ⟨rfl, hi9, rfl, P9⟩
  show lm_wp _ 103 14 [.ref 64, .int x, lm_jk] [.int (-1000002)] (hi9, hl, X) _
  refine w_ri rfl rfl ?_
  exact cq_ P9 (by omega) hC
theorem y_gain_b {d : Nat} {hi : Nat → Nat → Int32} {hl : Nat → Nat → Int64} {X : lm_X} {hi0 : Nat → Nat → Int32} {hl0 : Nat → Nat → Int64} {X0 : lm_X} {n ts : Nat} {T : lm_T} {R : Nat → Int32} {KO : ab_K} {V : ab_V} {tl F : Nat → Int32} (P : mP hi0 hl0 X0 hi hl X T n R KO V ts tl F) {x : Int32} (hb : aon x n = false) : lm_w (d + 30) 180 [.ref 123, .int x] (hi, hl, X) (mQ hi0 hl0 X0 (.int (-1000002)) T n R KO V ts tl (rfU F (-2))) := by
  obtain ⟨SR, O, H, HR, HV, HT, HF, HK, E0, EL0, EX0⟩ := id P
  have S := SR.1
  refine lm_w_in (Nat.le_of_ble_eq_true rfl) ?_
  show lm_wp (d + 30) 180 0 [.ref 123, .int x] [] (hi, hl, X) _
  refine w_N 2 2 [.ref 123, .int x] [.int (-1), .int x] rfl ?_
  refine w_icmp_eq (t := 24) rfl rfl (fun c1 => ?_) (fun c1 => ?_)
  · exact absurd hb (by simp [aon, c1])
  · refine w_N 3 8 [.ref 123, .int x] [.long x.toInt64, .ref 123] rfl ?_
    refine w_cc (w_vst rfl rfl rfl (Nat.le_of_ble_eq_true rfl) (Nat.le_of_ble_eq_true rfl) (M_kd S)) (m_isAct (x := x) S H rfl) ?_
    show lm_wp _ 180 11 [.ref 123, .int x] [.int (bz (wi x 0 (nI n - 1)))] (hi, hl, X) _
    refine w_zne (t := 24) rfl rfl (fun c2 => ?_) (fun c2 => ?_)
    · exact absurd hb (by simp [aon, c1, c2])
    · refine w_N 3 19 [.ref 123, .int x] [.int (-2), .ref 123, .int (-1000000)] rfl ?_
      refine w_ca (w_vst rfl rfl rfl (Nat.le_of_ble_eq_true rfl) (Nat.le_of_ble_eq_true rfl) (M_kd S)) (m_refuse P (by unfold isW; decide)) ?_
      rintro _ _ ⟨rfl, hi9, rfl, P9⟩
      show lm_wp _ 180 22 [.ref 123, .int x] [.int (-2), .int (-1000000)] (hi9, hl, X) _
      refine w_N 1 23 [.ref 123, .int x] [.int (-1000002)] rfl ?_
      refine w_ri rfl rfl ?_
      exact mq_ P9
theorem x_gain_s {d : Nat} {hi : Nat → Nat → Int32} {hl : Nat → Nat → Int64} {X : lm_X} {hi0 : Nat → Nat → Int32} {hl0 : Nat → Nat → Int64} {C n ts : Nat} {T : lm_T} {R : Nat → Int32} {KO : ab_K} {V : ab_V} {tl F : Nat → Int32} (P : cP hi0 hl0 hi hl X C T n R KO V ts tl F) {i : Nat} (hi2 : i ≤ n) (hal : alw T i (awk (R 10)) (R 10) = false) (hC : C + 25 < 2147483648) : lm_w (d + 30) 103 [.ref 64, .int (aI i)] (hi, hl, X) (cQ hi0 hl0 X (C + 25) (.int (-1000005)) T n R KO V ts tl (rfU F (-5))) := by
  obtain ⟨S, O, H, HR, FO, HV, HT, HF, HK, E0, EL0⟩ := id P
  have hn10 := isTle H
  refine lm_w_in (Nat.le_of_ble_eq_true rfl) ?_
  show lm_wp (d + 30) 103 0 [.ref 64, .int (aI i), lm_jk] [] (hi, hl, X) _
  refine w_N 2 2 [.ref 64, .int (aI i), lm_jk] [.int (aI i), .ref 64] rfl ?_
  refine w_cc (w_vst rfl rfl rfl (Nat.le_of_ble_eq_true rfl) (Nat.le_of_ble_eq_true rfl) (A_k S 64 (by decide))) (lm_c_1 (x_isActOrNone S H) (aon_t (by omega) hi2)) ?_
  show lm_wp _ 103 5 [.ref 64, .int (aI i), lm_jk] [.int 1] (hi, hl, X) _
  refine w_if_ne_t (t := 15) rfl rfl (by decide) ?_
  refine w_N 1 16 [.ref 64, .int (aI i), lm_jk] [.ref 64] rfl ?_
  refine w_gr 65 rfl rfl rfl (A_k S 64 (by decide)) (A_r S 64 0 (by decide)) ?_
  refine w_gi (v := R 10) rfl rfl rfl (T_kd (A_T65 S)) (HR.1) ?_
  refine w_cc rfl (c_awkz rfl) ?_
  show lm_wp _ 103 25 [.ref 64, .int (aI i), lm_jk] [.int (nI (awk (R 10)))] (hi, hl, X) _
  refine w_N 2 27 [.ref 64, .int (aI i), .int (nI (awk (R 10)))] [.ref 64] rfl ?_
  refine w_gr 65 rfl rfl rfl (A_k S 64 (by decide)) (A_r S 64 0 (by decide)) ?_
  refine w_N 3 33 [.ref 64, .int (aI i), .int (nI (awk (R 10)))] [.ref 64, .int (nI (awk (R 10))), .int (aI i), .ref 65] rfl ?_
  refine w_gr 65 rfl rfl rfl (A_k S 64 (by decide)) (A_r S 64 0 (by decide)) ?_
  refine w_gi (v := R 10) rfl rfl rfl (T_kd (A_T65 S)) (HR.1) ?_
  refine w_cc (w_vst rfl rfl rfl (Nat.le_of_ble_eq_true rfl) (Nat.le_of_ble_eq_true rfl) (T_kd (A_T65 S))) (t_allowsE (i := i) (hf := awk (R 10)) (A_T65 S) H rfl rfl (by omega)) ?_
  show lm_wp _ 103 42 [.ref 64, .int (aI i), .int (nI (awk (R 10)))] [.int (bz (alw T i (awk (R 10)) (R 10)))] (hi, hl, X) _
  refine w_if_ne_f (t := 52) rfl rfl (c_eqz hal) ?_
  refine w_N 2 48 [.ref 64, .int (aI i), .int (nI (awk (R 10)))] [.int (-5), .ref 64] rfl ?_
  refine w_ca (w_vst rfl rfl rfl (Nat.le_of_ble_eq_true rfl) (Nat.le_of_ble_eq_true rfl) (A_k S 64 (by decide))) (x_refuseGain P (by unfold isW; decide)) ?_
  rintro _ _ ⟨rfl, hi9, rfl, P9⟩
  show lm_wp _ 103 51 [.ref 64, .int (aI i), .int (nI (awk (R 10)))] [.int (-1000005)] (hi9, hl, X) _
  refine w_ri rfl rfl ?_
  exact cq_ P9 (by omega) hC
theorem y_gain_s {d : Nat} {hi : Nat → Nat → Int32} {hl : Nat → Nat → Int64} {X : lm_X} {hi0 : Nat → Nat → Int32} {hl0 : Nat → Nat → Int64} {X0 : lm_X} {n ts : Nat} {T : lm_T} {R : Nat → Int32} {KO : ab_K} {V : ab_V} {tl F : Nat → Int32} (P : mP hi0 hl0 X0 hi hl X T n R KO V ts tl F) {B D : Nat} (Z : okZ B D T n R KO V ts tl) {a : Nat} (ha : a < n) (hal : alw T (a + 1) (awk (R 10)) (R 10) = false) : lm_w (d + 30) 180 [.ref 123, .int (nI a)] (hi, hl, X) (mQ hi0 hl0 X0 (.int (-1000005)) T n R KO V ts tl (rfU F (-5))) := by
  obtain ⟨SR, O, H, HR, HV, HT, HF, HK, E0, EL0, EX0⟩ := id P
  have S := SR.1
  obtain ⟨hT, hO, hV, hts, htl, hDB, hB0, hKO⟩ := id Z
  have hn10 := rTle H
  refine lm_w_in (Nat.le_of_ble_eq_true rfl) ?_
  show lm_wp (d + 30) 180 0 [.ref 123, .int (nI a)] [] (hi, hl, X) _
  refine w_N 2 2 [.ref 123, .int (nI a)] [.int (-1), .int (nI a)] rfl ?_
  refine w_icmp_eq_f (t := 24) rfl rfl (nI_n1 (by omega)) ?_
  refine w_N 3 8 [.ref 123, .int (nI a)] [.long ((nI a).toInt64), .ref 123] rfl ?_
  refine w_cc (w_vst rfl rfl rfl (Nat.le_of_ble_eq_true rfl) (Nat.le_of_ble_eq_true rfl) (M_kd S)) (lm_c_1 (m_isAct (x := nI a) S H rfl) ((wi_p (x := nI a) (n := n) (by omega)).mpr ⟨a, rfl, ha⟩)) ?_
  show lm_wp _ 180 11 [.ref 123, .int (nI a)] [.int 1] (hi, hl, X) _
  refine w_if_ne_t (t := 24) rfl rfl (by decide) ?_
  refine w_N 2 26 [.ref 123, .int (nI a)] [.int (-1), .int (nI a)] rfl ?_
  refine w_icmp_eq_f (t := 55) rfl rfl (nI_n1 (by omega)) ?_
  refine w_N 3 32 [.ref 123, .int (nI a)] [.ref 123, .int (nI a), .ref 123] rfl ?_
  refine w_gi (v := nI D) rfl rfl rfl (M_kd S) (HR.2.2.1.trans hO.2.2.1) ?_
  refine w_N 1 36 [.ref 123, .int (nI a)] [.int 2, .int (nI D), .int (nI a), .ref 123] rfl ?_
  refine w_rem rfl (by decide) ?_
  rw [hrem (s := R 10) hO.2.2.2.1 (by omega)]
  refine w_cc (w_vst rfl rfl rfl (Nat.le_of_ble_eq_true rfl) (Nat.le_of_ble_eq_true rfl) (M_kd S)) (m_canBeE (a := a) (hf := awk (R 10)) S H HR.1 hT rfl rfl ha) ?_
  show lm_wp _ 180 40 [.ref 123, .int (nI a)] [.int (bz (alw T (a + 1) (awk (R 10)) (R 10)))] (hi, hl, X) _
  refine w_if_ne_f (t := 55) rfl rfl (c_eqz hal) ?_
  refine w_N 3 48 [.ref 123, .int (nI a)] [.int (-5), .ref 123, .int (-1000000)] rfl ?_
  refine w_ca (w_vst rfl rfl rfl (Nat.le_of_ble_eq_true rfl) (Nat.le_of_ble_eq_true rfl) (M_kd S)) (m_refuse P (by unfold isW; decide)) ?_
  rintro _ _ ⟨rfl, hi9, rfl, P9⟩
  show lm_wp _ 180 51 [.ref 123, .int (nI a)] [.int (-5), .int (-1000000)] (hi9, hl, X) _
  refine w_N 2 61 [.ref 123, .int (nI a)] [.int (-1000005)] rfl ?_
  refine w_ri rfl rfl ?_
  exact mq_ P9
theorem x_gain {d : Nat} {hi : Nat → Nat → Int32} {hl : Nat → Nat → Int64} {X : lm_X} {hi0 : Nat → Nat → Int32} {hl0 : Nat → Nat → Int64} {C n ts : Nat} {T : lm_T} {R : Nat → Int32} {KO : ab_K} {V : ab_V} {tl F : Nat → Int32} (P : cP hi0 hl0 hi hl X C T n R KO V ts tl F) {i : Nat} (hi2 : i ≤ n) (hal : alw T i (awk (R 10)) (R 10) = true) (hC : C + 25 < 2147483648) : lm_w (d + 30) 103 [.ref 64, .int (aI i)] (hi, hl, X) (cQ hi0 hl0 X (C + 25) (.int (val T (awk (R 10)) (aft T i (R 10)))) T n R KO V ts tl F) := by
  obtain ⟨S, O, H, HR, FO, HV, HT, HF, HK, E0, EL0⟩ := id P
  have hn10 := isTle H
  refine lm_w_in (Nat.le_of_ble_eq_true rfl) ?_
  show lm_wp (d + 30) 103 0 [.ref 64, .int (aI i), lm_jk] [] (hi, hl, X) _
  refine w_N 2 2 [.ref 64, .int (aI i), lm_jk] [.int (aI i), .ref 64] rfl ?_
  refine w_cc (w_vst rfl rfl rfl (Nat.le_of_ble_eq_true rfl) (Nat.le_of_ble_eq_true rfl) (A_k S 64 (by decide))) (lm_c_1 (x_isActOrNone S H) (aon_t (by omega) hi2)) ?_
  show lm_wp _ 103 5 [.ref 64, .int (aI i), lm_jk] [.int 1] (hi, hl, X) _
  refine w_if_ne_t (t := 15) rfl rfl (by decide) ?_
  refine w_N 1 16 [.ref 64, .int (aI i), lm_jk] [.ref 64] rfl ?_
  refine w_gr 65 rfl rfl rfl (A_k S 64 (by decide)) (A_r S 64 0 (by decide)) ?_
  refine w_gi (v := R 10) rfl rfl rfl (T_kd (A_T65 S)) (HR.1) ?_
  refine w_cc rfl (c_awkz rfl) ?_
  show lm_wp _ 103 25 [.ref 64, .int (aI i), lm_jk] [.int (nI (awk (R 10)))] (hi, hl, X) _
  refine w_N 2 27 [.ref 64, .int (aI i), .int (nI (awk (R 10)))] [.ref 64] rfl ?_
  refine w_gr 65 rfl rfl rfl (A_k S 64 (by decide)) (A_r S 64 0 (by decide)) ?_
  refine w_N 3 33 [.ref 64, .int (aI i), .int (nI (awk (R 10)))] [.ref 64, .int (nI (awk (R 10))), .int (aI i), .ref 65] rfl ?_
  refine w_gr 65 rfl rfl rfl (A_k S 64 (by decide)) (A_r S 64 0 (by decide)) ?_
  refine w_gi (v := R 10) rfl rfl rfl (T_kd (A_T65 S)) (HR.1) ?_
  refine w_cc (w_vst rfl rfl rfl (Nat.le_of_ble_eq_true rfl) (Nat.le_of_ble_eq_true rfl) (T_kd (A_T65 S))) (lm_c_1 (t_allowsE (i := i) (hf := awk (R 10)) (A_T65 S) H rfl rfl (by omega)) hal) ?_
  show lm_wp _ 103 42 [.ref 64, .int (aI i), .int (nI (awk (R 10)))] [.int 1] (hi, hl, X) _
  refine w_if_ne_t (t := 52) rfl rfl (by decide) ?_
  refine w_N 1 53 [.ref 64, .int (aI i), .int (nI (awk (R 10)))] [.ref 64] rfl ?_
  refine w_gr 65 rfl rfl rfl (A_k S 64 (by decide)) (A_r S 64 0 (by decide)) ?_
  refine w_N 2 58 [.ref 64, .int (aI i), .int (nI (awk (R 10)))] [.ref 64, .int (nI (awk (R 10))), .ref 65] rfl ?_
  refine w_gr 65 rfl rfl rfl (A_k S 64 (by decide)) (A_r S 64 0 (by decide)) ?_
  refine w_N 2 63 [.ref 64, .int (aI i), .int (nI (awk (R 10)))] [.ref 64, .int (aI i), .ref 65, .int (nI (awk (R 10))), .ref 65] rfl ?_
  refine w_gr 65 rfl rfl rfl (A_k S 64 (by decide)) (A_r S 64 0 (by decide)) ?_
  refine w_gi (v := R 10) rfl rfl rfl (T_kd (A_T65 S)) (HR.1) ?_
  refine w_cc (w_vst rfl rfl rfl (Nat.le_of_ble_eq_true rfl) (Nat.le_of_ble_eq_true rfl) (T_kd (A_T65 S))) (t_afterE (i := i) (A_T65 S) H rfl (by omega)) ?_
  show lm_wp _ 103 72 [.ref 64, .int (aI i), .int (nI (awk (R 10)))] [.int (aft T i (R 10)), .int (nI (awk (R 10))), .ref 65] (hi, hl, X) _
  refine w_cc (w_vst rfl rfl rfl (Nat.le_of_ble_eq_true rfl) (Nat.le_of_ble_eq_true rfl) (T_kd (A_T65 S))) (t_valueToE (hf := awk (R 10)) (A_T65 S) H rfl (awk_lt _)) ?_
  show lm_wp _ 103 75 [.ref 64, .int (aI i), .int (nI (awk (R 10)))] [.int (val T (awk (R 10)) (aft T i (R 10)))] (hi, hl, X) _
  refine w_ri rfl rfl ?_
  exact cq_ P (by omega) hC
theorem y_gain0 {d : Nat} {hi : Nat → Nat → Int32} {hl : Nat → Nat → Int64} {X : lm_X} {hi0 : Nat → Nat → Int32} {hl0 : Nat → Nat → Int64} {X0 : lm_X} {n ts : Nat} {T : lm_T} {R : Nat → Int32} {KO : ab_K} {V : ab_V} {tl F : Nat → Int32} (P : mP hi0 hl0 X0 hi hl X T n R KO V ts tl F) {B D : Nat} (Z : okZ B D T n R KO V ts tl) : lm_w (d + 30) 180 [.ref 123, .int (-1)] (hi, hl, X) (mQ hi0 hl0 X0 (.int (val T (awk (R 10)) (aft T 0 (R 10)))) T n R KO V ts tl F) := by
  obtain ⟨SR, O, H, HR, HV, HT, HF, HK, E0, EL0, EX0⟩ := id P
  have S := SR.1
  obtain ⟨hT, hO, hV, hts, htl, hDB, hB0, hKO⟩ := id Z
  have hn10 := rTle H
  refine lm_w_in (Nat.le_of_ble_eq_true rfl) ?_
  show lm_wp (d + 30) 180 0 [.ref 123, .int (-1)] [] (hi, hl, X) _
  refine w_N 2 2 [.ref 123, .int (-1)] [.int (-1), .int (-1)] rfl ?_
  refine w_icmp_eq_t (t := 24) rfl rfl (by decide) ?_
  refine w_N 2 26 [.ref 123, .int (-1)] [.int (-1), .int (-1)] rfl ?_
  refine w_icmp_eq_t (t := 55) rfl rfl (by decide) ?_
  refine w_N 3 58 [.ref 123, .int (-1)] [.int 0, .int (-1), .ref 123] rfl ?_
  refine w_cc (w_vst rfl rfl rfl (Nat.le_of_ble_eq_true rfl) (Nat.le_of_ble_eq_true rfl) (M_kd S)) (lm_c_v (m_gainBy (d := d + 27) (i := 0) (both := false) S H HR.1 hT (HR.2.2.1.trans hO.2.2.1) hO.2.2.2.1 (by omega) (by omega) rfl) (mtv_0 T (R 10) (0))) ?_
  show lm_wp _ 180 61 [.ref 123, .int (-1)] [.int (val T (awk (R 10)) (aft T (0) (R 10)))] (hi, hl, X) _
  refine w_ri rfl rfl ?_
  exact mq_ P
theorem y_gain1 {d : Nat} {hi : Nat → Nat → Int32} {hl : Nat → Nat → Int64} {X : lm_X} {hi0 : Nat → Nat → Int32} {hl0 : Nat → Nat → Int64} {X0 : lm_X} {n ts : Nat} {T : lm_T} {R : Nat → Int32} {KO : ab_K} {V : ab_V} {tl F : Nat → Int32} (P : mP hi0 hl0 X0 hi hl X T n R KO V ts tl F) {B D : Nat} (Z : okZ B D T n R KO V ts tl) {a : Nat} (ha : a < n) (hal : alw T (a + 1) (awk (R 10)) (R 10) = true) : lm_w (d + 30) 180 [.ref 123, .int (nI a)] (hi, hl, X) (mQ hi0 hl0 X0 (.int (val T (awk (R 10)) (aft T (a + 1) (R 10)))) T n R KO V ts tl F) := by
  obtain ⟨SR, O, H, HR, HV, HT, HF, HK, E0, EL0, EX0⟩ := id P
  have S := SR.1
  obtain ⟨hT, hO, hV, hts, htl, hDB, hB0, hKO⟩ := id Z
  have hn10 := rTle H
  refine lm_w_in (Nat.le_of_ble_eq_true rfl) ?_
  show lm_wp (d + 30) 180 0 [.ref 123, .int (nI a)] [] (hi, hl, X) _
  refine w_N 2 2 [.ref 123, .int (nI a)] [.int (-1), .int (nI a)] rfl ?_
  refine w_icmp_eq_f (t := 24) rfl rfl (nI_n1 (by omega)) ?_
  refine w_N 3 8 [.ref 123, .int (nI a)] [.long ((nI a).toInt64), .ref 123] rfl ?_
  refine w_cc (w_vst rfl rfl rfl (Nat.le_of_ble_eq_true rfl) (Nat.le_of_ble_eq_true rfl) (M_kd S)) (lm_c_1 (m_isAct (x := nI a) S H rfl) ((wi_p (x := nI a) (n := n) (by omega)).mpr ⟨a, rfl, ha⟩)) ?_
  show lm_wp _ 180 11 [.ref 123, .int (nI a)] [.int 1] (hi, hl, X) _
  refine w_if_ne_t (t := 24) rfl rfl (by decide) ?_
  refine w_N 2 26 [.ref 123, .int (nI a)] [.int (-1), .int (nI a)] rfl ?_
  refine w_icmp_eq_f (t := 55) rfl rfl (nI_n1 (by omega)) ?_
  refine w_N 3 32 [.ref 123, .int (nI a)] [.ref 123, .int (nI a), .ref 123] rfl ?_
  refine w_gi (v := nI D) rfl rfl rfl (M_kd S) (HR.2.2.1.trans hO.2.2.1) ?_
  refine w_N 1 36 [.ref 123, .int (nI a)] [.int 2, .int (nI D), .int (nI a), .ref 123] rfl ?_
  refine w_rem rfl (by decide) ?_
  rw [hrem (s := R 10) hO.2.2.2.1 (by omega)]
  refine w_cc (w_vst rfl rfl rfl (Nat.le_of_ble_eq_true rfl) (Nat.le_of_ble_eq_true rfl) (M_kd S)) (lm_c_1 (m_canBeE (a := a) (hf := awk (R 10)) S H HR.1 hT rfl rfl ha) hal) ?_
  show lm_wp _ 180 40 [.ref 123, .int (nI a)] [.int 1] (hi, hl, X) _
  refine w_if_ne_t (t := 55) rfl rfl (by decide) ?_
  refine w_N 3 58 [.ref 123, .int (nI a)] [.int 0, .int (nI a), .ref 123] rfl ?_
  refine w_cc (w_vst rfl rfl rfl (Nat.le_of_ble_eq_true rfl) (Nat.le_of_ble_eq_true rfl) (M_kd S)) (lm_c_v (m_gainBy (d := d + 27) (i := a + 1) (both := false) S H HR.1 hT (HR.2.2.1.trans hO.2.2.1) hO.2.2.2.1 (by omega) (by omega) hal) (mtv_0 T (R 10) (a + 1))) ?_
  show lm_wp _ 180 61 [.ref 123, .int (nI a)] [.int (val T (awk (R 10)) (aft T (a + 1) (R 10)))] (hi, hl, X) _
  refine w_ri rfl rfl ?_
  exact mq_ P
theorem st_gain {B D : Nat} {n ts : Nat} {T : lm_T} {R : Nat → Int32} {KO : ab_K} {V : ab_V} {tl F : Nat → Int32} {x : Int32} (Z : okZ B D T n R KO V ts tl) (hB : B + 20 < 2000000) : STEP B 103 180 [.int x] T n R KO V ts tl F := by
  obtain ⟨hT, hO, hV, hts, htl, hDB, hB0, hKO⟩ := id Z
  by_cases hn : n < 2147483648
  · cases hb : aon x n
    · exact ⟨_, D, _, _, _, _, _, _, _, _, okZ_up Z hB, fun _ _ _ _ _ _ P hC => x_gain_b (d := 10) P hb hC, fun _ _ _ _ _ _ P => y_gain_b (d := 10) P hb⟩
    · obtain ⟨i, rfl, hi2⟩ := aon_e hn hb
      cases i with
      | zero =>
        have hal : alw T 0 (awk (R 10)) (R 10) = true := rfl
        exact ⟨_, D, _, _, _, _, _, _, _, _, okZ_up Z hB, fun _ _ _ _ _ _ P hC => x_gain (d := 10) (i := 0) P (Nat.zero_le n) rfl hC, fun _ _ _ _ _ _ P => y_gain0 (d := 10) P Z⟩
      | succ a =>
        cases hal : alw T (a + 1) (awk (R 10)) (R 10)
        · exact ⟨_, D, _, _, _, _, _, _, _, _, okZ_up Z hB, fun _ _ _ _ _ _ P hC => x_gain_s (d := 10) P hi2 hal hC, fun _ _ _ _ _ _ P => y_gain_s (d := 10) P Z (by omega) hal⟩
        · exact ⟨_, D, _, _, _, _, _, _, _, _, okZ_up Z hB, fun _ _ _ _ _ _ P hC => x_gain (d := 10) P hi2 hal hC, fun _ _ _ _ _ _ P => y_gain1 (d := 10) P Z (by omega) hal⟩
  · exact ⟨0, D, T, n, R, KO, V, ts, tl, F, okZ_up Z hB, fun _ _ _ _ _ _ P hC => absurd (isTle P.2.2.1) (by omega), fun _ _ _ _ _ _ P => absurd (rTle P.2.2.1) (by omega)⟩
theorem x_does_b {d : Nat} {hi : Nat → Nat → Int32} {hl : Nat → Nat → Int64} {X : lm_X} {hi0 : Nat → Nat → Int32} {hl0 : Nat → Nat → Int64} {C n ts : Nat} {T : lm_T} {R : Nat → Int32} {KO : ab_K} {V : ab_V} {tl F : Nat → Int32} (P : cP hi0 hl0 hi hl X C T n R KO V ts tl F) {x : Int32} (hb : aon x n = false) (hC : C + 25 < 2147483648) : lm_w (d + 30) 104 [.ref 64, .int x] (hi, hl, X) (cQ hi0 hl0 X (C + 25) (.int (-2)) T n R KO V ts tl (rfU F (-2))) := by
  obtain ⟨S, O, H, HR, FO, HV, HT, HF, HK, E0, EL0⟩ := id P
  refine lm_w_in (Nat.le_of_ble_eq_true rfl) ?_
  show lm_wp (d + 30) 104 0 [.ref 64, .int x] [] (hi, hl, X) _
  refine w_N 2 2 [.ref 64, .int x] [.int x, .ref 64] rfl ?_
  refine w_cc (w_vst rfl rfl rfl (Nat.le_of_ble_eq_true rfl) (Nat.le_of_ble_eq_true rfl) (A_k S 64 (by decide))) (x_isActOrNone S H) ?_
  show lm_wp _ 104 5 [.ref 64, .int x] [.int (bz (aon x n))] (hi, hl, X) _
  refine w_if_ne_f (t := 15) rfl rfl (c_eqz hb) ?_
  refine w_N 2 11 [.ref 64, .int x] [.int (-2), .ref 64] rfl ?_
  refine w_ca (w_vst rfl rfl rfl (Nat.le_of_ble_eq_true rfl) (Nat.le_of_ble_eq_true rfl) (A_k S 64 (by decide))) (x_refuse P (by unfold isW; decide)) ?_
  rintro _ _ ⟨rfl, hi9, rfl, P9⟩
  show lm_wp _ 104 14 [.ref 64, .int x] [.int (-2)] (hi9, hl, X) _
  refine w_ri rfl rfl ?_
  exact cq_ P9 (by omega) hC
theorem y_does_b {d : Nat} {hi : Nat → Nat → Int32} {hl : Nat → Nat → Int64} {X : lm_X} {hi0 : Nat → Nat → Int32} {hl0 : Nat → Nat → Int64} {X0 : lm_X} {n ts : Nat} {T : lm_T} {R : Nat → Int32} {KO : ab_K} {V : ab_V} {tl F : Nat → Int32} (P : mP hi0 hl0 X0 hi hl X T n R KO V ts tl F) {x : Int32} (hb : aon x n = false) : lm_w (d + 30) 182 [.ref 123, .int x] (hi, hl, X) (mQ hi0 hl0 X0 (.int (-2)) T n R KO V ts tl (rfU F (-2))) := by
  obtain ⟨SR, O, H, HR, HV, HT, HF, HK, E0, EL0, EX0⟩ := id P
  have S := SR.1
  refine lm_w_in (Nat.le_of_ble_eq_true rfl) ?_
  show lm_wp (d + 30) 182 0 [.ref 123, .int x] [] (hi, hl, X) _
  refine w_N 2 2 [.ref 123, .int x] [.int (-1), .int x] rfl ?_
  refine w_icmp_eq (t := 21) rfl rfl (fun c1 => ?_) (fun c1 => ?_)
  · exact absurd hb (by simp [aon, c1])
  · refine w_N 3 8 [.ref 123, .int x] [.long x.toInt64, .ref 123] rfl ?_
    refine w_cc (w_vst rfl rfl rfl (Nat.le_of_ble_eq_true rfl) (Nat.le_of_ble_eq_true rfl) (M_kd S)) (m_isAct (x := x) S H rfl) ?_
    show lm_wp _ 182 11 [.ref 123, .int x] [.int (bz (wi x 0 (nI n - 1)))] (hi, hl, X) _
    refine w_zne (t := 21) rfl rfl (fun c2 => ?_) (fun c2 => ?_)
    · exact absurd hb (by simp [aon, c1, c2])
    · refine w_N 2 17 [.ref 123, .int x] [.int (-2), .ref 123] rfl ?_
      refine w_ca (w_vst rfl rfl rfl (Nat.le_of_ble_eq_true rfl) (Nat.le_of_ble_eq_true rfl) (M_kd S)) (m_refuse P (by unfold isW; decide)) ?_
      rintro _ _ ⟨rfl, hi9, rfl, P9⟩
      show lm_wp _ 182 20 [.ref 123, .int x] [.int (-2)] (hi9, hl, X) _
      refine w_ri rfl rfl ?_
      exact mq_ P9
theorem x_does_s {d : Nat} {hi : Nat → Nat → Int32} {hl : Nat → Nat → Int64} {X : lm_X} {hi0 : Nat → Nat → Int32} {hl0 : Nat → Nat → Int64} {C n ts : Nat} {T : lm_T} {R : Nat → Int32} {KO : ab_K} {V : ab_V} {tl F : Nat → Int32} (P : cP hi0 hl0 hi hl X C T n R KO V ts tl F) {i : Nat} (hi2 : i ≤ n) (hal : alw T i (awk (R 10)) (R 10) = false) (hC : C + 25 < 2147483648) : lm_w (d + 30) 104 [.ref 64, .int (aI i)] (hi, hl, X) (cQ hi0 hl0 X (C + 25) (.int (-5)) T n R KO V ts tl (rfU F (-5))) := by
  obtain ⟨S, O, H, HR, FO, HV, HT, HF, HK, E0, EL0⟩ := id P
  have hn10 := isTle H
  refine lm_w_in (Nat.le_of_ble_eq_true rfl) ?_
  show lm_wp (d + 30) 104 0 [.ref 64, .int (aI i)] [] (hi, hl, X) _
  refine w_N 2 2 [.ref 64, .int (aI i)] [.int (aI i), .ref 64] rfl ?_
  refine w_cc (w_vst rfl rfl rfl (Nat.le_of_ble_eq_true rfl) (Nat.le_of_ble_eq_true rfl) (A_k S 64 (by decide))) (lm_c_1 (x_isActOrNone S H) (aon_t (by omega) hi2)) ?_
  show lm_wp _ 104 5 [.ref 64, .int (aI i)] [.int 1] (hi, hl, X) _
  refine w_if_ne_t (t := 15) rfl rfl (by decide) ?_
  refine w_N 1 16 [.ref 64, .int (aI i)] [.ref 64] rfl ?_
  refine w_gr 65 rfl rfl rfl (A_k S 64 (by decide)) (A_r S 64 0 (by decide)) ?_
  refine w_N 2 21 [.ref 64, .int (aI i)] [.ref 64, .int (aI i), .ref 65] rfl ?_
  refine w_gr 65 rfl rfl rfl (A_k S 64 (by decide)) (A_r S 64 0 (by decide)) ?_
  refine w_gi (v := R 10) rfl rfl rfl (T_kd (A_T65 S)) (HR.1) ?_
  refine w_cc rfl (c_awkz rfl) ?_
  show lm_wp _ 104 30 [.ref 64, .int (aI i)] [.int (nI (awk (R 10))), .int (aI i), .ref 65] (hi, hl, X) _
  refine w_N 1 31 [.ref 64, .int (aI i)] [.ref 64, .int (nI (awk (R 10))), .int (aI i), .ref 65] rfl ?_
  refine w_gr 65 rfl rfl rfl (A_k S 64 (by decide)) (A_r S 64 0 (by decide)) ?_
  refine w_gi (v := R 10) rfl rfl rfl (T_kd (A_T65 S)) (HR.1) ?_
  refine w_cc (w_vst rfl rfl rfl (Nat.le_of_ble_eq_true rfl) (Nat.le_of_ble_eq_true rfl) (T_kd (A_T65 S))) (t_allowsE (i := i) (hf := awk (R 10)) (A_T65 S) H rfl rfl (by omega)) ?_
  show lm_wp _ 104 40 [.ref 64, .int (aI i)] [.int (bz (alw T i (awk (R 10)) (R 10)))] (hi, hl, X) _
  refine w_if_ne_f (t := 50) rfl rfl (c_eqz hal) ?_
  refine w_N 2 46 [.ref 64, .int (aI i)] [.int (-5), .ref 64] rfl ?_
  refine w_ca (w_vst rfl rfl rfl (Nat.le_of_ble_eq_true rfl) (Nat.le_of_ble_eq_true rfl) (A_k S 64 (by decide))) (x_refuse P (by unfold isW; decide)) ?_
  rintro _ _ ⟨rfl, hi9, rfl, P9⟩
  show lm_wp _ 104 49 [.ref 64, .int (aI i)] [.int (-5)] (hi9, hl, X) _
  refine w_ri rfl rfl ?_
  exact cq_ P9 (by omega) hC
theorem y_does_s {d : Nat} {hi : Nat → Nat → Int32} {hl : Nat → Nat → Int64} {X : lm_X} {hi0 : Nat → Nat → Int32} {hl0 : Nat → Nat → Int64} {X0 : lm_X} {n ts : Nat} {T : lm_T} {R : Nat → Int32} {KO : ab_K} {V : ab_V} {tl F : Nat → Int32} (P : mP hi0 hl0 X0 hi hl X T n R KO V ts tl F) {B D : Nat} (Z : okZ B D T n R KO V ts tl) {a : Nat} (ha : a < n) (hal : alw T (a + 1) (awk (R 10)) (R 10) = false) : lm_w (d + 30) 182 [.ref 123, .int (nI a)] (hi, hl, X) (mQ hi0 hl0 X0 (.int (-5)) T n R KO V ts tl (rfU F (-5))) := by
  obtain ⟨SR, O, H, HR, HV, HT, HF, HK, E0, EL0, EX0⟩ := id P
  have S := SR.1
  obtain ⟨hT, hO, hV, hts, htl, hDB, hB0, hKO⟩ := id Z
  have hn10 := rTle H
  refine lm_w_in (Nat.le_of_ble_eq_true rfl) ?_
  show lm_wp (d + 30) 182 0 [.ref 123, .int (nI a)] [] (hi, hl, X) _
  refine w_N 2 2 [.ref 123, .int (nI a)] [.int (-1), .int (nI a)] rfl ?_
  refine w_icmp_eq_f (t := 21) rfl rfl (nI_n1 (by omega)) ?_
  refine w_N 3 8 [.ref 123, .int (nI a)] [.long ((nI a).toInt64), .ref 123] rfl ?_
  refine w_cc (w_vst rfl rfl rfl (Nat.le_of_ble_eq_true rfl) (Nat.le_of_ble_eq_true rfl) (M_kd S)) (lm_c_1 (m_isAct (x := nI a) S H rfl) ((wi_p (x := nI a) (n := n) (by omega)).mpr ⟨a, rfl, ha⟩)) ?_
  show lm_wp _ 182 11 [.ref 123, .int (nI a)] [.int 1] (hi, hl, X) _
  refine w_if_ne_t (t := 21) rfl rfl (by decide) ?_
  refine w_N 2 23 [.ref 123, .int (nI a)] [.int (-1), .int (nI a)] rfl ?_
  refine w_icmp_eq_f (t := 47) rfl rfl (nI_n1 (by omega)) ?_
  refine w_N 3 29 [.ref 123, .int (nI a)] [.ref 123, .int (nI a), .ref 123] rfl ?_
  refine w_gi (v := nI D) rfl rfl rfl (M_kd S) (HR.2.2.1.trans hO.2.2.1) ?_
  refine w_N 1 33 [.ref 123, .int (nI a)] [.int 2, .int (nI D), .int (nI a), .ref 123] rfl ?_
  refine w_rem rfl (by decide) ?_
  rw [hrem (s := R 10) hO.2.2.2.1 (by omega)]
  refine w_cc (w_vst rfl rfl rfl (Nat.le_of_ble_eq_true rfl) (Nat.le_of_ble_eq_true rfl) (M_kd S)) (m_canBeE (a := a) (hf := awk (R 10)) S H HR.1 hT rfl rfl ha) ?_
  show lm_wp _ 182 37 [.ref 123, .int (nI a)] [.int (bz (alw T (a + 1) (awk (R 10)) (R 10)))] (hi, hl, X) _
  refine w_if_ne_f (t := 47) rfl rfl (c_eqz hal) ?_
  refine w_N 2 43 [.ref 123, .int (nI a)] [.int (-5), .ref 123] rfl ?_
  refine w_ca (w_vst rfl rfl rfl (Nat.le_of_ble_eq_true rfl) (Nat.le_of_ble_eq_true rfl) (M_kd S)) (m_refuse P (by unfold isW; decide)) ?_
  rintro _ _ ⟨rfl, hi9, rfl, P9⟩
  show lm_wp _ 182 46 [.ref 123, .int (nI a)] [.int (-5)] (hi9, hl, X) _
  refine w_ri rfl rfl ?_
  exact mq_ P9
theorem x_does {d : Nat} {hi : Nat → Nat → Int32} {hl : Nat → Nat → Int64} {X : lm_X} {hi0 : Nat → Nat → Int32} {hl0 : Nat → Nat → Int64} {C n ts : Nat} {T : lm_T} {R : Nat → Int32} {KO : ab_K} {V : ab_V} {tl F : Nat → Int32} (P : cP hi0 hl0 hi hl X C T n R KO V ts tl F) {i : Nat} (hi2 : i ≤ n) (hal : alw T i (awk (R 10)) (R 10) = true) (hC : C + 25 < 2147483648) : lm_w (d + 30) 104 [.ref 64, .int (aI i)] (hi, hl, X) (cQ hi0 hl0 X (C + 25) (.int (lvR T i R 12)) T n (lvR T i R) KO V ts tl F) := by
  obtain ⟨S, O, H, HR, FO, HV, HT, HF, HK, E0, EL0⟩ := id P
  have hn10 := isTle H
  refine lm_w_in (Nat.le_of_ble_eq_true rfl) ?_
  show lm_wp (d + 30) 104 0 [.ref 64, .int (aI i)] [] (hi, hl, X) _
  refine w_N 2 2 [.ref 64, .int (aI i)] [.int (aI i), .ref 64] rfl ?_
  refine w_cc (w_vst rfl rfl rfl (Nat.le_of_ble_eq_true rfl) (Nat.le_of_ble_eq_true rfl) (A_k S 64 (by decide))) (lm_c_1 (x_isActOrNone S H) (aon_t (by omega) hi2)) ?_
  show lm_wp _ 104 5 [.ref 64, .int (aI i)] [.int 1] (hi, hl, X) _
  refine w_if_ne_t (t := 15) rfl rfl (by decide) ?_
  refine w_N 1 16 [.ref 64, .int (aI i)] [.ref 64] rfl ?_
  refine w_gr 65 rfl rfl rfl (A_k S 64 (by decide)) (A_r S 64 0 (by decide)) ?_
  refine w_N 2 21 [.ref 64, .int (aI i)] [.ref 64, .int (aI i), .ref 65] rfl ?_
  refine w_gr 65 rfl rfl rfl (A_k S 64 (by decide)) (A_r S 64 0 (by decide)) ?_
  refine w_gi (v := R 10) rfl rfl rfl (T_kd (A_T65 S)) (HR.1) ?_
  refine w_cc rfl (c_awkz rfl) ?_
  show lm_wp _ 104 30 [.ref 64, .int (aI i)] [.int (nI (awk (R 10))), .int (aI i), .ref 65] (hi, hl, X) _
  refine w_N 1 31 [.ref 64, .int (aI i)] [.ref 64, .int (nI (awk (R 10))), .int (aI i), .ref 65] rfl ?_
  refine w_gr 65 rfl rfl rfl (A_k S 64 (by decide)) (A_r S 64 0 (by decide)) ?_
  refine w_gi (v := R 10) rfl rfl rfl (T_kd (A_T65 S)) (HR.1) ?_
  refine w_cc (w_vst rfl rfl rfl (Nat.le_of_ble_eq_true rfl) (Nat.le_of_ble_eq_true rfl) (T_kd (A_T65 S))) (lm_c_1 (t_allowsE (i := i) (hf := awk (R 10)) (A_T65 S) H rfl rfl (by omega)) hal) ?_
  show lm_wp _ 104 40 [.ref 64, .int (aI i)] [.int 1] (hi, hl, X) _
  refine w_if_ne_t (t := 50) rfl rfl (by decide) ?_
  refine w_N 1 51 [.ref 64, .int (aI i)] [.ref 64] rfl ?_
  refine w_gr 65 rfl rfl rfl (A_k S 64 (by decide)) (A_r S 64 0 (by decide)) ?_
  refine w_N 1 55 [.ref 64, .int (aI i)] [.int (aI i), .ref 65] rfl ?_
  refine w_ca (w_vst rfl rfl rfl (Nat.le_of_ble_eq_true rfl) (Nat.le_of_ble_eq_true rfl) (T_kd (A_T65 S))) (t_live (d := d + 27) (A_T65 S) H HR (by omega)) ?_
  rintro _ _ ⟨h5x, rfl, rfl, H5, R5, c5, f5⟩
  have P := cP_town P f5 H5 R5 (fok_same f5 c5 FO)
  obtain ⟨S, O, H, HR, FO, HV, HT, HF, HK, E0, EL0⟩ := id P
  show lm_wp _ 104 58 [.ref 64, .int (aI i)] [] (h5x, hl, X) _
  refine w_N 1 59 [.ref 64, .int (aI i)] [.ref 64] rfl ?_
  refine w_gr 65 rfl rfl rfl (A_k S 64 (by decide)) (A_r S 64 0 (by decide)) ?_
  refine w_gi (v := (lvR T i R) 12) rfl rfl rfl (T_kd (A_T65 S)) (HR.2.2.1) ?_
  refine w_ri rfl rfl ?_
  exact cq_ P (by omega) hC
theorem y_does0 {d : Nat} {hi : Nat → Nat → Int32} {hl : Nat → Nat → Int64} {X : lm_X} {hi0 : Nat → Nat → Int32} {hl0 : Nat → Nat → Int64} {X0 : lm_X} {n ts : Nat} {T : lm_T} {R : Nat → Int32} {KO : ab_K} {V : ab_V} {tl F : Nat → Int32} (P : mP hi0 hl0 X0 hi hl X T n R KO V ts tl F) {B D : Nat} (Z : okZ B D T n R KO V ts tl) : lm_w (d + 30) 182 [.ref 123, .int (-1)] (hi, hl, X) (mQ hi0 hl0 X0 (.int (lvR T 0 R 12)) T n (lvR T 0 R) KO V ts tl F) := by
  obtain ⟨SR, O, H, HR, HV, HT, HF, HK, E0, EL0, EX0⟩ := id P
  have S := SR.1
  obtain ⟨hT, hO, hV, hts, htl, hDB, hB0, hKO⟩ := id Z
  have hn10 := rTle H
  refine lm_w_in (Nat.le_of_ble_eq_true rfl) ?_
  show lm_wp (d + 30) 182 0 [.ref 123, .int (-1)] [] (hi, hl, X) _
  refine w_N 2 2 [.ref 123, .int (-1)] [.int (-1), .int (-1)] rfl ?_
  refine w_icmp_eq_t (t := 21) rfl rfl (by decide) ?_
  refine w_N 2 23 [.ref 123, .int (-1)] [.int (-1), .int (-1)] rfl ?_
  refine w_icmp_eq_t (t := 47) rfl rfl (by decide) ?_
  refine w_N 2 49 [.ref 123, .int (-1)] [.int (-1), .ref 123] rfl ?_
  refine w_ca (w_vst rfl rfl rfl (Nat.le_of_ble_eq_true rfl) (Nat.le_of_ble_eq_true rfl) (M_kd S)) (m_goes (d := d + 27) (i := 0) S H HR hT hO (by omega) (by omega) rfl rfl) ?_
  rintro _ _ ⟨h5x, rfl, rfl, H5, R5, A5, B5⟩
  have P := mP_town P ⟨fun a ha => A5 a (by omega) (by omega) (by omega) (by omega), B5 8 (by decide) (by decide) (by decide) (by decide)⟩ H5 R5
  obtain ⟨SR, O, H, HR, HV, HT, HF, HK, E0, EL0, EX0⟩ := id P
  have S := SR.1
  show lm_wp _ 182 52 [.ref 123, .int (-1)] [] (h5x, hl, X) _
  refine w_N 1 53 [.ref 123, .int (-1)] [.ref 123] rfl ?_
  refine w_gi (v := lvR T (0) R 12) rfl rfl rfl (M_kd S) (HR.2.2.1) ?_
  refine w_ri rfl rfl ?_
  exact mq_ P
theorem y_does1 {d : Nat} {hi : Nat → Nat → Int32} {hl : Nat → Nat → Int64} {X : lm_X} {hi0 : Nat → Nat → Int32} {hl0 : Nat → Nat → Int64} {X0 : lm_X} {n ts : Nat} {T : lm_T} {R : Nat → Int32} {KO : ab_K} {V : ab_V} {tl F : Nat → Int32} (P : mP hi0 hl0 X0 hi hl X T n R KO V ts tl F) {B D : Nat} (Z : okZ B D T n R KO V ts tl) {a : Nat} (ha : a < n) (hal : alw T (a + 1) (awk (R 10)) (R 10) = true) : lm_w (d + 30) 182 [.ref 123, .int (nI a)] (hi, hl, X) (mQ hi0 hl0 X0 (.int (lvR T (a + 1) R 12)) T n (lvR T (a + 1) R) KO V ts tl F) := by
  obtain ⟨SR, O, H, HR, HV, HT, HF, HK, E0, EL0, EX0⟩ := id P
  have S := SR.1
  obtain ⟨hT, hO, hV, hts, htl, hDB, hB0, hKO⟩ := id Z
  have hn10 := rTle H
  refine lm_w_in (Nat.le_of_ble_eq_true rfl) ?_
  show lm_wp (d + 30) 182 0 [.ref 123, .int (nI a)] [] (hi, hl, X) _
  refine w_N 2 2 [.ref 123, .int (nI a)] [.int (-1), .int (nI a)] rfl ?_
  refine w_icmp_eq_f (t := 21) rfl rfl (nI_n1 (by omega)) ?_
  refine w_N 3 8 [.ref 123, .int (nI a)] [.long ((nI a).toInt64), .ref 123] rfl ?_
  refine w_cc (w_vst rfl rfl rfl (Nat.le_of_ble_eq_true rfl) (Nat.le_of_ble_eq_true rfl) (M_kd S)) (lm_c_1 (m_isAct (x := nI a) S H rfl) ((wi_p (x := nI a) (n := n) (by omega)).mpr ⟨a, rfl, ha⟩)) ?_
  show lm_wp _ 182 11 [.ref 123, .int (nI a)] [.int 1] (hi, hl, X) _
  refine w_if_ne_t (t := 21) rfl rfl (by decide) ?_
  refine w_N 2 23 [.ref 123, .int (nI a)] [.int (-1), .int (nI a)] rfl ?_
  refine w_icmp_eq_f (t := 47) rfl rfl (nI_n1 (by omega)) ?_
  refine w_N 3 29 [.ref 123, .int (nI a)] [.ref 123, .int (nI a), .ref 123] rfl ?_
  refine w_gi (v := nI D) rfl rfl rfl (M_kd S) (HR.2.2.1.trans hO.2.2.1) ?_
  refine w_N 1 33 [.ref 123, .int (nI a)] [.int 2, .int (nI D), .int (nI a), .ref 123] rfl ?_
  refine w_rem rfl (by decide) ?_
  rw [hrem (s := R 10) hO.2.2.2.1 (by omega)]
  refine w_cc (w_vst rfl rfl rfl (Nat.le_of_ble_eq_true rfl) (Nat.le_of_ble_eq_true rfl) (M_kd S)) (lm_c_1 (m_canBeE (a := a) (hf := awk (R 10)) S H HR.1 hT rfl rfl ha) hal) ?_
  show lm_wp _ 182 37 [.ref 123, .int (nI a)] [.int 1] (hi, hl, X) _
  refine w_if_ne_t (t := 47) rfl rfl (by decide) ?_
  refine w_N 2 49 [.ref 123, .int (nI a)] [.int (nI a), .ref 123] rfl ?_
  refine w_ca (w_vst rfl rfl rfl (Nat.le_of_ble_eq_true rfl) (Nat.le_of_ble_eq_true rfl) (M_kd S)) (m_goes (d := d + 27) (i := a + 1) S H HR hT hO (by omega) (by omega) hal rfl) ?_
  rintro _ _ ⟨h5x, rfl, rfl, H5, R5, A5, B5⟩
  have P := mP_town P ⟨fun a ha => A5 a (by omega) (by omega) (by omega) (by omega), B5 8 (by decide) (by decide) (by decide) (by decide)⟩ H5 R5
  obtain ⟨SR, O, H, HR, HV, HT, HF, HK, E0, EL0, EX0⟩ := id P
  have S := SR.1
  show lm_wp _ 182 52 [.ref 123, .int (nI a)] [] (h5x, hl, X) _
  refine w_N 1 53 [.ref 123, .int (nI a)] [.ref 123] rfl ?_
  refine w_gi (v := lvR T (a + 1) R 12) rfl rfl rfl (M_kd S) (HR.2.2.1) ?_
  refine w_ri rfl rfl ?_
  exact mq_ P
theorem okZ_D {B D D' n ts : Nat} {T : lm_T} {R R' : Nat → Int32} {KO : ab_K} {V : ab_V} {tl : Nat → Int32} (Z : okZ B D T n R KO V ts tl) (hB : B + 20 < 2000000) (hD : D' ≤ D + 20) (h2 : okR R' D') : okZ (B + 20) D' T n R' KO V ts tl := by
  obtain ⟨z1, z2, z3, z4, z5, z6, z7, z8⟩ := Z
  refine ⟨z1, h2, z3, z4, z5, by omega, hB, fun q hq => ?_⟩
  obtain ⟨a, D', b, c⟩ := z8 q hq
  exact ⟨a, D', b, by omega⟩
theorem st_does {B D : Nat} {n ts : Nat} {T : lm_T} {R : Nat → Int32} {KO : ab_K} {V : ab_V} {tl F : Nat → Int32} {x : Int32} (Z : okZ B D T n R KO V ts tl) (hB : B + 20 < 2000000) : STEP B 104 182 [.int x] T n R KO V ts tl F := by
  obtain ⟨hT, hO, hV, hts, htl, hDB, hB0, hKO⟩ := id Z
  by_cases hn : n < 2147483648
  · cases hb : aon x n
    · exact ⟨_, D, _, _, _, _, _, _, _, _, okZ_up Z hB, fun _ _ _ _ _ _ P hC => x_does_b (d := 10) P hb hC, fun _ _ _ _ _ _ P => y_does_b (d := 10) P hb⟩
    · obtain ⟨i, rfl, hi2⟩ := aon_e hn hb
      cases i with
      | zero =>
        have hal : alw T 0 (awk (R 10)) (R 10) = true := rfl
        exact ⟨_, D + 1, _, _, _, _, _, _, _, _, okZ_D (D' := D + 1) Z hB (by omega) (okR_lv hT (Nat.zero_le n) hal hO), fun _ _ _ _ _ _ P hC => x_does (d := 10) (i := 0) P (Nat.zero_le n) rfl hC, fun _ _ _ _ _ _ P => y_does0 (d := 10) P Z⟩
      | succ a =>
        cases hal : alw T (a + 1) (awk (R 10)) (R 10)
        · exact ⟨_, D, _, _, _, _, _, _, _, _, okZ_up Z hB, fun _ _ _ _ _ _ P hC => x_does_s (d := 10) P hi2 hal hC, fun _ _ _ _ _ _ P => y_does_s (d := 10) P Z (by omega) hal⟩
        · exact ⟨_, D + 1, _, _, _, _, _, _, _, _, okZ_D (D' := D + 1) Z hB (by omega) (okR_lv hT hi2 hal hO), fun _ _ _ _ _ _ P hC => x_does (d := 10) P hi2 hal hC, fun _ _ _ _ _ _ P => y_does1 (d := 10) P Z (by omega) hal⟩
  · exact ⟨0, D, T, n, R, KO, V, ts, tl, F, okZ_up Z hB, fun _ _ _ _ _ _ P hC => absurd (isTle P.2.2.1) (by omega), fun _ _ _ _ _ _ P => absurd (rTle P.2.2.1) (by omega)⟩
