set_option maxRecDepth 16384
/-! calls: set, copy, says -/
theorem c_eqz {b : Bool} (h : b = false) : bz b = 0 := by rw [h]; rfl
theorem m_fit {d : Nat} {hi : Nat → Nat → Int32} {hl : Nat → Nat → Int64} {X : lm_X} {k : Nat} {v : Int64} (hk : k ≤ 4) : lm_c d 138 [.int (nI k), .long v] (hi, hl, X) (some (.long (fitV (nI k) v)), (hi, hl, X)) := by
  refine lm_c_of (lm_w_in (Nat.le_of_ble_eq_true rfl) ?_)
  show lm_wp d 138 0 [.int (nI k), .long v, lm_jk] [] (hi, hl, X) _
  refine w_N 1 1 [.int (nI k), .long v, lm_jk] [.int (nI k)] rfl ?_
  refine lm_by (x := nI k) 0 ?_ ?_
  · intro c1
    refine w_ts (t := 32) rfl (by decide) (by rw [c1]; rfl) ?_
    refine w_N 4 36 [.int (nI k), .long v, lm_jk] [.long v.toInt32.toInt8.toInt32.toInt64] rfl ?_
    refine w_rl rfl rfl ?_
    show (some (Value.long v.toInt32.toInt8.toInt32.toInt64), _) = _
    have e : fitV (nI k) v = v.toInt32.toInt8.toInt32.toInt64 := by
      unfold fitV
      rw [if_pos c1]
    rw [e]
  intro c1_0
  refine lm_by (x := nI k) 1 ?_ ?_
  · intro c1
    refine w_ts (t := 37) rfl (by decide) (by rw [c1]; rfl) ?_
    refine w_N 4 41 [.int (nI k), .long v, lm_jk] [.long v.toInt32.toInt16.toInt32.toInt64] rfl ?_
    refine w_rl rfl rfl ?_
    show (some (Value.long v.toInt32.toInt16.toInt32.toInt64), _) = _
    have e : fitV (nI k) v = v.toInt32.toInt16.toInt32.toInt64 := by
      unfold fitV
      rw [if_neg c1_0]
      rw [if_pos c1]
    rw [e]
  intro c1_1
  refine lm_by (x := nI k) 2 ?_ ?_
  · intro c1
    refine w_ts (t := 42) rfl (by decide) (by rw [c1]; rfl) ?_
    refine w_N 3 45 [.int (nI k), .long v, lm_jk] [.long v.toInt32.toInt64] rfl ?_
    refine w_rl rfl rfl ?_
    show (some (Value.long v.toInt32.toInt64), _) = _
    have e : fitV (nI k) v = v.toInt32.toInt64 := by
      unfold fitV
      rw [if_neg c1_0]
      rw [if_neg c1_1]
      rw [if_pos c1]
    rw [e]
  intro c1_2
  refine lm_by (x := nI k) 3 ?_ ?_
  · intro c1
    refine w_ts (t := 46) rfl (by decide) (by rw [c1]; rfl) ?_
    refine w_N 1 47 [.int (nI k), .long v, lm_jk] [.long v] rfl ?_
    refine w_rl rfl rfl ?_
    show (some (Value.long v), _) = _
    have e : fitV (nI k) v = v := by
      rw [c1]; rfl
    rw [e]
  intro c1_3
  refine w_ts (t := 48) rfl (by decide) (congrArg (lm_tg _) (lm_sw_n c1_0 (lm_sw_n c1_1 (lm_sw_n c1_2 (lm_sw_n c1_3 (lm_sw_0)))))) ?_
  refine w_N 3 51 [.int (nI k), .long v, lm_jk] [.int (lg_cmp v 0)] rfl ?_
  refine w_if_eq (t := 58) rfl rfl (fun c2 => ?_) (fun c2 => ?_)
  · refine w_N 1 59 [.int (nI k), .long v, lm_jk] [.long 0] rfl ?_
    refine w_rl rfl rfl ?_
    show (some (Value.long 0), _) = _
    have e4 : nI k = 4 := by
      have : k = 4 := by
        have q := fun c (hc : c < 2147483648) => nI_inj (a := k) (b := c) (by omega) hc
        have q0 : k ≠ 0 := fun z => c1_0 ((q 0 (by decide)).mpr z)
        have q1 : k ≠ 1 := fun z => c1_1 ((q 1 (by decide)).mpr z)
        have q2 : k ≠ 2 := fun z => c1_2 ((q 2 (by decide)).mpr z)
        have q3 : k ≠ 3 := fun z => c1_3 ((q 3 (by decide)).mpr z)
        omega
      rw [this]; rfl
    have e : fitV (nI k) v = 0 := by
      unfold fitV
      rw [if_neg c1_0]
      rw [if_neg c1_1]
      rw [if_neg c1_2]
      rw [if_pos e4, if_pos ((lgc_eq _ _).mp c2)]
    rw [e]
  · refine w_N 2 59 [.int (nI k), .long v, lm_jk] [.long 1] rfl ?_
    refine w_rl rfl rfl ?_
    show (some (Value.long 1), _) = _
    have e4 : nI k = 4 := by
      have : k = 4 := by
        have q := fun c (hc : c < 2147483648) => nI_inj (a := k) (b := c) (by omega) hc
        have q0 : k ≠ 0 := fun z => c1_0 ((q 0 (by decide)).mpr z)
        have q1 : k ≠ 1 := fun z => c1_1 ((q 1 (by decide)).mpr z)
        have q2 : k ≠ 2 := fun z => c1_2 ((q 2 (by decide)).mpr z)
        have q3 : k ≠ 3 := fun z => c1_3 ((q 3 (by decide)).mpr z)
        omega
      rw [this]; rfl
    have e : fitV (nI k) v = 1 := by
      unfold fitV
      rw [if_neg c1_0]
      rw [if_neg c1_1]
      rw [if_neg c1_2]
      rw [if_pos e4, if_neg (fun z => c2 ((lgc_eq _ _).mpr z))]
    rw [e]
theorem x_set_b {d : Nat} {hi : Nat → Nat → Int32} {hl : Nat → Nat → Int64} {X : lm_X} {hi0 : Nat → Nat → Int32} {hl0 : Nat → Nat → Int64} {C n ts : Nat} {T : lm_T} {R : Nat → Int32} {KO : ab_K} {V : ab_V} {tl F : Nat → Int32} (P : cP hi0 hl0 hi hl X C T n R KO V ts tl F) {s i : Int32} {v : Int64} (hb : wi s 0 7 = false) (hC : C + 25 < 2147483648) : lm_w (d + 30) 83 [.ref 64, .int s, .int i, .long v] (hi, hl, X) (cQ hi0 hl0 X (C + 25) (.int (-2)) T n R KO V ts tl (rfU F (-2))) := by
  obtain ⟨S, O, H, HR, FO, HV, HT, HF, HK, E0, EL0⟩ := id P
  refine lm_w_in (Nat.le_of_ble_eq_true rfl) ?_
  show lm_wp (d + 30) 83 0 [.ref 64, .int s, .int i, .long v, lm_jk, lm_jk] [] (hi, hl, X) _
  refine w_N 1 1 [.ref 64, .int s, .int i, .long v, lm_jk, lm_jk] [.int s] rfl ?_
  refine w_cc rfl x_isShelf ?_
  show lm_wp _ 83 4 [.ref 64, .int s, .int i, .long v, lm_jk, lm_jk] [.int (bz (wi s 0 7))] (hi, hl, X) _
  refine w_zne (t := 14) rfl rfl (fun c1 => ?_) (fun c1 => ?_)
  · exact absurd hb (by simp [c1])
  · refine w_N 2 10 [.ref 64, .int s, .int i, .long v, lm_jk, lm_jk] [.int (-2), .ref 64] rfl ?_
    refine w_ca (w_vst rfl rfl rfl (Nat.le_of_ble_eq_true rfl) (Nat.le_of_ble_eq_true rfl) (A_k S 64 (by decide))) (x_refuse P (by unfold isW; decide)) ?_
    rintro _ _ ⟨rfl, hi9, rfl, P9⟩
    show lm_wp _ 83 13 [.ref 64, .int s, .int i, .long v, lm_jk, lm_jk] [.int (-2)] (hi9, hl, X) _
    refine w_ri rfl rfl ?_
    exact cq_ P9 (by omega) hC
theorem y_set_b {d : Nat} {hi : Nat → Nat → Int32} {hl : Nat → Nat → Int64} {X : lm_X} {hi0 : Nat → Nat → Int32} {hl0 : Nat → Nat → Int64} {X0 : lm_X} {n ts : Nat} {T : lm_T} {R : Nat → Int32} {KO : ab_K} {V : ab_V} {tl F : Nat → Int32} (P : mP hi0 hl0 X0 hi hl X T n R KO V ts tl F) {s i : Int32} {v : Int64} (hb : wi s 0 7 = false) : lm_w (d + 30) 142 [.ref 123, .int s, .int i, .long v] (hi, hl, X) (mQ hi0 hl0 X0 (.int (-2)) T n R KO V ts tl (rfU F (-2))) := by
  obtain ⟨SR, O, H, HR, HV, HT, HF, HK, E0, EL0, EX0⟩ := id P
  have S := SR.1
  refine lm_w_in (Nat.le_of_ble_eq_true rfl) ?_
  show lm_wp (d + 30) 142 0 [.ref 123, .int s, .int i, .long v, lm_jk, lm_jk] [] (hi, hl, X) _
  refine w_N 2 2 [.ref 123, .int s, .int i, .long v, lm_jk, lm_jk] [.int s, .ref 123] rfl ?_
  refine w_ca (w_vst rfl rfl rfl (Nat.le_of_ble_eq_true rfl) (Nat.le_of_ble_eq_true rfl) (M_kd S)) (m_noRow_b P hb) ?_
  rintro _ _ ⟨rfl, hi9, rfl, P9⟩
  show lm_wp _ 142 5 [.ref 123, .int s, .int i, .long v, lm_jk, lm_jk] [.int (-2)] (hi9, hl, X) _
  refine w_N 2 9 [.ref 123, .int s, .int i, .long v, lm_jk, .int (-2)] [.int (-2)] rfl ?_
  refine w_if_eq_f (t := 15) rfl rfl (by decide) ?_
  refine w_N 1 14 [.ref 123, .int s, .int i, .long v, lm_jk, .int (-2)] [.int (-2)] rfl ?_
  refine w_ri rfl rfl ?_
  exact mq_ P9
theorem x_set_l {d : Nat} {hi : Nat → Nat → Int32} {hl : Nat → Nat → Int64} {X : lm_X} {hi0 : Nat → Nat → Int32} {hl0 : Nat → Nat → Int64} {C n ts : Nat} {T : lm_T} {R : Nat → Int32} {KO : ab_K} {V : ab_V} {tl F : Nat → Int32} (P : cP hi0 hl0 hi hl X C T n R KO V ts tl F) {j : Nat} {i : Int32} {v : Int64} (hj : j < 8) (hz : (V j).2.1 ≤ 40) (h0 : ¬ lkW (V j).1 (V j).2.1 0 = 0) (hC : C + 25 < 2147483648) : lm_w (d + 30) 83 [.ref 64, .int (nI j), .int i, .long v] (hi, hl, X) (cQ hi0 hl0 X (C + 25) (.int (lkW (V j).1 (V j).2.1 0)) T n R KO V ts tl (rfU F (lkW (V j).1 (V j).2.1 0))) := by
  obtain ⟨S, O, H, HR, FO, HV, HT, HF, HK, E0, EL0⟩ := id P
  refine lm_w_in (Nat.le_of_ble_eq_true rfl) ?_
  show lm_wp (d + 30) 83 0 [.ref 64, .int (nI j), .int i, .long v, lm_jk, lm_jk] [] (hi, hl, X) _
  refine w_N 1 1 [.ref 64, .int (nI j), .int i, .long v, lm_jk, lm_jk] [.int (nI j)] rfl ?_
  refine w_cc rfl (x_isShelf1 (wi_t (n := 7) (Nat.le_of_lt_succ hj) (by decide))) ?_
  show lm_wp _ 83 4 [.ref 64, .int (nI j), .int i, .long v, lm_jk, lm_jk] [.int 1] (hi, hl, X) _
  refine w_if_ne_t (t := 14) rfl rfl (by decide) ?_
  refine w_N 3 17 [.ref 64, .int (nI j), .int i, .long v, lm_jk, lm_jk] [.int 0, .int (nI j), .ref 64] rfl ?_
  refine w_cc (w_vst rfl rfl rfl (Nat.le_of_ble_eq_true rfl) (Nat.le_of_ble_eq_true rfl) (A_k S 64 (by decide))) (x_lackRow P hj) ?_
  show lm_wp _ 83 20 [.ref 64, .int (nI j), .int i, .long v, lm_jk, lm_jk] [.int (lkW (V j).1 (V j).2.1 0)] (hi, hl, X) _
  refine w_N 2 24 [.ref 64, .int (nI j), .int i, .long v, lm_jk, .int (lkW (V j).1 (V j).2.1 0)] [.int (lkW (V j).1 (V j).2.1 0)] rfl ?_
  refine w_if_eq_f (t := 34) rfl rfl h0 ?_
  refine w_N 2 30 [.ref 64, .int (nI j), .int i, .long v, lm_jk, .int (lkW (V j).1 (V j).2.1 0)] [.int (lkW (V j).1 (V j).2.1 0), .ref 64] rfl ?_
  refine w_ca (w_vst rfl rfl rfl (Nat.le_of_ble_eq_true rfl) (Nat.le_of_ble_eq_true rfl) (A_k S 64 (by decide))) (x_refuse P (lkW_W h0)) ?_
  rintro _ _ ⟨rfl, hi9, rfl, P9⟩
  show lm_wp _ 83 33 [.ref 64, .int (nI j), .int i, .long v, lm_jk, .int (lkW (V j).1 (V j).2.1 0)] [.int (lkW (V j).1 (V j).2.1 0)] (hi9, hl, X) _
  refine w_ri rfl rfl ?_
  exact cq_ P9 (by omega) hC
theorem y_set_l {d : Nat} {hi : Nat → Nat → Int32} {hl : Nat → Nat → Int64} {X : lm_X} {hi0 : Nat → Nat → Int32} {hl0 : Nat → Nat → Int64} {X0 : lm_X} {n ts : Nat} {T : lm_T} {R : Nat → Int32} {KO : ab_K} {V : ab_V} {tl F : Nat → Int32} (P : mP hi0 hl0 X0 hi hl X T n R KO V ts tl F) {j : Nat} {i : Int32} {v : Int64} (hj : j < 8) (hz : (V j).2.1 ≤ 40) (h0 : ¬ lkW (V j).1 (V j).2.1 0 = 0) : lm_w (d + 30) 142 [.ref 123, .int (nI j), .int i, .long v] (hi, hl, X) (mQ hi0 hl0 X0 (.int (lkW (V j).1 (V j).2.1 0)) T n R KO V ts tl (rfU F (lkW (V j).1 (V j).2.1 0))) := by
  obtain ⟨SR, O, H, HR, HV, HT, HF, HK, E0, EL0, EX0⟩ := id P
  have S := SR.1
  refine lm_w_in (Nat.le_of_ble_eq_true rfl) ?_
  show lm_wp (d + 30) 142 0 [.ref 123, .int (nI j), .int i, .long v, lm_jk, lm_jk] [] (hi, hl, X) _
  refine w_N 2 2 [.ref 123, .int (nI j), .int i, .long v, lm_jk, lm_jk] [.int (nI j), .ref 123] rfl ?_
  refine w_ca (w_vst rfl rfl rfl (Nat.le_of_ble_eq_true rfl) (Nat.le_of_ble_eq_true rfl) (M_kd S)) (m_noRow_1 P hj hz h0) ?_
  rintro _ _ ⟨rfl, hi9, rfl, P9⟩
  show lm_wp _ 142 5 [.ref 123, .int (nI j), .int i, .long v, lm_jk, lm_jk] [.int (lkW (V j).1 (V j).2.1 0)] (hi9, hl, X) _
  refine w_N 2 9 [.ref 123, .int (nI j), .int i, .long v, lm_jk, .int (lkW (V j).1 (V j).2.1 0)] [.int (lkW (V j).1 (V j).2.1 0)] rfl ?_
  refine w_if_eq_f (t := 15) rfl rfl h0 ?_
  refine w_N 1 14 [.ref 123, .int (nI j), .int i, .long v, lm_jk, .int (lkW (V j).1 (V j).2.1 0)] [.int (lkW (V j).1 (V j).2.1 0)] rfl ?_
  refine w_ri rfl rfl ?_
  exact mq_ P9
theorem x_set_c {d : Nat} {hi : Nat → Nat → Int32} {hl : Nat → Nat → Int64} {X : lm_X} {hi0 : Nat → Nat → Int32} {hl0 : Nat → Nat → Int64} {C n ts : Nat} {T : lm_T} {R : Nat → Int32} {KO : ab_K} {V : ab_V} {tl F : Nat → Int32} (P : cP hi0 hl0 hi hl X C T n R KO V ts tl F) {j : Nat} {i : Int32} {v : Int64} (hj : j < 8) (hz : (V j).2.1 ≤ 40) (h0 : lkW (V j).1 (V j).2.1 0 = 0) (hb : hsC i (V j).2.1 = false) (hC : C + 25 < 2147483648) : lm_w (d + 30) 83 [.ref 64, .int (nI j), .int i, .long v] (hi, hl, X) (cQ hi0 hl0 X (C + 25) (.int (-2)) T n R KO V ts tl (rfU F (-2))) := by
  obtain ⟨S, O, H, HR, FO, HV, HT, HF, HK, E0, EL0⟩ := id P
  refine lm_w_in (Nat.le_of_ble_eq_true rfl) ?_
  show lm_wp (d + 30) 83 0 [.ref 64, .int (nI j), .int i, .long v, lm_jk, lm_jk] [] (hi, hl, X) _
  refine w_N 1 1 [.ref 64, .int (nI j), .int i, .long v, lm_jk, lm_jk] [.int (nI j)] rfl ?_
  refine w_cc rfl (x_isShelf1 (wi_t (n := 7) (Nat.le_of_lt_succ hj) (by decide))) ?_
  show lm_wp _ 83 4 [.ref 64, .int (nI j), .int i, .long v, lm_jk, lm_jk] [.int 1] (hi, hl, X) _
  refine w_if_ne_t (t := 14) rfl rfl (by decide) ?_
  refine w_N 3 17 [.ref 64, .int (nI j), .int i, .long v, lm_jk, lm_jk] [.int 0, .int (nI j), .ref 64] rfl ?_
  refine w_cc (w_vst rfl rfl rfl (Nat.le_of_ble_eq_true rfl) (Nat.le_of_ble_eq_true rfl) (A_k S 64 (by decide))) (lm_c_v (x_lackRow P hj) h0) ?_
  show lm_wp _ 83 20 [.ref 64, .int (nI j), .int i, .long v, lm_jk, lm_jk] [.int 0] (hi, hl, X) _
  refine w_N 2 24 [.ref 64, .int (nI j), .int i, .long v, lm_jk, .int 0] [.int 0] rfl ?_
  refine w_if_eq_t (t := 34) rfl rfl (by decide) ?_
  refine w_N 1 35 [.ref 64, .int (nI j), .int i, .long v, lm_jk, .int 0] [.ref 64] rfl ?_
  refine w_gr 97 rfl rfl rfl (A_k S 64 (by decide)) (A_r S 64 5 (by decide)) ?_
  refine w_N 1 39 [.ref 64, .int (nI j), .int i, .long v, lm_jk, .int 0] [.int (nI j), .ref 97] rfl ?_
  refine w_aa j (107 + 2 * j) rfl ⟨by rw [A_k S 97 (by decide)]; decide, by rw [A_k S 97 (by decide)]; decide⟩ (show X.2.2.1 97 = 8 from A_l S 97 (by decide)) rfl hj (by decide) (A_sv S hj) ?_
  refine w_N 1 41 [.ref 64, .int (nI j), .int i, .long v, lm_jk, .int 0] [.int i, .ref (107 + 2 * j)] rfl ?_
  refine w_cc (w_vst rfl rfl rfl (Nat.le_of_ble_eq_true rfl) (Nat.le_of_ble_eq_true rfl) (Sf_kd (A_Sf S hj))) (s_hasCell (A_Sf S hj) ((HV j hj).2.1)) ?_
  show lm_wp _ 83 44 [.ref 64, .int (nI j), .int i, .long v, lm_jk, .int 0] [.int (bz (hsC i (V j).2.1))] (hi, hl, X) _
  refine w_if_ne_f (t := 54) rfl rfl (c_eqz hb) ?_
  refine w_N 2 50 [.ref 64, .int (nI j), .int i, .long v, lm_jk, .int 0] [.int (-2), .ref 64] rfl ?_
  refine w_ca (w_vst rfl rfl rfl (Nat.le_of_ble_eq_true rfl) (Nat.le_of_ble_eq_true rfl) (A_k S 64 (by decide))) (x_refuse P (by unfold isW; decide)) ?_
  rintro _ _ ⟨rfl, hi9, rfl, P9⟩
  show lm_wp _ 83 53 [.ref 64, .int (nI j), .int i, .long v, lm_jk, .int 0] [.int (-2)] (hi9, hl, X) _
  refine w_ri rfl rfl ?_
  exact cq_ P9 (by omega) hC
theorem y_set_c {d : Nat} {hi : Nat → Nat → Int32} {hl : Nat → Nat → Int64} {X : lm_X} {hi0 : Nat → Nat → Int32} {hl0 : Nat → Nat → Int64} {X0 : lm_X} {n ts : Nat} {T : lm_T} {R : Nat → Int32} {KO : ab_K} {V : ab_V} {tl F : Nat → Int32} (P : mP hi0 hl0 X0 hi hl X T n R KO V ts tl F) {j : Nat} {i : Int32} {v : Int64} (hj : j < 8) (hz : (V j).2.1 ≤ 40) (h0 : lkW (V j).1 (V j).2.1 0 = 0) (hb : hsC i (V j).2.1 = false) : lm_w (d + 30) 142 [.ref 123, .int (nI j), .int i, .long v] (hi, hl, X) (mQ hi0 hl0 X0 (.int (-2)) T n R KO V ts tl (rfU F (-2))) := by
  obtain ⟨SR, O, H, HR, HV, HT, HF, HK, E0, EL0, EX0⟩ := id P
  have S := SR.1
  refine lm_w_in (Nat.le_of_ble_eq_true rfl) ?_
  show lm_wp (d + 30) 142 0 [.ref 123, .int (nI j), .int i, .long v, lm_jk, lm_jk] [] (hi, hl, X) _
  refine w_N 2 2 [.ref 123, .int (nI j), .int i, .long v, lm_jk, lm_jk] [.int (nI j), .ref 123] rfl ?_
  refine w_cc (w_vst rfl rfl rfl (Nat.le_of_ble_eq_true rfl) (Nat.le_of_ble_eq_true rfl) (M_kd S)) (m_noRow_0 P hj h0) ?_
  show lm_wp _ 142 5 [.ref 123, .int (nI j), .int i, .long v, lm_jk, lm_jk] [.int 0] (hi, hl, X) _
  refine w_N 2 9 [.ref 123, .int (nI j), .int i, .long v, lm_jk, .int 0] [.int 0] rfl ?_
  refine w_if_eq_t (t := 15) rfl rfl (by decide) ?_
  refine w_N 4 19 [.ref 123, .int (nI j), .int i, .long v, lm_jk, .int 0] [.ref 123, .long 0, .long i.toInt64] rfl ?_
  refine w_gr 126 rfl rfl rfl (M_kd S) (M_r S (k := 2) (o := 3) rfl) ?_
  refine w_N 1 23 [.ref 123, .int (nI j), .int i, .long v, lm_jk, .int 0] [.int (nI j), .ref 126, .long 0, .long i.toInt64] rfl ?_
  refine w_ia j (v := nI (V j).2.1) rfl (show X.2.1 (126) = 1 from M_k S 3 (by decide)) (show X.2.2.1 (126) = 8 from M_l S 3 (by decide)) rfl hj (by decide) ((HV j hj).2.2.1) ?_
  refine w_N 3 27 [.ref 123, .int (nI j), .int i, .long v, lm_jk, .int 0] [.long (((nI (V j).2.1) - 1).toInt64), .long 0, .long i.toInt64] rfl ?_
  refine w_cc rfl (m_in (x := i) (lo := 0) (up := (nI (V j).2.1) - 1) rfl (by decide) rfl) ?_
  show lm_wp _ 142 30 [.ref 123, .int (nI j), .int i, .long v, lm_jk, .int 0] [.int (bz (wi i 0 ((nI (V j).2.1) - 1)))] (hi, hl, X) _
  refine w_if_ne_f (t := 40) rfl rfl (c_eqz (by rw [hsC_wi hz]; exact hb)) ?_
  refine w_N 2 36 [.ref 123, .int (nI j), .int i, .long v, lm_jk, .int 0] [.int (-2), .ref 123] rfl ?_
  refine w_ca (w_vst rfl rfl rfl (Nat.le_of_ble_eq_true rfl) (Nat.le_of_ble_eq_true rfl) (M_kd S)) (m_refuse P (by unfold isW; decide)) ?_
  rintro _ _ ⟨rfl, hi9, rfl, P9⟩
  show lm_wp _ 142 39 [.ref 123, .int (nI j), .int i, .long v, lm_jk, .int 0] [.int (-2)] (hi9, hl, X) _
  refine w_ri rfl rfl ?_
  exact mq_ P9
theorem x_set {d : Nat} {hi : Nat → Nat → Int32} {hl : Nat → Nat → Int64} {X : lm_X} {hi0 : Nat → Nat → Int32} {hl0 : Nat → Nat → Int64} {C n ts : Nat} {T : lm_T} {R : Nat → Int32} {KO : ab_K} {V : ab_V} {tl F : Nat → Int32} (P : cP hi0 hl0 hi hl X C T n R KO V ts tl F) {j i k : Nat} {v : Int64} (hj : j < 8) (hz : (V j).2.1 ≤ 40) (hi2 : i < (V j).2.1) (hk4 : k ≤ 4) (hc : (V j).1 = nI k) (hC : C + 25 < 2147483648) : lm_w (d + 30) 83 [.ref 64, .int (nI j), .int (nI i), .long v] (hi, hl, X) (cQ hi0 hl0 X (C + 25) (.int 1) T n R KO (lm_u1 V j ((V j).1, (V j).2.1, (V j).2.2.1, lm_u1 (V j).2.2.2 i (fitV (V j).1 v))) ts tl F) := by
  obtain ⟨S, O, H, HR, FO, HV, HT, HF, HK, E0, EL0⟩ := id P
  have hw : wi (V j).1 0 4 = true := by rw [hc]; exact wi_t (n := 4) hk4 (by decide)
  have h0 : lkW (V j).1 (V j).2.1 0 = 0 := lkW_0.mpr ⟨hw, nI_pos (by omega)⟩
  have hh : hsC (nI i) (V j).2.1 = true := by rw [← hsC_wi hz]; exact (wi_p (by omega)).mpr ⟨i, rfl, hi2⟩
  refine lm_w_in (Nat.le_of_ble_eq_true rfl) ?_
  show lm_wp (d + 30) 83 0 [.ref 64, .int (nI j), .int (nI i), .long v, lm_jk, lm_jk] [] (hi, hl, X) _
  refine w_N 1 1 [.ref 64, .int (nI j), .int (nI i), .long v, lm_jk, lm_jk] [.int (nI j)] rfl ?_
  refine w_cc rfl (x_isShelf1 (wi_t (n := 7) (Nat.le_of_lt_succ hj) (by decide))) ?_
  show lm_wp _ 83 4 [.ref 64, .int (nI j), .int (nI i), .long v, lm_jk, lm_jk] [.int 1] (hi, hl, X) _
  refine w_if_ne_t (t := 14) rfl rfl (by decide) ?_
  refine w_N 3 17 [.ref 64, .int (nI j), .int (nI i), .long v, lm_jk, lm_jk] [.int 0, .int (nI j), .ref 64] rfl ?_
  refine w_cc (w_vst rfl rfl rfl (Nat.le_of_ble_eq_true rfl) (Nat.le_of_ble_eq_true rfl) (A_k S 64 (by decide))) (lm_c_v (x_lackRow P hj) h0) ?_
  show lm_wp _ 83 20 [.ref 64, .int (nI j), .int (nI i), .long v, lm_jk, lm_jk] [.int 0] (hi, hl, X) _
  refine w_N 2 24 [.ref 64, .int (nI j), .int (nI i), .long v, lm_jk, .int 0] [.int 0] rfl ?_
  refine w_if_eq_t (t := 34) rfl rfl (by decide) ?_
  refine w_N 1 35 [.ref 64, .int (nI j), .int (nI i), .long v, lm_jk, .int 0] [.ref 64] rfl ?_
  refine w_gr 97 rfl rfl rfl (A_k S 64 (by decide)) (A_r S 64 5 (by decide)) ?_
  refine w_N 1 39 [.ref 64, .int (nI j), .int (nI i), .long v, lm_jk, .int 0] [.int (nI j), .ref 97] rfl ?_
  refine w_aa j (107 + 2 * j) rfl ⟨by rw [A_k S 97 (by decide)]; decide, by rw [A_k S 97 (by decide)]; decide⟩ (show X.2.2.1 97 = 8 from A_l S 97 (by decide)) rfl hj (by decide) (A_sv S hj) ?_
  refine w_N 1 41 [.ref 64, .int (nI j), .int (nI i), .long v, lm_jk, .int 0] [.int (nI i), .ref (107 + 2 * j)] rfl ?_
  refine w_cc (w_vst rfl rfl rfl (Nat.le_of_ble_eq_true rfl) (Nat.le_of_ble_eq_true rfl) (Sf_kd (A_Sf S hj))) (lm_c_1 (s_hasCell (A_Sf S hj) ((HV j hj).2.1)) (hh)) ?_
  show lm_wp _ 83 44 [.ref 64, .int (nI j), .int (nI i), .long v, lm_jk, .int 0] [.int 1] (hi, hl, X) _
  refine w_if_ne_t (t := 54) rfl rfl (by decide) ?_
  refine w_N 1 55 [.ref 64, .int (nI j), .int (nI i), .long v, lm_jk, .int 0] [.ref 64] rfl ?_
  refine w_gr 97 rfl rfl rfl (A_k S 64 (by decide)) (A_r S 64 5 (by decide)) ?_
  refine w_N 1 59 [.ref 64, .int (nI j), .int (nI i), .long v, lm_jk, .int 0] [.int (nI j), .ref 97] rfl ?_
  refine w_aa j (107 + 2 * j) rfl ⟨by rw [A_k S 97 (by decide)]; decide, by rw [A_k S 97 (by decide)]; decide⟩ (show X.2.2.1 97 = 8 from A_l S 97 (by decide)) rfl hj (by decide) (A_sv S hj) ?_
  refine w_N 2 62 [.ref 64, .int (nI j), .int (nI i), .long v, lm_jk, .int 0] [.long v, .int (nI i), .ref (107 + 2 * j)] rfl ?_
  refine w_cc (w_vst rfl rfl rfl (Nat.le_of_ble_eq_true rfl) (Nat.le_of_ble_eq_true rfl) (Sf_kd (A_Sf S hj))) (s_put (A_Sf S hj) (HV j hj).1 (by omega)) ?_
  show lm_wp _ 83 65 [.ref 64, .int (nI j), .int (nI i), .long v, lm_jk, .int 0] [] (hi, lm_up hl (107 + 2 * j + 1) i (fitV (V j).1 v), X) _
  refine w_N 1 66 [.ref 64, .int (nI j), .int (nI i), .long v, lm_jk, .int 0] [.int 1] rfl ?_
  refine w_ri rfl rfl ?_
  exact cq_ (cP_shelf hj P (fun b hb => rfl) (fun b hb => lm_up_rw hb) (HV j hj).1 (HV j hj).2.1 (HV j hj).2.2.1 (fun x hx => by unfold lm_up lm_u1; rw [if_pos rfl]; by_cases q : x = i; rw [if_pos q, if_pos q]; rw [if_neg q, if_neg q]; exact (HV j hj).2.2.2 x hx)) (by omega) hC
theorem y_set {d : Nat} {hi : Nat → Nat → Int32} {hl : Nat → Nat → Int64} {X : lm_X} {hi0 : Nat → Nat → Int32} {hl0 : Nat → Nat → Int64} {X0 : lm_X} {n ts : Nat} {T : lm_T} {R : Nat → Int32} {KO : ab_K} {V : ab_V} {tl F : Nat → Int32} (P : mP hi0 hl0 X0 hi hl X T n R KO V ts tl F) {j i k : Nat} {v : Int64} (hj : j < 8) (hz : (V j).2.1 ≤ 40) (hi2 : i < (V j).2.1) (hk4 : k ≤ 4) (hc : (V j).1 = nI k) : lm_w (d + 30) 142 [.ref 123, .int (nI j), .int (nI i), .long v] (hi, hl, X) (mQ hi0 hl0 X0 (.int 1) T n R KO (lm_u1 V j ((V j).1, (V j).2.1, (V j).2.2.1, lm_u1 (V j).2.2.2 i (fitV (V j).1 v))) ts tl F) := by
  obtain ⟨SR, O, H, HR, HV, HT, HF, HK, E0, EL0, EX0⟩ := id P
  have S := SR.1
  have hw : wi (V j).1 0 4 = true := by rw [hc]; exact wi_t (n := 4) hk4 (by decide)
  have h0 : lkW (V j).1 (V j).2.1 0 = 0 := lkW_0.mpr ⟨hw, nI_pos (by omega)⟩
  refine lm_w_in (Nat.le_of_ble_eq_true rfl) ?_
  show lm_wp (d + 30) 142 0 [.ref 123, .int (nI j), .int (nI i), .long v, lm_jk, lm_jk] [] (hi, hl, X) _
  refine w_N 2 2 [.ref 123, .int (nI j), .int (nI i), .long v, lm_jk, lm_jk] [.int (nI j), .ref 123] rfl ?_
  refine w_cc (w_vst rfl rfl rfl (Nat.le_of_ble_eq_true rfl) (Nat.le_of_ble_eq_true rfl) (M_kd S)) (m_noRow_0 P hj h0) ?_
  show lm_wp _ 142 5 [.ref 123, .int (nI j), .int (nI i), .long v, lm_jk, lm_jk] [.int 0] (hi, hl, X) _
  refine w_N 2 9 [.ref 123, .int (nI j), .int (nI i), .long v, lm_jk, .int 0] [.int 0] rfl ?_
  refine w_if_eq_t (t := 15) rfl rfl (by decide) ?_
  refine w_N 4 19 [.ref 123, .int (nI j), .int (nI i), .long v, lm_jk, .int 0] [.ref 123, .long 0, .long ((nI i).toInt64)] rfl ?_
  refine w_gr 126 rfl rfl rfl (M_kd S) (M_r S (k := 2) (o := 3) rfl) ?_
  refine w_N 1 23 [.ref 123, .int (nI j), .int (nI i), .long v, lm_jk, .int 0] [.int (nI j), .ref 126, .long 0, .long ((nI i).toInt64)] rfl ?_
  refine w_ia j (v := nI (V j).2.1) rfl (show X.2.1 (126) = 1 from M_k S 3 (by decide)) (show X.2.2.1 (126) = 8 from M_l S 3 (by decide)) rfl hj (by decide) ((HV j hj).2.2.1) ?_
  refine w_N 3 27 [.ref 123, .int (nI j), .int (nI i), .long v, lm_jk, .int 0] [.long (((nI (V j).2.1) - 1).toInt64), .long 0, .long ((nI i).toInt64)] rfl ?_
  refine w_cc rfl (lm_c_1 (m_in (x := nI i) (lo := 0) (up := (nI (V j).2.1) - 1) rfl (by decide) rfl) ((wi_p (x := nI i) (n := (V j).2.1) (by omega)).mpr ⟨i, rfl, hi2⟩)) ?_
  show lm_wp _ 142 30 [.ref 123, .int (nI j), .int (nI i), .long v, lm_jk, .int 0] [.int 1] (hi, hl, X) _
  refine w_if_ne_t (t := 40) rfl rfl (by decide) ?_
  refine w_N 1 41 [.ref 123, .int (nI j), .int (nI i), .long v, lm_jk, .int 0] [.ref 123] rfl ?_
  refine w_gr 127 rfl rfl rfl (M_kd S) (M_r S (k := 3) (o := 4) rfl) ?_
  refine w_N 1 45 [.ref 123, .int (nI j), .int (nI i), .long v, lm_jk, .int 0] [.int (nI j), .ref 127] rfl ?_
  refine w_aa j (123 + (5 + j)) rfl (M_kk S (o := 4) (by decide)) (show X.2.2.1 (127) = 8 from M_l S 4 (by decide)) rfl hj (by decide) (M_ror S hj) ?_
  refine w_N 2 48 [.ref 123, .int (nI j), .int (nI i), .long v, lm_jk, .int 0] [.ref 123, .int (nI i), .ref (123 + (5 + j))] rfl ?_
  refine w_gr 125 rfl rfl rfl (M_kd S) (M_r S (k := 1) (o := 2) rfl) ?_
  refine w_N 1 52 [.ref 123, .int (nI j), .int (nI i), .long v, lm_jk, .int 0] [.int (nI j), .ref 125, .int (nI i), .ref (123 + (5 + j))] rfl ?_
  refine w_ia j (v := (V j).1) rfl (show X.2.1 (125) = 1 from M_k S 2 (by decide)) (show X.2.2.1 (125) = 8 from M_l S 2 (by decide)) rfl hj (by decide) ((HV j hj).2.1 hw) ?_
  refine w_N 1 54 [.ref 123, .int (nI j), .int (nI i), .long v, lm_jk, .int 0] [.long v, .int ((V j).1), .int (nI i), .ref (123 + (5 + j))] rfl ?_
  rw [hc]
  refine w_cc rfl (m_fit hk4) ?_
  show lm_wp _ 142 57 [.ref 123, .int (nI j), .int (nI i), .long v, lm_jk, .int 0] [.long (fitV (nI k) v), .int (nI i), .ref (123 + (5 + j))] (hi, hl, X) _
  refine w_ls i rfl (M_rok S hj) (Nat.le_trans (M_64 S) (Nat.le_add_right _ _)) (M_rol S hj) rfl (by omega) (by decide) ?_
  refine w_N 1 59 [.ref 123, .int (nI j), .int (nI i), .long v, lm_jk, .int 0] [.int 1] rfl ?_
  refine w_ri rfl rfl ?_
  rw [← hc]
  exact mq_ (mP_shelf hj P (fun b _ _ _ _ _ => rfl) (fun b _ _ => rfl) (fun b hb _ => lm_up_rw hb) (HV j hj).1 (HV j hj).2.1 (HV j hj).2.2.1 (HV j hj).2.2.2.1 (HV j hj).2.2.2.2.1 (fun x hx => by unfold lm_up lm_u1; rw [if_pos rfl]; by_cases q : x = i; rw [if_pos q, if_pos q]; rw [if_neg q, if_neg q]; exact (HV j hj).2.2.2.2.2 x hx))
theorem st_set {B D : Nat} {n ts : Nat} {T : lm_T} {R : Nat → Int32} {KO : ab_K} {V : ab_V} {tl F : Nat → Int32} {s i : Int32} {v : Int64} (Z : okZ B D T n R KO V ts tl) (hB : B + 20 < 2000000) : STEP B 83 142 [.int s, .int i, .long v] T n R KO V ts tl F := by
  obtain ⟨hT, hO, hV, hts, htl, hDB, hB0, hKO⟩ := id Z
  cases hb : wi s 0 7
  · exact ⟨_, D, _, _, _, _, _, _, _, _, okZ_up Z hB, fun _ _ _ _ _ _ P hC => x_set_b (d := 10) P hb hC, fun _ _ _ _ _ _ P => y_set_b (d := 10) P hb⟩
  · obtain ⟨j, rfl, hj⟩ := wi_e (n := 7) hb (by decide)
    obtain ⟨v1, v2, v3⟩ := hV j (by omega)
    by_cases h0 : lkW (V j).1 (V j).2.1 0 = 0
    · cases h1 : hsC i (V j).2.1
      · exact ⟨_, D, _, _, _, _, _, _, _, _, okZ_up Z hB, fun _ _ _ _ _ _ P hC => x_set_c (d := 10) P (by omega) v2 h0 h1 hC, fun _ _ _ _ _ _ P => y_set_c (d := 10) P (by omega) v2 h0 h1⟩
      · rw [← hsC_wi v2] at h1
        obtain ⟨i, rfl, h3⟩ := (wi_p (by omega)).mp h1
        obtain ⟨k, hk, hc⟩ := (okC_row v1).mp (lkW_0.mp h0).1
        exact ⟨_, D, _, _, _, _, _, _, _, _, okZ_V Z hB (okV_u hV v1 v2 v3), fun _ _ _ _ _ _ P hC => x_set (d := 10) P (by omega) v2 h3 hk hc hC, fun _ _ _ _ _ _ P => y_set (d := 10) P (by omega) v2 h3 hk hc⟩
    · exact ⟨_, D, _, _, _, _, _, _, _, _, okZ_up Z hB, fun _ _ _ _ _ _ P hC => x_set_l (d := 10) P (by omega) v2 h0 hC, fun _ _ _ _ _ _ P => y_set_l (d := 10) P (by omega) v2 h0⟩
theorem x_copy_b {d : Nat} {hi : Nat → Nat → Int32} {hl : Nat → Nat → Int64} {X : lm_X} {hi0 : Nat → Nat → Int32} {hl0 : Nat → Nat → Int64} {C n ts : Nat} {T : lm_T} {R : Nat → Int32} {KO : ab_K} {V : ab_V} {tl F : Nat → Int32} (P : cP hi0 hl0 hi hl X C T n R KO V ts tl F) {p q i i2 m : Int32}  (hb : (wi p 0 7 && wi q 0 7) = false) (hC : C + 25 < 2147483648) : lm_w (d + 30) 84 [.ref 64, .int p, .int q, .int i, .int i2, .int m] (hi, hl, X) (cQ hi0 hl0 X (C + 25) (.int (-2)) T n R KO V ts tl (rfU F (-2))) := by
  obtain ⟨S, O, H, HR, FO, HV, HT, HF, HK, E0, EL0⟩ := id P
  refine lm_w_in (Nat.le_of_ble_eq_true rfl) ?_
  show lm_wp (d + 30) 84 0 [.ref 64, .int p, .int q, .int i, .int i2, .int m, lm_jk, lm_jk, lm_jk] [] (hi, hl, X) _
  refine w_N 1 1 [.ref 64, .int p, .int q, .int i, .int i2, .int m, lm_jk, lm_jk, lm_jk] [.int p] rfl ?_
  refine w_cc rfl x_isShelf ?_
  show lm_wp _ 84 4 [.ref 64, .int p, .int q, .int i, .int i2, .int m, lm_jk, lm_jk, lm_jk] [.int (bz (wi p 0 7))] (hi, hl, X) _
  refine w_zeq (t := 14) rfl rfl (fun c1 => ?_) (fun c1 => ?_)
  · refine w_N 2 17 [.ref 64, .int p, .int q, .int i, .int i2, .int m, lm_jk, lm_jk, lm_jk] [.int (-2), .ref 64] rfl ?_
    refine w_ca (w_vst rfl rfl rfl (Nat.le_of_ble_eq_true rfl) (Nat.le_of_ble_eq_true rfl) (A_k S 64 (by decide))) (x_refuse P (by unfold isW; decide)) ?_
    rintro _ _ ⟨rfl, hi9, rfl, P9⟩
    show lm_wp _ 84 20 [.ref 64, .int p, .int q, .int i, .int i2, .int m, lm_jk, lm_jk, lm_jk] [.int (-2)] (hi9, hl, X) _
    refine w_ri rfl rfl ?_
    exact cq_ P9 (by omega) hC
  · refine w_N 1 8 [.ref 64, .int p, .int q, .int i, .int i2, .int m, lm_jk, lm_jk, lm_jk] [.int q] rfl ?_
    refine w_cc rfl x_isShelf ?_
    show lm_wp _ 84 11 [.ref 64, .int p, .int q, .int i, .int i2, .int m, lm_jk, lm_jk, lm_jk] [.int (bz (wi q 0 7))] (hi, hl, X) _
    refine w_zne (t := 21) rfl rfl (fun c2 => ?_) (fun c2 => ?_)
    · exact absurd hb (by simp [c1, c2])
    · refine w_N 2 17 [.ref 64, .int p, .int q, .int i, .int i2, .int m, lm_jk, lm_jk, lm_jk] [.int (-2), .ref 64] rfl ?_
      refine w_ca (w_vst rfl rfl rfl (Nat.le_of_ble_eq_true rfl) (Nat.le_of_ble_eq_true rfl) (A_k S 64 (by decide))) (x_refuse P (by unfold isW; decide)) ?_
      rintro _ _ ⟨rfl, hi9, rfl, P9⟩
      show lm_wp _ 84 20 [.ref 64, .int p, .int q, .int i, .int i2, .int m, lm_jk, lm_jk, lm_jk] [.int (-2)] (hi9, hl, X) _
      refine w_ri rfl rfl ?_
      exact cq_ P9 (by omega) hC
theorem y_copy_b {d : Nat} {hi : Nat → Nat → Int32} {hl : Nat → Nat → Int64} {X : lm_X} {hi0 : Nat → Nat → Int32} {hl0 : Nat → Nat → Int64} {X0 : lm_X} {n ts : Nat} {T : lm_T} {R : Nat → Int32} {KO : ab_K} {V : ab_V} {tl F : Nat → Int32} (P : mP hi0 hl0 X0 hi hl X T n R KO V ts tl F) {p q i i2 m : Int32}  (hb : (wi p 0 7 && wi q 0 7) = false) : lm_w (d + 30) 143 [.ref 123, .int p, .int q, .int i, .int i2, .int m] (hi, hl, X) (mQ hi0 hl0 X0 (.int (-2)) T n R KO V ts tl (rfU F (-2))) := by
  obtain ⟨SR, O, H, HR, HV, HT, HF, HK, E0, EL0, EX0⟩ := id P
  have S := SR.1
  refine lm_w_in (Nat.le_of_ble_eq_true rfl) ?_
  show lm_wp (d + 30) 143 0 [.ref 123, .int p, .int q, .int i, .int i2, .int m, lm_jk] [] (hi, hl, X) _
  refine w_N 4 6 [.ref 123, .int p, .int q, .int i, .int i2, .int m, lm_jk] [.long 7, .long 0, .long p.toInt64] rfl ?_
  refine w_cc rfl (m_in (x := p) (lo := 0) (up := 7) rfl (by decide) (by decide)) ?_
  show lm_wp _ 143 9 [.ref 123, .int p, .int q, .int i, .int i2, .int m, lm_jk] [.int (bz (wi p 0 7))] (hi, hl, X) _
  refine w_zeq (t := 24) rfl rfl (fun c1 => ?_) (fun c1 => ?_)
  · refine w_N 2 27 [.ref 123, .int p, .int q, .int i, .int i2, .int m, lm_jk] [.int (-2), .ref 123] rfl ?_
    refine w_ca (w_vst rfl rfl rfl (Nat.le_of_ble_eq_true rfl) (Nat.le_of_ble_eq_true rfl) (M_kd S)) (m_refuse P (by unfold isW; decide)) ?_
    rintro _ _ ⟨rfl, hi9, rfl, P9⟩
    show lm_wp _ 143 30 [.ref 123, .int p, .int q, .int i, .int i2, .int m, lm_jk] [.int (-2)] (hi9, hl, X) _
    refine w_ri rfl rfl ?_
    exact mq_ P9
  · refine w_N 4 18 [.ref 123, .int p, .int q, .int i, .int i2, .int m, lm_jk] [.long 7, .long 0, .long q.toInt64] rfl ?_
    refine w_cc rfl (m_in (x := q) (lo := 0) (up := 7) rfl (by decide) (by decide)) ?_
    show lm_wp _ 143 21 [.ref 123, .int p, .int q, .int i, .int i2, .int m, lm_jk] [.int (bz (wi q 0 7))] (hi, hl, X) _
    refine w_zne (t := 31) rfl rfl (fun c2 => ?_) (fun c2 => ?_)
    · exact absurd hb (by simp [c1, c2])
    · refine w_N 2 27 [.ref 123, .int p, .int q, .int i, .int i2, .int m, lm_jk] [.int (-2), .ref 123] rfl ?_
      refine w_ca (w_vst rfl rfl rfl (Nat.le_of_ble_eq_true rfl) (Nat.le_of_ble_eq_true rfl) (M_kd S)) (m_refuse P (by unfold isW; decide)) ?_
      rintro _ _ ⟨rfl, hi9, rfl, P9⟩
      show lm_wp _ 143 30 [.ref 123, .int p, .int q, .int i, .int i2, .int m, lm_jk] [.int (-2)] (hi9, hl, X) _
      refine w_ri rfl rfl ?_
      exact mq_ P9
def cpK (c e : Int32) : Int32 := if shK c = 2 then -3 else if shK e = 2 then -3 else if shK c = 1 ∧ shK e = 1 ∧ ¬ c = e then -3 else if shK c = 0 then -4 else if shK e = 0 then -4 else 0
theorem cpK_x {c e : Int32} : cpK c e = if 10 < c then -3 else if 10 < e then -3 else if wi c 0 4 = true ∧ wi e 0 4 = true ∧ ¬ c = e then -3 else if wi c 0 4 = false then -4 else if wi e 0 4 = false then -4 else 0 := by
  unfold cpK shK
  by_cases h1 : wi c 0 4 = true
  · by_cases h2 : wi e 0 4 = true
    · simp [h1, h2, row_not h1, row_not h2]
    · by_cases h3 : 10 < e <;> simp [h1, h2, h3, row_not h1]
  · by_cases h2 : wi e 0 4 = true
    · by_cases h3 : 10 < c <;> simp [h1, h2, h3, row_not h2]
    · by_cases h3 : 10 < e <;> by_cases h4 : 10 < c <;> simp [h1, h2, h3, h4]
theorem shK_or (c : Int32) : shK c = 0 ∨ shK c = 1 ∨ shK c = 2 := by
  unfold shK
  split
  · exact Or.inr (Or.inl rfl)
  · split
    · exact Or.inr (Or.inr rfl)
    · exact Or.inl rfl
theorem cpK_W {c e : Int32} (h : ¬ cpK c e = 0) : isW (cpK c e) := by
  unfold cpK isW at *
  split at h <;> rename_i h1
  · rw [if_pos h1]; decide
  · rw [if_neg h1]
    split at h <;> rename_i h2
    · rw [if_pos h2]; decide
    · rw [if_neg h2]
      split at h <;> rename_i h3
      · rw [if_pos h3]; decide
      · rw [if_neg h3]
        split at h <;> rename_i h4
        · rw [if_pos h4]; decide
        · rw [if_neg h4]
          split at h <;> rename_i h5
          · rw [if_pos h5]; decide
          · exact absurd rfl h
theorem cpK_0 {c e : Int32} (h : cpK c e = 0) : wi c 0 4 = true ∧ e = c := by
  rw [cpK_x] at h
  split at h
  · exact absurd h (by decide)
  · split at h
    · exact absurd h (by decide)
    · split at h
      · exact absurd h (by decide)
      · rename_i h3
        split at h
        · exact absurd h (by decide)
        · rename_i h4
          split at h
          · exact absurd h (by decide)
          · rename_i h5
            have h4 : wi c 0 4 = true := by simpa using h4
            have h5 : wi e 0 4 = true := by simpa using h5
            refine ⟨h4, ?_⟩
            exact Decidable.byContradiction fun z => h3 ⟨h4, h5, fun w => z w.symm⟩
theorem i32_lt {x y : Int32} : x < y ↔ x.toInt < y.toInt := Int32.lt_iff_toInt_lt
theorem i32_0 : (0 : Int32).toInt = 0 := rfl
theorem sub_ti {z : Nat} {x : Int32} (hz : z ≤ 40) (hx : ¬ x < 0) : (nI z - x).toInt = (z : Int) - x.toInt := by
  have h0 : 0 ≤ x.toInt := by rw [i32_lt, i32_0] at hx; omega
  have h1 := Int32.toInt_lt x
  rw [Int32.toInt_sub, nI_ti (by omega)]
  exact Int.bmod_eq_of_le (by omega) (by omega)
theorem hsM_e {i m : Int32} {z : Nat} (hz : z ≤ 40) : hsM i m z = true ↔ ∃ a b, i = nI a ∧ m = nI b ∧ a + b ≤ z := by
  constructor
  · intro h
    simp [hsM] at h
    obtain ⟨⟨h1, h2⟩, h3⟩ := h
    have h1' : ¬ i < 0 := Int32.not_lt.mpr h1
    obtain ⟨e1, q1⟩ := nI_nat h1'
    obtain ⟨e2, q2⟩ := nI_nat (x := m) (Int32.not_lt.mpr h2)
    have h3' := Int32.le_iff_toInt_le.mp h3
    rw [sub_ti hz h1', e1, e2, nI_ti q1, nI_ti q2] at h3'
    exact ⟨_, _, e1, e2, by omega⟩
  · rintro ⟨a, b, rfl, rfl, h⟩
    have h1 : ¬ nI a < 0 := nI_pos (by omega)
    simp [hsM]
    refine ⟨⟨Int32.not_lt.mp h1, Int32.not_lt.mp (nI_pos (by omega))⟩, Int32.le_iff_toInt_le.mpr ?_⟩
    rw [sub_ti hz h1, nI_ti (by omega), nI_ti (by omega)]
    omega
theorem hsM_r {i m : Int32} {z : Nat} (hz : z ≤ 40) (h1 : ¬ m < 0) (h2 : ¬ i < 0) (h4 : ¬ nI z - m < i) : hsM i m z = true := by
  obtain ⟨e1, q1⟩ := nI_nat h2
  obtain ⟨e2, q2⟩ := nI_nat h1
  rw [i32_lt, sub_ti hz h1, e1, e2, nI_ti q1, nI_ti q2] at h4
  exact (hsM_e hz).mpr ⟨_, _, e1, e2, by omega⟩
theorem x_copy_l {d : Nat} {hi : Nat → Nat → Int32} {hl : Nat → Nat → Int64} {X : lm_X} {hi0 : Nat → Nat → Int32} {hl0 : Nat → Nat → Int64} {C n ts : Nat} {T : lm_T} {R : Nat → Int32} {KO : ab_K} {V : ab_V} {tl F : Nat → Int32} (P : cP hi0 hl0 hi hl X C T n R KO V ts tl F) {j k : Nat} {i i2 m : Int32} (hj : j < 8) (hk : k < 8) (h0 : ¬ cpK (V j).1 (V k).1 = 0) (hC : C + 25 < 2147483648) : lm_w (d + 30) 84 [.ref 64, .int (nI j), .int (nI k), .int i, .int i2, .int m] (hi, hl, X) (cQ hi0 hl0 X (C + 25) (.int (cpK (V j).1 (V k).1)) T n R KO V ts tl (rfU F (cpK (V j).1 (V k).1))) := by
  obtain ⟨S, O, H, HR, FO, HV, HT, HF, HK, E0, EL0⟩ := id P
  refine lm_w_in (Nat.le_of_ble_eq_true rfl) ?_
  show lm_wp (d + 30) 84 0 [.ref 64, .int (nI j), .int (nI k), .int i, .int i2, .int m, lm_jk, lm_jk, lm_jk] [] (hi, hl, X) _
  refine w_N 1 1 [.ref 64, .int (nI j), .int (nI k), .int i, .int i2, .int m, lm_jk, lm_jk, lm_jk] [.int (nI j)] rfl ?_
  refine w_cc rfl (x_isShelf1 (wi_t (n := 7) (Nat.le_of_lt_succ hj) (by decide))) ?_
  show lm_wp _ 84 4 [.ref 64, .int (nI j), .int (nI k), .int i, .int i2, .int m, lm_jk, lm_jk, lm_jk] [.int 1] (hi, hl, X) _
  refine w_if_eq_f (t := 14) rfl rfl (by decide) ?_
  refine w_N 1 8 [.ref 64, .int (nI j), .int (nI k), .int i, .int i2, .int m, lm_jk, lm_jk, lm_jk] [.int (nI k)] rfl ?_
  refine w_cc rfl (x_isShelf1 (wi_t (n := 7) (Nat.le_of_lt_succ hk) (by decide))) ?_
  show lm_wp _ 84 11 [.ref 64, .int (nI j), .int (nI k), .int i, .int i2, .int m, lm_jk, lm_jk, lm_jk] [.int 1] (hi, hl, X) _
  refine w_if_ne_t (t := 21) rfl rfl (by decide) ?_
  refine w_N 1 22 [.ref 64, .int (nI j), .int (nI k), .int i, .int i2, .int m, lm_jk, lm_jk, lm_jk] [.ref 64] rfl ?_
  refine w_gr 97 rfl rfl rfl (A_k S 64 (by decide)) (A_r S 64 5 (by decide)) ?_
  refine w_N 1 26 [.ref 64, .int (nI j), .int (nI k), .int i, .int i2, .int m, lm_jk, lm_jk, lm_jk] [.int (nI j), .ref 97] rfl ?_
  refine w_aa j (107 + 2 * j) rfl ⟨by rw [A_k S 97 (by decide)]; decide, by rw [A_k S 97 (by decide)]; decide⟩ (show X.2.2.1 97 = 8 from A_l S 97 (by decide)) rfl hj (by decide) (A_sv S hj) ?_
  refine w_N 2 30 [.ref 64, .int (nI j), .int (nI k), .int i, .int i2, .int m, .ref (107 + 2 * j), lm_jk, lm_jk] [.ref 64] rfl ?_
  refine w_gr 97 rfl rfl rfl (A_k S 64 (by decide)) (A_r S 64 5 (by decide)) ?_
  refine w_N 1 34 [.ref 64, .int (nI j), .int (nI k), .int i, .int i2, .int m, .ref (107 + 2 * j), lm_jk, lm_jk] [.int (nI k), .ref 97] rfl ?_
  refine w_aa k (107 + 2 * k) rfl ⟨by rw [A_k S 97 (by decide)]; decide, by rw [A_k S 97 (by decide)]; decide⟩ (show X.2.2.1 97 = 8 from A_l S 97 (by decide)) rfl hk (by decide) (A_sv S hk) ?_
  refine w_N 2 39 [.ref 64, .int (nI j), .int (nI k), .int i, .int i2, .int m, .ref (107 + 2 * j), .ref (107 + 2 * k), lm_jk] [.ref (107 + 2 * j)] rfl ?_
  refine w_cc (w_vst rfl rfl rfl (Nat.le_of_ble_eq_true rfl) (Nat.le_of_ble_eq_true rfl) (Sf_kd (A_Sf S hj))) (s_isRow (A_Sf S hj) ((HV j hj).1)) ?_
  show lm_wp _ 84 42 [.ref 64, .int (nI j), .int (nI k), .int i, .int i2, .int m, .ref (107 + 2 * j), .ref (107 + 2 * k), lm_jk] [.int (bz (wi ((V j).1) 0 4))] (hi, hl, X) _
  refine w_zeq (t := 70) rfl rfl (fun c1 => ?_) (fun c1 => ?_)
  · refine w_N 3 75 [.ref 64, .int (nI j), .int (nI k), .int i, .int i2, .int m, .ref (107 + 2 * j), .ref (107 + 2 * k), .int 0] [.ref (107 + 2 * j)] rfl ?_
    refine w_cc (w_vst rfl rfl rfl (Nat.le_of_ble_eq_true rfl) (Nat.le_of_ble_eq_true rfl) (Sf_kd (A_Sf S hj))) (s_isRule (A_Sf S hj) ((HV j hj).1)) ?_
    show lm_wp _ 84 78 [.ref 64, .int (nI j), .int (nI k), .int i, .int i2, .int m, .ref (107 + 2 * j), .ref (107 + 2 * k), .int 0] [.int (bz (decide (10 < (V j).1)))] (hi, hl, X) _
    refine w_zne (t := 94) rfl rfl (fun c2 => ?_) (fun c2 => ?_)
    · refine w_N 2 97 [.ref 64, .int (nI j), .int (nI k), .int i, .int i2, .int m, .ref (107 + 2 * j), .ref (107 + 2 * k), .int 0] [.int (-3), .ref 64] rfl ?_
      have ew : cpK (V j).1 (V k).1 = (-3) := by
        cases hA : wi (V j).1 0 4 <;> cases hB : wi (V k).1 0 4 <;> by_cases hD : 10 < (V j).1 <;> by_cases hE : 10 < (V k).1 <;> first | (exfalso; exact row_not hA hD) | (exfalso; exact row_not hB hE) | (exfalso; revert c1 c2; simp [hA, hB, hD, hE]; done) | (rw [cpK_x]; simp [hA, hB, hD, hE]; done)
      rw [ew] at h0 ⊢
      refine w_ca (w_vst rfl rfl rfl (Nat.le_of_ble_eq_true rfl) (Nat.le_of_ble_eq_true rfl) (A_k S 64 (by decide))) (x_refuse P (by unfold isW; decide)) ?_
      rintro _ _ ⟨rfl, hi9, rfl, P9⟩
      show lm_wp _ 84 100 [.ref 64, .int (nI j), .int (nI k), .int i, .int i2, .int m, .ref (107 + 2 * j), .ref (107 + 2 * k), .int 0] [.int (-3)] (hi9, hl, X) _
      refine w_ri rfl rfl ?_
      exact cq_ P9 (by omega) hC
    · refine w_N 1 83 [.ref 64, .int (nI j), .int (nI k), .int i, .int i2, .int m, .ref (107 + 2 * j), .ref (107 + 2 * k), .int 0] [.ref (107 + 2 * k)] rfl ?_
      refine w_cc (w_vst rfl rfl rfl (Nat.le_of_ble_eq_true rfl) (Nat.le_of_ble_eq_true rfl) (Sf_kd (A_Sf S hk))) (s_isRule (A_Sf S hk) ((HV k hk).1)) ?_
      show lm_wp _ 84 86 [.ref 64, .int (nI j), .int (nI k), .int i, .int i2, .int m, .ref (107 + 2 * j), .ref (107 + 2 * k), .int 0] [.int (bz (decide (10 < (V k).1)))] (hi, hl, X) _
      refine w_zne (t := 94) rfl rfl (fun c3 => ?_) (fun c3 => ?_)
      · refine w_N 2 97 [.ref 64, .int (nI j), .int (nI k), .int i, .int i2, .int m, .ref (107 + 2 * j), .ref (107 + 2 * k), .int 0] [.int (-3), .ref 64] rfl ?_
        have ew : cpK (V j).1 (V k).1 = (-3) := by
          cases hA : wi (V j).1 0 4 <;> cases hB : wi (V k).1 0 4 <;> by_cases hD : 10 < (V j).1 <;> by_cases hE : 10 < (V k).1 <;> first | (exfalso; exact row_not hA hD) | (exfalso; exact row_not hB hE) | (exfalso; revert c1 c2 c3; simp [hA, hB, hD, hE]; done) | (rw [cpK_x]; simp [hA, hB, hD, hE]; done)
        rw [ew] at h0 ⊢
        refine w_ca (w_vst rfl rfl rfl (Nat.le_of_ble_eq_true rfl) (Nat.le_of_ble_eq_true rfl) (A_k S 64 (by decide))) (x_refuse P (by unfold isW; decide)) ?_
        rintro _ _ ⟨rfl, hi9, rfl, P9⟩
        show lm_wp _ 84 100 [.ref 64, .int (nI j), .int (nI k), .int i, .int i2, .int m, .ref (107 + 2 * j), .ref (107 + 2 * k), .int 0] [.int (-3)] (hi9, hl, X) _
        refine w_ri rfl rfl ?_
        exact cq_ P9 (by omega) hC
      · refine w_N 1 91 [.ref 64, .int (nI j), .int (nI k), .int i, .int i2, .int m, .ref (107 + 2 * j), .ref (107 + 2 * k), .int 0] [.int 0] rfl ?_
        refine w_if_eq_t (t := 101) rfl rfl (by decide) ?_
        refine w_N 1 103 [.ref 64, .int (nI j), .int (nI k), .int i, .int i2, .int m, .ref (107 + 2 * j), .ref (107 + 2 * k), .int 0] [.ref (107 + 2 * j)] rfl ?_
        refine w_cc (w_vst rfl rfl rfl (Nat.le_of_ble_eq_true rfl) (Nat.le_of_ble_eq_true rfl) (Sf_kd (A_Sf S hj))) (s_isRow (A_Sf S hj) ((HV j hj).1)) ?_
        show lm_wp _ 84 106 [.ref 64, .int (nI j), .int (nI k), .int i, .int i2, .int m, .ref (107 + 2 * j), .ref (107 + 2 * k), .int 0] [.int (bz (wi ((V j).1) 0 4))] (hi, hl, X) _
        refine w_zeq (t := 117) rfl rfl (fun c4 => ?_) (fun c4 => ?_)
        · refine w_N 2 120 [.ref 64, .int (nI j), .int (nI k), .int i, .int i2, .int m, .ref (107 + 2 * j), .ref (107 + 2 * k), .int 0] [.int (-4), .ref 64] rfl ?_
          have ew : cpK (V j).1 (V k).1 = (-4) := by
            cases hA : wi (V j).1 0 4 <;> cases hB : wi (V k).1 0 4 <;> by_cases hD : 10 < (V j).1 <;> by_cases hE : 10 < (V k).1 <;> first | (exfalso; exact row_not hA hD) | (exfalso; exact row_not hB hE) | (exfalso; revert c1 c2 c3 c4; simp [hA, hB, hD, hE]; done) | (rw [cpK_x]; simp [hA, hB, hD, hE]; done)
          rw [ew] at h0 ⊢
          refine w_ca (w_vst rfl rfl rfl (Nat.le_of_ble_eq_true rfl) (Nat.le_of_ble_eq_true rfl) (A_k S 64 (by decide))) (x_refuse P (by unfold isW; decide)) ?_
          rintro _ _ ⟨rfl, hi9, rfl, P9⟩
          show lm_wp _ 84 123 [.ref 64, .int (nI j), .int (nI k), .int i, .int i2, .int m, .ref (107 + 2 * j), .ref (107 + 2 * k), .int 0] [.int (-4)] (hi9, hl, X) _
          refine w_ri rfl rfl ?_
          exact cq_ P9 (by omega) hC
        · refine w_N 1 111 [.ref 64, .int (nI j), .int (nI k), .int i, .int i2, .int m, .ref (107 + 2 * j), .ref (107 + 2 * k), .int 0] [.ref (107 + 2 * k)] rfl ?_
          refine w_cc (w_vst rfl rfl rfl (Nat.le_of_ble_eq_true rfl) (Nat.le_of_ble_eq_true rfl) (Sf_kd (A_Sf S hk))) (s_isRow (A_Sf S hk) ((HV k hk).1)) ?_
          show lm_wp _ 84 114 [.ref 64, .int (nI j), .int (nI k), .int i, .int i2, .int m, .ref (107 + 2 * j), .ref (107 + 2 * k), .int 0] [.int (bz (wi ((V k).1) 0 4))] (hi, hl, X) _
          refine w_zne (t := 124) rfl rfl (fun c5 => ?_) (fun c5 => ?_)
          · refine absurd ?_ h0
            cases hA : wi (V j).1 0 4 <;> cases hB : wi (V k).1 0 4 <;> by_cases hD : 10 < (V j).1 <;> by_cases hE : 10 < (V k).1 <;> first | (exfalso; exact row_not hA hD) | (exfalso; exact row_not hB hE) | (exfalso; revert c1 c2 c3 c4 c5; simp [hA, hB, hD, hE]; done) | (rw [cpK_x]; simp [hA, hB, hD, hE]; done)
          · refine w_N 2 120 [.ref 64, .int (nI j), .int (nI k), .int i, .int i2, .int m, .ref (107 + 2 * j), .ref (107 + 2 * k), .int 0] [.int (-4), .ref 64] rfl ?_
            have ew : cpK (V j).1 (V k).1 = (-4) := by
              cases hA : wi (V j).1 0 4 <;> cases hB : wi (V k).1 0 4 <;> by_cases hD : 10 < (V j).1 <;> by_cases hE : 10 < (V k).1 <;> first | (exfalso; exact row_not hA hD) | (exfalso; exact row_not hB hE) | (exfalso; revert c1 c2 c3 c4 c5; simp [hA, hB, hD, hE]; done) | (rw [cpK_x]; simp [hA, hB, hD, hE]; done)
            rw [ew] at h0 ⊢
            refine w_ca (w_vst rfl rfl rfl (Nat.le_of_ble_eq_true rfl) (Nat.le_of_ble_eq_true rfl) (A_k S 64 (by decide))) (x_refuse P (by unfold isW; decide)) ?_
            rintro _ _ ⟨rfl, hi9, rfl, P9⟩
            show lm_wp _ 84 123 [.ref 64, .int (nI j), .int (nI k), .int i, .int i2, .int m, .ref (107 + 2 * j), .ref (107 + 2 * k), .int 0] [.int (-4)] (hi9, hl, X) _
            refine w_ri rfl rfl ?_
            exact cq_ P9 (by omega) hC
  · refine w_N 1 47 [.ref 64, .int (nI j), .int (nI k), .int i, .int i2, .int m, .ref (107 + 2 * j), .ref (107 + 2 * k), lm_jk] [.ref (107 + 2 * k)] rfl ?_
    refine w_cc (w_vst rfl rfl rfl (Nat.le_of_ble_eq_true rfl) (Nat.le_of_ble_eq_true rfl) (Sf_kd (A_Sf S hk))) (s_isRow (A_Sf S hk) ((HV k hk).1)) ?_
    show lm_wp _ 84 50 [.ref 64, .int (nI j), .int (nI k), .int i, .int i2, .int m, .ref (107 + 2 * j), .ref (107 + 2 * k), lm_jk] [.int (bz (wi ((V k).1) 0 4))] (hi, hl, X) _
    refine w_zeq (t := 70) rfl rfl (fun c6 => ?_) (fun c6 => ?_)
    · refine w_N 3 75 [.ref 64, .int (nI j), .int (nI k), .int i, .int i2, .int m, .ref (107 + 2 * j), .ref (107 + 2 * k), .int 0] [.ref (107 + 2 * j)] rfl ?_
      refine w_cc (w_vst rfl rfl rfl (Nat.le_of_ble_eq_true rfl) (Nat.le_of_ble_eq_true rfl) (Sf_kd (A_Sf S hj))) (s_isRule (A_Sf S hj) ((HV j hj).1)) ?_
      show lm_wp _ 84 78 [.ref 64, .int (nI j), .int (nI k), .int i, .int i2, .int m, .ref (107 + 2 * j), .ref (107 + 2 * k), .int 0] [.int (bz (decide (10 < (V j).1)))] (hi, hl, X) _
      refine w_zne (t := 94) rfl rfl (fun c7 => ?_) (fun c7 => ?_)
      · refine w_N 2 97 [.ref 64, .int (nI j), .int (nI k), .int i, .int i2, .int m, .ref (107 + 2 * j), .ref (107 + 2 * k), .int 0] [.int (-3), .ref 64] rfl ?_
        have ew : cpK (V j).1 (V k).1 = (-3) := by
          cases hA : wi (V j).1 0 4 <;> cases hB : wi (V k).1 0 4 <;> by_cases hD : 10 < (V j).1 <;> by_cases hE : 10 < (V k).1 <;> first | (exfalso; exact row_not hA hD) | (exfalso; exact row_not hB hE) | (exfalso; revert c1 c6 c7; simp [hA, hB, hD, hE]; done) | (rw [cpK_x]; simp [hA, hB, hD, hE]; done)
        rw [ew] at h0 ⊢
        refine w_ca (w_vst rfl rfl rfl (Nat.le_of_ble_eq_true rfl) (Nat.le_of_ble_eq_true rfl) (A_k S 64 (by decide))) (x_refuse P (by unfold isW; decide)) ?_
        rintro _ _ ⟨rfl, hi9, rfl, P9⟩
        show lm_wp _ 84 100 [.ref 64, .int (nI j), .int (nI k), .int i, .int i2, .int m, .ref (107 + 2 * j), .ref (107 + 2 * k), .int 0] [.int (-3)] (hi9, hl, X) _
        refine w_ri rfl rfl ?_
        exact cq_ P9 (by omega) hC
      · refine w_N 1 83 [.ref 64, .int (nI j), .int (nI k), .int i, .int i2, .int m, .ref (107 + 2 * j), .ref (107 + 2 * k), .int 0] [.ref (107 + 2 * k)] rfl ?_
        refine w_cc (w_vst rfl rfl rfl (Nat.le_of_ble_eq_true rfl) (Nat.le_of_ble_eq_true rfl) (Sf_kd (A_Sf S hk))) (s_isRule (A_Sf S hk) ((HV k hk).1)) ?_
        show lm_wp _ 84 86 [.ref 64, .int (nI j), .int (nI k), .int i, .int i2, .int m, .ref (107 + 2 * j), .ref (107 + 2 * k), .int 0] [.int (bz (decide (10 < (V k).1)))] (hi, hl, X) _
        refine w_zne (t := 94) rfl rfl (fun c8 => ?_) (fun c8 => ?_)
        · refine w_N 2 97 [.ref 64, .int (nI j), .int (nI k), .int i, .int i2, .int m, .ref (107 + 2 * j), .ref (107 + 2 * k), .int 0] [.int (-3), .ref 64] rfl ?_
          have ew : cpK (V j).1 (V k).1 = (-3) := by
            cases hA : wi (V j).1 0 4 <;> cases hB : wi (V k).1 0 4 <;> by_cases hD : 10 < (V j).1 <;> by_cases hE : 10 < (V k).1 <;> first | (exfalso; exact row_not hA hD) | (exfalso; exact row_not hB hE) | (exfalso; revert c1 c6 c7 c8; simp [hA, hB, hD, hE]; done) | (rw [cpK_x]; simp [hA, hB, hD, hE]; done)
          rw [ew] at h0 ⊢
          refine w_ca (w_vst rfl rfl rfl (Nat.le_of_ble_eq_true rfl) (Nat.le_of_ble_eq_true rfl) (A_k S 64 (by decide))) (x_refuse P (by unfold isW; decide)) ?_
          rintro _ _ ⟨rfl, hi9, rfl, P9⟩
          show lm_wp _ 84 100 [.ref 64, .int (nI j), .int (nI k), .int i, .int i2, .int m, .ref (107 + 2 * j), .ref (107 + 2 * k), .int 0] [.int (-3)] (hi9, hl, X) _
          refine w_ri rfl rfl ?_
          exact cq_ P9 (by omega) hC
        · refine w_N 1 91 [.ref 64, .int (nI j), .int (nI k), .int i, .int i2, .int m, .ref (107 + 2 * j), .ref (107 + 2 * k), .int 0] [.int 0] rfl ?_
          refine w_if_eq_t (t := 101) rfl rfl (by decide) ?_
          refine w_N 1 103 [.ref 64, .int (nI j), .int (nI k), .int i, .int i2, .int m, .ref (107 + 2 * j), .ref (107 + 2 * k), .int 0] [.ref (107 + 2 * j)] rfl ?_
          refine w_cc (w_vst rfl rfl rfl (Nat.le_of_ble_eq_true rfl) (Nat.le_of_ble_eq_true rfl) (Sf_kd (A_Sf S hj))) (s_isRow (A_Sf S hj) ((HV j hj).1)) ?_
          show lm_wp _ 84 106 [.ref 64, .int (nI j), .int (nI k), .int i, .int i2, .int m, .ref (107 + 2 * j), .ref (107 + 2 * k), .int 0] [.int (bz (wi ((V j).1) 0 4))] (hi, hl, X) _
          refine w_zeq (t := 117) rfl rfl (fun c9 => ?_) (fun c9 => ?_)
          · refine w_N 2 120 [.ref 64, .int (nI j), .int (nI k), .int i, .int i2, .int m, .ref (107 + 2 * j), .ref (107 + 2 * k), .int 0] [.int (-4), .ref 64] rfl ?_
            have ew : cpK (V j).1 (V k).1 = (-4) := by
              cases hA : wi (V j).1 0 4 <;> cases hB : wi (V k).1 0 4 <;> by_cases hD : 10 < (V j).1 <;> by_cases hE : 10 < (V k).1 <;> first | (exfalso; exact row_not hA hD) | (exfalso; exact row_not hB hE) | (exfalso; revert c1 c6 c7 c8 c9; simp [hA, hB, hD, hE]; done) | (rw [cpK_x]; simp [hA, hB, hD, hE]; done)
            rw [ew] at h0 ⊢
            refine w_ca (w_vst rfl rfl rfl (Nat.le_of_ble_eq_true rfl) (Nat.le_of_ble_eq_true rfl) (A_k S 64 (by decide))) (x_refuse P (by unfold isW; decide)) ?_
            rintro _ _ ⟨rfl, hi9, rfl, P9⟩
            show lm_wp _ 84 123 [.ref 64, .int (nI j), .int (nI k), .int i, .int i2, .int m, .ref (107 + 2 * j), .ref (107 + 2 * k), .int 0] [.int (-4)] (hi9, hl, X) _
            refine w_ri rfl rfl ?_
            exact cq_ P9 (by omega) hC
          · refine w_N 1 111 [.ref 64, .int (nI j), .int (nI k), .int i, .int i2, .int m, .ref (107 + 2 * j), .ref (107 + 2 * k), .int 0] [.ref (107 + 2 * k)] rfl ?_
            refine w_cc (w_vst rfl rfl rfl (Nat.le_of_ble_eq_true rfl) (Nat.le_of_ble_eq_true rfl) (Sf_kd (A_Sf S hk))) (s_isRow (A_Sf S hk) ((HV k hk).1)) ?_
            show lm_wp _ 84 114 [.ref 64, .int (nI j), .int (nI k), .int i, .int i2, .int m, .ref (107 + 2 * j), .ref (107 + 2 * k), .int 0] [.int (bz (wi ((V k).1) 0 4))] (hi, hl, X) _
            refine w_zne (t := 124) rfl rfl (fun c10 => ?_) (fun c10 => ?_)
            · refine absurd ?_ h0
              cases hA : wi (V j).1 0 4 <;> cases hB : wi (V k).1 0 4 <;> by_cases hD : 10 < (V j).1 <;> by_cases hE : 10 < (V k).1 <;> first | (exfalso; exact row_not hA hD) | (exfalso; exact row_not hB hE) | (exfalso; revert c1 c6 c7 c8 c9 c10; simp [hA, hB, hD, hE]; done) | (rw [cpK_x]; simp [hA, hB, hD, hE]; done)
            · refine w_N 2 120 [.ref 64, .int (nI j), .int (nI k), .int i, .int i2, .int m, .ref (107 + 2 * j), .ref (107 + 2 * k), .int 0] [.int (-4), .ref 64] rfl ?_
              have ew : cpK (V j).1 (V k).1 = (-4) := by
                cases hA : wi (V j).1 0 4 <;> cases hB : wi (V k).1 0 4 <;> by_cases hD : 10 < (V j).1 <;> by_cases hE : 10 < (V k).1 <;> first | (exfalso; exact row_not hA hD) | (exfalso; exact row_not hB hE) | (exfalso; revert c1 c6 c7 c8 c9 c10; simp [hA, hB, hD, hE]; done) | (rw [cpK_x]; simp [hA, hB, hD, hE]; done)
              rw [ew] at h0 ⊢
              refine w_ca (w_vst rfl rfl rfl (Nat.le_of_ble_eq_true rfl) (Nat.le_of_ble_eq_true rfl) (A_k S 64 (by decide))) (x_refuse P (by unfold isW; decide)) ?_
              rintro _ _ ⟨rfl, hi9, rfl, P9⟩
              show lm_wp _ 84 123 [.ref 64, .int (nI j), .int (nI k), .int i, .int i2, .int m, .ref (107 + 2 * j), .ref (107 + 2 * k), .int 0] [.int (-4)] (hi9, hl, X) _
              refine w_ri rfl rfl ?_
              exact cq_ P9 (by omega) hC
    · refine w_N 1 55 [.ref 64, .int (nI j), .int (nI k), .int i, .int i2, .int m, .ref (107 + 2 * j), .ref (107 + 2 * k), lm_jk] [.ref (107 + 2 * j)] rfl ?_
      refine w_gi (v := (V j).1) rfl rfl rfl (Sf_kd (A_Sf S hj)) ((HV j hj).1) ?_
      refine w_N 1 60 [.ref 64, .int (nI j), .int (nI k), .int i, .int i2, .int m, .ref (107 + 2 * j), .ref (107 + 2 * k), lm_jk] [.ref (107 + 2 * k), .int ((V j).1)] rfl ?_
      refine w_gi (v := (V k).1) rfl rfl rfl (Sf_kd (A_Sf S hk)) ((HV k hk).1) ?_
      refine w_icmp_eq (t := 70) rfl rfl (fun c11 => ?_) (fun c11 => ?_)
      · refine w_N 3 75 [.ref 64, .int (nI j), .int (nI k), .int i, .int i2, .int m, .ref (107 + 2 * j), .ref (107 + 2 * k), .int 0] [.ref (107 + 2 * j)] rfl ?_
        refine w_cc (w_vst rfl rfl rfl (Nat.le_of_ble_eq_true rfl) (Nat.le_of_ble_eq_true rfl) (Sf_kd (A_Sf S hj))) (s_isRule (A_Sf S hj) ((HV j hj).1)) ?_
        show lm_wp _ 84 78 [.ref 64, .int (nI j), .int (nI k), .int i, .int i2, .int m, .ref (107 + 2 * j), .ref (107 + 2 * k), .int 0] [.int (bz (decide (10 < (V j).1)))] (hi, hl, X) _
        refine w_zne (t := 94) rfl rfl (fun c12 => ?_) (fun c12 => ?_)
        · refine w_N 2 97 [.ref 64, .int (nI j), .int (nI k), .int i, .int i2, .int m, .ref (107 + 2 * j), .ref (107 + 2 * k), .int 0] [.int (-3), .ref 64] rfl ?_
          have ew : cpK (V j).1 (V k).1 = (-3) := by
            cases hA : wi (V j).1 0 4 <;> cases hB : wi (V k).1 0 4 <;> by_cases hD : 10 < (V j).1 <;> by_cases hE : 10 < (V k).1 <;> first | (exfalso; exact row_not hA hD) | (exfalso; exact row_not hB hE) | (exfalso; revert c1 c6 c11 c12; simp [hA, hB, hD, hE]; done) | (rw [cpK_x]; simp [hA, hB, hD, hE, c11]; done)
          rw [ew] at h0 ⊢
          refine w_ca (w_vst rfl rfl rfl (Nat.le_of_ble_eq_true rfl) (Nat.le_of_ble_eq_true rfl) (A_k S 64 (by decide))) (x_refuse P (by unfold isW; decide)) ?_
          rintro _ _ ⟨rfl, hi9, rfl, P9⟩
          show lm_wp _ 84 100 [.ref 64, .int (nI j), .int (nI k), .int i, .int i2, .int m, .ref (107 + 2 * j), .ref (107 + 2 * k), .int 0] [.int (-3)] (hi9, hl, X) _
          refine w_ri rfl rfl ?_
          exact cq_ P9 (by omega) hC
        · refine w_N 1 83 [.ref 64, .int (nI j), .int (nI k), .int i, .int i2, .int m, .ref (107 + 2 * j), .ref (107 + 2 * k), .int 0] [.ref (107 + 2 * k)] rfl ?_
          refine w_cc (w_vst rfl rfl rfl (Nat.le_of_ble_eq_true rfl) (Nat.le_of_ble_eq_true rfl) (Sf_kd (A_Sf S hk))) (s_isRule (A_Sf S hk) ((HV k hk).1)) ?_
          show lm_wp _ 84 86 [.ref 64, .int (nI j), .int (nI k), .int i, .int i2, .int m, .ref (107 + 2 * j), .ref (107 + 2 * k), .int 0] [.int (bz (decide (10 < (V k).1)))] (hi, hl, X) _
          refine w_zne (t := 94) rfl rfl (fun c13 => ?_) (fun c13 => ?_)
          · refine w_N 2 97 [.ref 64, .int (nI j), .int (nI k), .int i, .int i2, .int m, .ref (107 + 2 * j), .ref (107 + 2 * k), .int 0] [.int (-3), .ref 64] rfl ?_
            have ew : cpK (V j).1 (V k).1 = (-3) := by
              cases hA : wi (V j).1 0 4 <;> cases hB : wi (V k).1 0 4 <;> by_cases hD : 10 < (V j).1 <;> by_cases hE : 10 < (V k).1 <;> first | (exfalso; exact row_not hA hD) | (exfalso; exact row_not hB hE) | (exfalso; revert c1 c6 c11 c12 c13; simp [hA, hB, hD, hE]; done) | (rw [cpK_x]; simp [hA, hB, hD, hE, c11]; done)
            rw [ew] at h0 ⊢
            refine w_ca (w_vst rfl rfl rfl (Nat.le_of_ble_eq_true rfl) (Nat.le_of_ble_eq_true rfl) (A_k S 64 (by decide))) (x_refuse P (by unfold isW; decide)) ?_
            rintro _ _ ⟨rfl, hi9, rfl, P9⟩
            show lm_wp _ 84 100 [.ref 64, .int (nI j), .int (nI k), .int i, .int i2, .int m, .ref (107 + 2 * j), .ref (107 + 2 * k), .int 0] [.int (-3)] (hi9, hl, X) _
            refine w_ri rfl rfl ?_
            exact cq_ P9 (by omega) hC
          · refine w_N 1 91 [.ref 64, .int (nI j), .int (nI k), .int i, .int i2, .int m, .ref (107 + 2 * j), .ref (107 + 2 * k), .int 0] [.int 0] rfl ?_
            refine w_if_eq_t (t := 101) rfl rfl (by decide) ?_
            refine w_N 1 103 [.ref 64, .int (nI j), .int (nI k), .int i, .int i2, .int m, .ref (107 + 2 * j), .ref (107 + 2 * k), .int 0] [.ref (107 + 2 * j)] rfl ?_
            refine w_cc (w_vst rfl rfl rfl (Nat.le_of_ble_eq_true rfl) (Nat.le_of_ble_eq_true rfl) (Sf_kd (A_Sf S hj))) (s_isRow (A_Sf S hj) ((HV j hj).1)) ?_
            show lm_wp _ 84 106 [.ref 64, .int (nI j), .int (nI k), .int i, .int i2, .int m, .ref (107 + 2 * j), .ref (107 + 2 * k), .int 0] [.int (bz (wi ((V j).1) 0 4))] (hi, hl, X) _
            refine w_zeq (t := 117) rfl rfl (fun c14 => ?_) (fun c14 => ?_)
            · refine w_N 2 120 [.ref 64, .int (nI j), .int (nI k), .int i, .int i2, .int m, .ref (107 + 2 * j), .ref (107 + 2 * k), .int 0] [.int (-4), .ref 64] rfl ?_
              have ew : cpK (V j).1 (V k).1 = (-4) := by
                cases hA : wi (V j).1 0 4 <;> cases hB : wi (V k).1 0 4 <;> by_cases hD : 10 < (V j).1 <;> by_cases hE : 10 < (V k).1 <;> first | (exfalso; exact row_not hA hD) | (exfalso; exact row_not hB hE) | (exfalso; revert c1 c6 c11 c12 c13 c14; simp [hA, hB, hD, hE]; done) | (rw [cpK_x]; simp [hA, hB, hD, hE, c11]; done)
              rw [ew] at h0 ⊢
              refine w_ca (w_vst rfl rfl rfl (Nat.le_of_ble_eq_true rfl) (Nat.le_of_ble_eq_true rfl) (A_k S 64 (by decide))) (x_refuse P (by unfold isW; decide)) ?_
              rintro _ _ ⟨rfl, hi9, rfl, P9⟩
              show lm_wp _ 84 123 [.ref 64, .int (nI j), .int (nI k), .int i, .int i2, .int m, .ref (107 + 2 * j), .ref (107 + 2 * k), .int 0] [.int (-4)] (hi9, hl, X) _
              refine w_ri rfl rfl ?_
              exact cq_ P9 (by omega) hC
            · refine w_N 1 111 [.ref 64, .int (nI j), .int (nI k), .int i, .int i2, .int m, .ref (107 + 2 * j), .ref (107 + 2 * k), .int 0] [.ref (107 + 2 * k)] rfl ?_
              refine w_cc (w_vst rfl rfl rfl (Nat.le_of_ble_eq_true rfl) (Nat.le_of_ble_eq_true rfl) (Sf_kd (A_Sf S hk))) (s_isRow (A_Sf S hk) ((HV k hk).1)) ?_
              show lm_wp _ 84 114 [.ref 64, .int (nI j), .int (nI k), .int i, .int i2, .int m, .ref (107 + 2 * j), .ref (107 + 2 * k), .int 0] [.int (bz (wi ((V k).1) 0 4))] (hi, hl, X) _
              refine w_zne (t := 124) rfl rfl (fun c15 => ?_) (fun c15 => ?_)
              · refine absurd ?_ h0
                cases hA : wi (V j).1 0 4 <;> cases hB : wi (V k).1 0 4 <;> by_cases hD : 10 < (V j).1 <;> by_cases hE : 10 < (V k).1 <;> first | (exfalso; exact row_not hA hD) | (exfalso; exact row_not hB hE) | (exfalso; revert c1 c6 c11 c12 c13 c14 c15; simp [hA, hB, hD, hE]; done) | (rw [cpK_x]; simp [hA, hB, hD, hE, c11]; done)
              · refine w_N 2 120 [.ref 64, .int (nI j), .int (nI k), .int i, .int i2, .int m, .ref (107 + 2 * j), .ref (107 + 2 * k), .int 0] [.int (-4), .ref 64] rfl ?_
                have ew : cpK (V j).1 (V k).1 = (-4) := by
                  cases hA : wi (V j).1 0 4 <;> cases hB : wi (V k).1 0 4 <;> by_cases hD : 10 < (V j).1 <;> by_cases hE : 10 < (V k).1 <;> first | (exfalso; exact row_not hA hD) | (exfalso; exact row_not hB hE) | (exfalso; revert c1 c6 c11 c12 c13 c14 c15; simp [hA, hB, hD, hE]; done) | (rw [cpK_x]; simp [hA, hB, hD, hE, c11]; done)
                rw [ew] at h0 ⊢
                refine w_ca (w_vst rfl rfl rfl (Nat.le_of_ble_eq_true rfl) (Nat.le_of_ble_eq_true rfl) (A_k S 64 (by decide))) (x_refuse P (by unfold isW; decide)) ?_
                rintro _ _ ⟨rfl, hi9, rfl, P9⟩
                show lm_wp _ 84 123 [.ref 64, .int (nI j), .int (nI k), .int i, .int i2, .int m, .ref (107 + 2 * j), .ref (107 + 2 * k), .int 0] [.int (-4)] (hi9, hl, X) _
                refine w_ri rfl rfl ?_
                exact cq_ P9 (by omega) hC
      · refine w_N 4 75 [.ref 64, .int (nI j), .int (nI k), .int i, .int i2, .int m, .ref (107 + 2 * j), .ref (107 + 2 * k), .int 1] [.ref (107 + 2 * j)] rfl ?_
        refine w_cc (w_vst rfl rfl rfl (Nat.le_of_ble_eq_true rfl) (Nat.le_of_ble_eq_true rfl) (Sf_kd (A_Sf S hj))) (s_isRule (A_Sf S hj) ((HV j hj).1)) ?_
        show lm_wp _ 84 78 [.ref 64, .int (nI j), .int (nI k), .int i, .int i2, .int m, .ref (107 + 2 * j), .ref (107 + 2 * k), .int 1] [.int (bz (decide (10 < (V j).1)))] (hi, hl, X) _
        refine w_zne (t := 94) rfl rfl (fun c16 => ?_) (fun c16 => ?_)
        · refine w_N 2 97 [.ref 64, .int (nI j), .int (nI k), .int i, .int i2, .int m, .ref (107 + 2 * j), .ref (107 + 2 * k), .int 1] [.int (-3), .ref 64] rfl ?_
          have ew : cpK (V j).1 (V k).1 = (-3) := by
            cases hA : wi (V j).1 0 4 <;> cases hB : wi (V k).1 0 4 <;> by_cases hD : 10 < (V j).1 <;> by_cases hE : 10 < (V k).1 <;> first | (exfalso; exact row_not hA hD) | (exfalso; exact row_not hB hE) | (exfalso; revert c1 c6 c11 c16; simp [hA, hB, hD, hE]; done) | (rw [cpK_x]; simp [hA, hB, hD, hE, c11]; done)
          rw [ew] at h0 ⊢
          refine w_ca (w_vst rfl rfl rfl (Nat.le_of_ble_eq_true rfl) (Nat.le_of_ble_eq_true rfl) (A_k S 64 (by decide))) (x_refuse P (by unfold isW; decide)) ?_
          rintro _ _ ⟨rfl, hi9, rfl, P9⟩
          show lm_wp _ 84 100 [.ref 64, .int (nI j), .int (nI k), .int i, .int i2, .int m, .ref (107 + 2 * j), .ref (107 + 2 * k), .int 1] [.int (-3)] (hi9, hl, X) _
          refine w_ri rfl rfl ?_
          exact cq_ P9 (by omega) hC
        · refine w_N 1 83 [.ref 64, .int (nI j), .int (nI k), .int i, .int i2, .int m, .ref (107 + 2 * j), .ref (107 + 2 * k), .int 1] [.ref (107 + 2 * k)] rfl ?_
          refine w_cc (w_vst rfl rfl rfl (Nat.le_of_ble_eq_true rfl) (Nat.le_of_ble_eq_true rfl) (Sf_kd (A_Sf S hk))) (s_isRule (A_Sf S hk) ((HV k hk).1)) ?_
          show lm_wp _ 84 86 [.ref 64, .int (nI j), .int (nI k), .int i, .int i2, .int m, .ref (107 + 2 * j), .ref (107 + 2 * k), .int 1] [.int (bz (decide (10 < (V k).1)))] (hi, hl, X) _
          refine w_zne (t := 94) rfl rfl (fun c17 => ?_) (fun c17 => ?_)
          · refine w_N 2 97 [.ref 64, .int (nI j), .int (nI k), .int i, .int i2, .int m, .ref (107 + 2 * j), .ref (107 + 2 * k), .int 1] [.int (-3), .ref 64] rfl ?_
            have ew : cpK (V j).1 (V k).1 = (-3) := by
              cases hA : wi (V j).1 0 4 <;> cases hB : wi (V k).1 0 4 <;> by_cases hD : 10 < (V j).1 <;> by_cases hE : 10 < (V k).1 <;> first | (exfalso; exact row_not hA hD) | (exfalso; exact row_not hB hE) | (exfalso; revert c1 c6 c11 c16 c17; simp [hA, hB, hD, hE]; done) | (rw [cpK_x]; simp [hA, hB, hD, hE, c11]; done)
            rw [ew] at h0 ⊢
            refine w_ca (w_vst rfl rfl rfl (Nat.le_of_ble_eq_true rfl) (Nat.le_of_ble_eq_true rfl) (A_k S 64 (by decide))) (x_refuse P (by unfold isW; decide)) ?_
            rintro _ _ ⟨rfl, hi9, rfl, P9⟩
            show lm_wp _ 84 100 [.ref 64, .int (nI j), .int (nI k), .int i, .int i2, .int m, .ref (107 + 2 * j), .ref (107 + 2 * k), .int 1] [.int (-3)] (hi9, hl, X) _
            refine w_ri rfl rfl ?_
            exact cq_ P9 (by omega) hC
          · refine w_N 1 91 [.ref 64, .int (nI j), .int (nI k), .int i, .int i2, .int m, .ref (107 + 2 * j), .ref (107 + 2 * k), .int 1] [.int 1] rfl ?_
            refine w_if_eq_f (t := 101) rfl rfl (by decide) ?_
            refine w_N 2 97 [.ref 64, .int (nI j), .int (nI k), .int i, .int i2, .int m, .ref (107 + 2 * j), .ref (107 + 2 * k), .int 1] [.int (-3), .ref 64] rfl ?_
            have ew : cpK (V j).1 (V k).1 = (-3) := by
              cases hA : wi (V j).1 0 4 <;> cases hB : wi (V k).1 0 4 <;> by_cases hD : 10 < (V j).1 <;> by_cases hE : 10 < (V k).1 <;> first | (exfalso; exact row_not hA hD) | (exfalso; exact row_not hB hE) | (exfalso; revert c1 c6 c11 c16 c17; simp [hA, hB, hD, hE]; done) | (rw [cpK_x]; simp [hA, hB, hD, hE, c11]; done)
            rw [ew] at h0 ⊢
            refine w_ca (w_vst rfl rfl rfl (Nat.le_of_ble_eq_true rfl) (Nat.le_of_ble_eq_true rfl) (A_k S 64 (by decide))) (x_refuse P (by unfold isW; decide)) ?_
            rintro _ _ ⟨rfl, hi9, rfl, P9⟩
            show lm_wp _ 84 100 [.ref 64, .int (nI j), .int (nI k), .int i, .int i2, .int m, .ref (107 + 2 * j), .ref (107 + 2 * k), .int 1] [.int (-3)] (hi9, hl, X) _
            refine w_ri rfl rfl ?_
            exact cq_ P9 (by omega) hC
theorem y_copy_l {d : Nat} {hi : Nat → Nat → Int32} {hl : Nat → Nat → Int64} {X : lm_X} {hi0 : Nat → Nat → Int32} {hl0 : Nat → Nat → Int64} {X0 : lm_X} {n ts : Nat} {T : lm_T} {R : Nat → Int32} {KO : ab_K} {V : ab_V} {tl F : Nat → Int32} (P : mP hi0 hl0 X0 hi hl X T n R KO V ts tl F) {j k : Nat} {i i2 m : Int32} (hj : j < 8) (hk : k < 8) (h0 : ¬ cpK (V j).1 (V k).1 = 0) : lm_w (d + 30) 143 [.ref 123, .int (nI j), .int (nI k), .int i, .int i2, .int m] (hi, hl, X) (mQ hi0 hl0 X0 (.int (cpK (V j).1 (V k).1)) T n R KO V ts tl (rfU F (cpK (V j).1 (V k).1))) := by
  obtain ⟨SR, O, H, HR, HV, HT, HF, HK, E0, EL0, EX0⟩ := id P
  have S := SR.1
  refine lm_w_in (Nat.le_of_ble_eq_true rfl) ?_
  show lm_wp (d + 30) 143 0 [.ref 123, .int (nI j), .int (nI k), .int i, .int i2, .int m, lm_jk] [] (hi, hl, X) _
  refine w_N 4 6 [.ref 123, .int (nI j), .int (nI k), .int i, .int i2, .int m, lm_jk] [.long 7, .long 0, .long ((nI j).toInt64)] rfl ?_
  refine w_cc rfl (lm_c_1 (m_in (x := nI j) (lo := 0) (up := 7) rfl (by decide) (by decide)) (wi_t (n := 7) (Nat.le_of_lt_succ hj) (by decide))) ?_
  show lm_wp _ 143 9 [.ref 123, .int (nI j), .int (nI k), .int i, .int i2, .int m, lm_jk] [.int 1] (hi, hl, X) _
  refine w_if_eq_f (t := 24) rfl rfl (by decide) ?_
  refine w_N 4 18 [.ref 123, .int (nI j), .int (nI k), .int i, .int i2, .int m, lm_jk] [.long 7, .long 0, .long ((nI k).toInt64)] rfl ?_
  refine w_cc rfl (lm_c_1 (m_in (x := nI k) (lo := 0) (up := 7) rfl (by decide) (by decide)) (wi_t (n := 7) (Nat.le_of_lt_succ hk) (by decide))) ?_
  show lm_wp _ 143 21 [.ref 123, .int (nI j), .int (nI k), .int i, .int i2, .int m, lm_jk] [.int 1] (hi, hl, X) _
  refine w_if_ne_t (t := 31) rfl rfl (by decide) ?_
  refine w_N 1 32 [.ref 123, .int (nI j), .int (nI k), .int i, .int i2, .int m, lm_jk] [.ref 123] rfl ?_
  refine w_gr 124 rfl rfl rfl (M_kd S) (M_r S (k := 0) (o := 1) rfl) ?_
  refine w_N 1 36 [.ref 123, .int (nI j), .int (nI k), .int i, .int i2, .int m, lm_jk] [.int (nI j), .ref 124] rfl ?_
  refine w_ia j (v := shK (V j).1) rfl (show X.2.1 (124) = 1 from M_k S 1 (by decide)) (show X.2.2.1 (124) = 8 from M_l S 1 (by decide)) rfl hj (by decide) ((HV j hj).1) ?_
  refine w_N 1 38 [.ref 123, .int (nI j), .int (nI k), .int i, .int i2, .int m, lm_jk] [.int 2, .int (shK (V j).1)] rfl ?_
  refine w_icmp_eq (t := 86) rfl rfl (fun c1 => ?_) (fun c1 => ?_)
  · refine w_N 2 89 [.ref 123, .int (nI j), .int (nI k), .int i, .int i2, .int m, lm_jk] [.int (-3), .ref 123] rfl ?_
    have ew : cpK (V j).1 (V k).1 = (-3) := by
      rcases shK_or (V j).1 with q | q | q <;> rcases shK_or (V k).1 with r | r | r <;> first | (exfalso; revert c1; simp [q, r]; done) | (unfold cpK; simp [q, r]; done)
    rw [ew] at h0 ⊢
    refine w_ca (w_vst rfl rfl rfl (Nat.le_of_ble_eq_true rfl) (Nat.le_of_ble_eq_true rfl) (M_kd S)) (m_refuse P (by unfold isW; decide)) ?_
    rintro _ _ ⟨rfl, hi9, rfl, P9⟩
    show lm_wp _ 143 92 [.ref 123, .int (nI j), .int (nI k), .int i, .int i2, .int m, lm_jk] [.int (-3)] (hi9, hl, X) _
    refine w_ri rfl rfl ?_
    exact mq_ P9
  · refine w_N 1 42 [.ref 123, .int (nI j), .int (nI k), .int i, .int i2, .int m, lm_jk] [.ref 123] rfl ?_
    refine w_gr 124 rfl rfl rfl (M_kd S) (M_r S (k := 0) (o := 1) rfl) ?_
    refine w_N 1 46 [.ref 123, .int (nI j), .int (nI k), .int i, .int i2, .int m, lm_jk] [.int (nI k), .ref 124] rfl ?_
    refine w_ia k (v := shK (V k).1) rfl (show X.2.1 (124) = 1 from M_k S 1 (by decide)) (show X.2.2.1 (124) = 8 from M_l S 1 (by decide)) rfl hk (by decide) ((HV k hk).1) ?_
    refine w_N 1 48 [.ref 123, .int (nI j), .int (nI k), .int i, .int i2, .int m, lm_jk] [.int 2, .int (shK (V k).1)] rfl ?_
    refine w_icmp_eq (t := 86) rfl rfl (fun c2 => ?_) (fun c2 => ?_)
    · refine w_N 2 89 [.ref 123, .int (nI j), .int (nI k), .int i, .int i2, .int m, lm_jk] [.int (-3), .ref 123] rfl ?_
      have ew : cpK (V j).1 (V k).1 = (-3) := by
        rcases shK_or (V j).1 with q | q | q <;> rcases shK_or (V k).1 with r | r | r <;> first | (exfalso; revert c1 c2; simp [q, r]; done) | (unfold cpK; simp [q, r]; done)
      rw [ew] at h0 ⊢
      refine w_ca (w_vst rfl rfl rfl (Nat.le_of_ble_eq_true rfl) (Nat.le_of_ble_eq_true rfl) (M_kd S)) (m_refuse P (by unfold isW; decide)) ?_
      rintro _ _ ⟨rfl, hi9, rfl, P9⟩
      show lm_wp _ 143 92 [.ref 123, .int (nI j), .int (nI k), .int i, .int i2, .int m, lm_jk] [.int (-3)] (hi9, hl, X) _
      refine w_ri rfl rfl ?_
      exact mq_ P9
    · refine w_N 1 52 [.ref 123, .int (nI j), .int (nI k), .int i, .int i2, .int m, lm_jk] [.ref 123] rfl ?_
      refine w_gr 124 rfl rfl rfl (M_kd S) (M_r S (k := 0) (o := 1) rfl) ?_
      refine w_N 1 56 [.ref 123, .int (nI j), .int (nI k), .int i, .int i2, .int m, lm_jk] [.int (nI j), .ref 124] rfl ?_
      refine w_ia j (v := shK (V j).1) rfl (show X.2.1 (124) = 1 from M_k S 1 (by decide)) (show X.2.2.1 (124) = 8 from M_l S 1 (by decide)) rfl hj (by decide) ((HV j hj).1) ?_
      refine w_N 1 58 [.ref 123, .int (nI j), .int (nI k), .int i, .int i2, .int m, lm_jk] [.int 1, .int (shK (V j).1)] rfl ?_
      refine w_icmp_ne (t := 93) rfl rfl (fun c3 => ?_) (fun c3 => ?_)
      · refine w_N 1 94 [.ref 123, .int (nI j), .int (nI k), .int i, .int i2, .int m, lm_jk] [.ref 123] rfl ?_
        refine w_gr 124 rfl rfl rfl (M_kd S) (M_r S (k := 0) (o := 1) rfl) ?_
        refine w_N 1 98 [.ref 123, .int (nI j), .int (nI k), .int i, .int i2, .int m, lm_jk] [.int (nI j), .ref 124] rfl ?_
        refine w_ia j (v := shK (V j).1) rfl (show X.2.1 (124) = 1 from M_k S 1 (by decide)) (show X.2.2.1 (124) = 8 from M_l S 1 (by decide)) rfl hj (by decide) ((HV j hj).1) ?_
        refine w_if_eq (t := 111) rfl rfl (fun c4 => ?_) (fun c4 => ?_)
        · refine w_N 2 114 [.ref 123, .int (nI j), .int (nI k), .int i, .int i2, .int m, lm_jk] [.int (-4), .ref 123] rfl ?_
          have ew : cpK (V j).1 (V k).1 = (-4) := by
            rcases shK_or (V j).1 with q | q | q <;> rcases shK_or (V k).1 with r | r | r <;> first | (exfalso; revert c1 c2 c3 c4; simp [q, r]; done) | (unfold cpK; simp [q, r]; done)
          rw [ew] at h0 ⊢
          refine w_ca (w_vst rfl rfl rfl (Nat.le_of_ble_eq_true rfl) (Nat.le_of_ble_eq_true rfl) (M_kd S)) (m_refuse P (by unfold isW; decide)) ?_
          rintro _ _ ⟨rfl, hi9, rfl, P9⟩
          show lm_wp _ 143 117 [.ref 123, .int (nI j), .int (nI k), .int i, .int i2, .int m, lm_jk] [.int (-4)] (hi9, hl, X) _
          refine w_ri rfl rfl ?_
          exact mq_ P9
        · refine w_N 1 103 [.ref 123, .int (nI j), .int (nI k), .int i, .int i2, .int m, lm_jk] [.ref 123] rfl ?_
          refine w_gr 124 rfl rfl rfl (M_kd S) (M_r S (k := 0) (o := 1) rfl) ?_
          refine w_N 1 107 [.ref 123, .int (nI j), .int (nI k), .int i, .int i2, .int m, lm_jk] [.int (nI k), .ref 124] rfl ?_
          refine w_ia k (v := shK (V k).1) rfl (show X.2.1 (124) = 1 from M_k S 1 (by decide)) (show X.2.2.1 (124) = 8 from M_l S 1 (by decide)) rfl hk (by decide) ((HV k hk).1) ?_
          refine w_if_ne (t := 118) rfl rfl (fun c5 => ?_) (fun c5 => ?_)
          · refine absurd ?_ h0
            rcases shK_or (V j).1 with q | q | q <;> rcases shK_or (V k).1 with r | r | r <;> first | (exfalso; revert c1 c2 c3 c4 c5; simp [q, r]; done) | (unfold cpK; simp [q, r]; done)
          · refine w_N 2 114 [.ref 123, .int (nI j), .int (nI k), .int i, .int i2, .int m, lm_jk] [.int (-4), .ref 123] rfl ?_
            have ew : cpK (V j).1 (V k).1 = (-4) := by
              rcases shK_or (V j).1 with q | q | q <;> rcases shK_or (V k).1 with r | r | r <;> first | (exfalso; revert c1 c2 c3 c4 c5; simp [q, r]; done) | (unfold cpK; simp [q, r]; done)
            rw [ew] at h0 ⊢
            refine w_ca (w_vst rfl rfl rfl (Nat.le_of_ble_eq_true rfl) (Nat.le_of_ble_eq_true rfl) (M_kd S)) (m_refuse P (by unfold isW; decide)) ?_
            rintro _ _ ⟨rfl, hi9, rfl, P9⟩
            show lm_wp _ 143 117 [.ref 123, .int (nI j), .int (nI k), .int i, .int i2, .int m, lm_jk] [.int (-4)] (hi9, hl, X) _
            refine w_ri rfl rfl ?_
            exact mq_ P9
      · refine w_N 1 62 [.ref 123, .int (nI j), .int (nI k), .int i, .int i2, .int m, lm_jk] [.ref 123] rfl ?_
        refine w_gr 124 rfl rfl rfl (M_kd S) (M_r S (k := 0) (o := 1) rfl) ?_
        refine w_N 1 66 [.ref 123, .int (nI j), .int (nI k), .int i, .int i2, .int m, lm_jk] [.int (nI k), .ref 124] rfl ?_
        refine w_ia k (v := shK (V k).1) rfl (show X.2.1 (124) = 1 from M_k S 1 (by decide)) (show X.2.2.1 (124) = 8 from M_l S 1 (by decide)) rfl hk (by decide) ((HV k hk).1) ?_
        refine w_N 1 68 [.ref 123, .int (nI j), .int (nI k), .int i, .int i2, .int m, lm_jk] [.int 1, .int (shK (V k).1)] rfl ?_
        refine w_icmp_ne (t := 93) rfl rfl (fun c6 => ?_) (fun c6 => ?_)
        · refine w_N 1 94 [.ref 123, .int (nI j), .int (nI k), .int i, .int i2, .int m, lm_jk] [.ref 123] rfl ?_
          refine w_gr 124 rfl rfl rfl (M_kd S) (M_r S (k := 0) (o := 1) rfl) ?_
          refine w_N 1 98 [.ref 123, .int (nI j), .int (nI k), .int i, .int i2, .int m, lm_jk] [.int (nI j), .ref 124] rfl ?_
          refine w_ia j (v := shK (V j).1) rfl (show X.2.1 (124) = 1 from M_k S 1 (by decide)) (show X.2.2.1 (124) = 8 from M_l S 1 (by decide)) rfl hj (by decide) ((HV j hj).1) ?_
          refine w_if_eq (t := 111) rfl rfl (fun c7 => ?_) (fun c7 => ?_)
          · refine w_N 2 114 [.ref 123, .int (nI j), .int (nI k), .int i, .int i2, .int m, lm_jk] [.int (-4), .ref 123] rfl ?_
            have ew : cpK (V j).1 (V k).1 = (-4) := by
              rcases shK_or (V j).1 with q | q | q <;> rcases shK_or (V k).1 with r | r | r <;> first | (exfalso; revert c1 c2 c3 c6 c7; simp [q, r]; done) | (unfold cpK; simp [q, r]; done)
            rw [ew] at h0 ⊢
            refine w_ca (w_vst rfl rfl rfl (Nat.le_of_ble_eq_true rfl) (Nat.le_of_ble_eq_true rfl) (M_kd S)) (m_refuse P (by unfold isW; decide)) ?_
            rintro _ _ ⟨rfl, hi9, rfl, P9⟩
            show lm_wp _ 143 117 [.ref 123, .int (nI j), .int (nI k), .int i, .int i2, .int m, lm_jk] [.int (-4)] (hi9, hl, X) _
            refine w_ri rfl rfl ?_
            exact mq_ P9
          · refine w_N 1 103 [.ref 123, .int (nI j), .int (nI k), .int i, .int i2, .int m, lm_jk] [.ref 123] rfl ?_
            refine w_gr 124 rfl rfl rfl (M_kd S) (M_r S (k := 0) (o := 1) rfl) ?_
            refine w_N 1 107 [.ref 123, .int (nI j), .int (nI k), .int i, .int i2, .int m, lm_jk] [.int (nI k), .ref 124] rfl ?_
            refine w_ia k (v := shK (V k).1) rfl (show X.2.1 (124) = 1 from M_k S 1 (by decide)) (show X.2.2.1 (124) = 8 from M_l S 1 (by decide)) rfl hk (by decide) ((HV k hk).1) ?_
            refine w_if_ne (t := 118) rfl rfl (fun c8 => ?_) (fun c8 => ?_)
            · refine absurd ?_ h0
              rcases shK_or (V j).1 with q | q | q <;> rcases shK_or (V k).1 with r | r | r <;> first | (exfalso; revert c1 c2 c3 c6 c7 c8; simp [q, r]; done) | (unfold cpK; simp [q, r]; done)
            · refine w_N 2 114 [.ref 123, .int (nI j), .int (nI k), .int i, .int i2, .int m, lm_jk] [.int (-4), .ref 123] rfl ?_
              have ew : cpK (V j).1 (V k).1 = (-4) := by
                rcases shK_or (V j).1 with q | q | q <;> rcases shK_or (V k).1 with r | r | r <;> first | (exfalso; revert c1 c2 c3 c6 c7 c8; simp [q, r]; done) | (unfold cpK; simp [q, r]; done)
              rw [ew] at h0 ⊢
              refine w_ca (w_vst rfl rfl rfl (Nat.le_of_ble_eq_true rfl) (Nat.le_of_ble_eq_true rfl) (M_kd S)) (m_refuse P (by unfold isW; decide)) ?_
              rintro _ _ ⟨rfl, hi9, rfl, P9⟩
              show lm_wp _ 143 117 [.ref 123, .int (nI j), .int (nI k), .int i, .int i2, .int m, lm_jk] [.int (-4)] (hi9, hl, X) _
              refine w_ri rfl rfl ?_
              exact mq_ P9
        · refine w_N 1 72 [.ref 123, .int (nI j), .int (nI k), .int i, .int i2, .int m, lm_jk] [.ref 123] rfl ?_
          refine w_gr 125 rfl rfl rfl (M_kd S) (M_r S (k := 1) (o := 2) rfl) ?_
          refine w_N 1 76 [.ref 123, .int (nI j), .int (nI k), .int i, .int i2, .int m, lm_jk] [.int (nI j), .ref 125] rfl ?_
          refine w_ia j (v := (V j).1) rfl (show X.2.1 (125) = 1 from M_k S 2 (by decide)) (show X.2.2.1 (125) = 8 from M_l S 2 (by decide)) rfl hj (by decide) ((HV j hj).2.1 (shK_1 c3)) ?_
          refine w_N 1 78 [.ref 123, .int (nI j), .int (nI k), .int i, .int i2, .int m, lm_jk] [.ref 123, .int ((V j).1)] rfl ?_
          refine w_gr 125 rfl rfl rfl (M_kd S) (M_r S (k := 1) (o := 2) rfl) ?_
          refine w_N 1 82 [.ref 123, .int (nI j), .int (nI k), .int i, .int i2, .int m, lm_jk] [.int (nI k), .ref 125, .int ((V j).1)] rfl ?_
          refine w_ia k (v := (V k).1) rfl (show X.2.1 (125) = 1 from M_k S 2 (by decide)) (show X.2.2.1 (125) = 8 from M_l S 2 (by decide)) rfl hk (by decide) ((HV k hk).2.1 (shK_1 c6)) ?_
          refine w_icmp_eq (t := 93) rfl rfl (fun c9 => ?_) (fun c9 => ?_)
          · refine w_N 1 94 [.ref 123, .int (nI j), .int (nI k), .int i, .int i2, .int m, lm_jk] [.ref 123] rfl ?_
            refine w_gr 124 rfl rfl rfl (M_kd S) (M_r S (k := 0) (o := 1) rfl) ?_
            refine w_N 1 98 [.ref 123, .int (nI j), .int (nI k), .int i, .int i2, .int m, lm_jk] [.int (nI j), .ref 124] rfl ?_
            refine w_ia j (v := shK (V j).1) rfl (show X.2.1 (124) = 1 from M_k S 1 (by decide)) (show X.2.2.1 (124) = 8 from M_l S 1 (by decide)) rfl hj (by decide) ((HV j hj).1) ?_
            refine w_if_eq (t := 111) rfl rfl (fun c10 => ?_) (fun c10 => ?_)
            · refine w_N 2 114 [.ref 123, .int (nI j), .int (nI k), .int i, .int i2, .int m, lm_jk] [.int (-4), .ref 123] rfl ?_
              have ew : cpK (V j).1 (V k).1 = (-4) := by
                rcases shK_or (V j).1 with q | q | q <;> rcases shK_or (V k).1 with r | r | r <;> first | (exfalso; revert c1 c2 c3 c6 c9 c10; simp [q, r]; done) | (unfold cpK; simp [q, r, c9]; done)
              rw [ew] at h0 ⊢
              refine w_ca (w_vst rfl rfl rfl (Nat.le_of_ble_eq_true rfl) (Nat.le_of_ble_eq_true rfl) (M_kd S)) (m_refuse P (by unfold isW; decide)) ?_
              rintro _ _ ⟨rfl, hi9, rfl, P9⟩
              show lm_wp _ 143 117 [.ref 123, .int (nI j), .int (nI k), .int i, .int i2, .int m, lm_jk] [.int (-4)] (hi9, hl, X) _
              refine w_ri rfl rfl ?_
              exact mq_ P9
            · refine w_N 1 103 [.ref 123, .int (nI j), .int (nI k), .int i, .int i2, .int m, lm_jk] [.ref 123] rfl ?_
              refine w_gr 124 rfl rfl rfl (M_kd S) (M_r S (k := 0) (o := 1) rfl) ?_
              refine w_N 1 107 [.ref 123, .int (nI j), .int (nI k), .int i, .int i2, .int m, lm_jk] [.int (nI k), .ref 124] rfl ?_
              refine w_ia k (v := shK (V k).1) rfl (show X.2.1 (124) = 1 from M_k S 1 (by decide)) (show X.2.2.1 (124) = 8 from M_l S 1 (by decide)) rfl hk (by decide) ((HV k hk).1) ?_
              refine w_if_ne (t := 118) rfl rfl (fun c11 => ?_) (fun c11 => ?_)
              · refine absurd ?_ h0
                rcases shK_or (V j).1 with q | q | q <;> rcases shK_or (V k).1 with r | r | r <;> first | (exfalso; revert c1 c2 c3 c6 c9 c10 c11; simp [q, r]; done) | (unfold cpK; simp [q, r, c9]; done)
              · refine w_N 2 114 [.ref 123, .int (nI j), .int (nI k), .int i, .int i2, .int m, lm_jk] [.int (-4), .ref 123] rfl ?_
                have ew : cpK (V j).1 (V k).1 = (-4) := by
                  rcases shK_or (V j).1 with q | q | q <;> rcases shK_or (V k).1 with r | r | r <;> first | (exfalso; revert c1 c2 c3 c6 c9 c10 c11; simp [q, r]; done) | (unfold cpK; simp [q, r, c9]; done)
                rw [ew] at h0 ⊢
                refine w_ca (w_vst rfl rfl rfl (Nat.le_of_ble_eq_true rfl) (Nat.le_of_ble_eq_true rfl) (M_kd S)) (m_refuse P (by unfold isW; decide)) ?_
                rintro _ _ ⟨rfl, hi9, rfl, P9⟩
                show lm_wp _ 143 117 [.ref 123, .int (nI j), .int (nI k), .int i, .int i2, .int m, lm_jk] [.int (-4)] (hi9, hl, X) _
                refine w_ri rfl rfl ?_
                exact mq_ P9
          · refine w_N 2 89 [.ref 123, .int (nI j), .int (nI k), .int i, .int i2, .int m, lm_jk] [.int (-3), .ref 123] rfl ?_
            have ew : cpK (V j).1 (V k).1 = (-3) := by
              rcases shK_or (V j).1 with q | q | q <;> rcases shK_or (V k).1 with r | r | r <;> first | (exfalso; revert c1 c2 c3 c6 c9; simp [q, r]; done) | (unfold cpK; simp [q, r, c9]; done)
            rw [ew] at h0 ⊢
            refine w_ca (w_vst rfl rfl rfl (Nat.le_of_ble_eq_true rfl) (Nat.le_of_ble_eq_true rfl) (M_kd S)) (m_refuse P (by unfold isW; decide)) ?_
            rintro _ _ ⟨rfl, hi9, rfl, P9⟩
            show lm_wp _ 143 92 [.ref 123, .int (nI j), .int (nI k), .int i, .int i2, .int m, lm_jk] [.int (-3)] (hi9, hl, X) _
            refine w_ri rfl rfl ?_
            exact mq_ P9
theorem x_copy_c {d : Nat} {hi : Nat → Nat → Int32} {hl : Nat → Nat → Int64} {X : lm_X} {hi0 : Nat → Nat → Int32} {hl0 : Nat → Nat → Int64} {C n ts : Nat} {T : lm_T} {R : Nat → Int32} {KO : ab_K} {V : ab_V} {tl F : Nat → Int32} (P : cP hi0 hl0 hi hl X C T n R KO V ts tl F) {j k : Nat} {i i2 m : Int32} (hj : j < 8) (hk : k < 8) (hz : (V j).2.1 ≤ 40) (hz2 : (V k).2.1 ≤ 40) (hw : wi (V j).1 0 4 = true) (he : (V k).1 = (V j).1) (hb : (hsM i m (V j).2.1 && hsM i2 m (V k).2.1) = false) (hC : C + 25 < 2147483648) : lm_w (d + 30) 84 [.ref 64, .int (nI j), .int (nI k), .int i, .int i2, .int m] (hi, hl, X) (cQ hi0 hl0 X (C + 25) (.int (-2)) T n R KO V ts tl (rfU F (-2))) := by
  obtain ⟨S, O, H, HR, FO, HV, HT, HF, HK, E0, EL0⟩ := id P
  have hw2 : wi (V k).1 0 4 = true := by rw [he]; exact hw
  refine lm_w_in (Nat.le_of_ble_eq_true rfl) ?_
  show lm_wp (d + 30) 84 0 [.ref 64, .int (nI j), .int (nI k), .int i, .int i2, .int m, lm_jk, lm_jk, lm_jk] [] (hi, hl, X) _
  refine w_N 1 1 [.ref 64, .int (nI j), .int (nI k), .int i, .int i2, .int m, lm_jk, lm_jk, lm_jk] [.int (nI j)] rfl ?_
  refine w_cc rfl (x_isShelf1 (wi_t (n := 7) (Nat.le_of_lt_succ hj) (by decide))) ?_
  show lm_wp _ 84 4 [.ref 64, .int (nI j), .int (nI k), .int i, .int i2, .int m, lm_jk, lm_jk, lm_jk] [.int 1] (hi, hl, X) _
  refine w_if_eq_f (t := 14) rfl rfl (by decide) ?_
  refine w_N 1 8 [.ref 64, .int (nI j), .int (nI k), .int i, .int i2, .int m, lm_jk, lm_jk, lm_jk] [.int (nI k)] rfl ?_
  refine w_cc rfl (x_isShelf1 (wi_t (n := 7) (Nat.le_of_lt_succ hk) (by decide))) ?_
  show lm_wp _ 84 11 [.ref 64, .int (nI j), .int (nI k), .int i, .int i2, .int m, lm_jk, lm_jk, lm_jk] [.int 1] (hi, hl, X) _
  refine w_if_ne_t (t := 21) rfl rfl (by decide) ?_
  refine w_N 1 22 [.ref 64, .int (nI j), .int (nI k), .int i, .int i2, .int m, lm_jk, lm_jk, lm_jk] [.ref 64] rfl ?_
  refine w_gr 97 rfl rfl rfl (A_k S 64 (by decide)) (A_r S 64 5 (by decide)) ?_
  refine w_N 1 26 [.ref 64, .int (nI j), .int (nI k), .int i, .int i2, .int m, lm_jk, lm_jk, lm_jk] [.int (nI j), .ref 97] rfl ?_
  refine w_aa j (107 + 2 * j) rfl ⟨by rw [A_k S 97 (by decide)]; decide, by rw [A_k S 97 (by decide)]; decide⟩ (show X.2.2.1 97 = 8 from A_l S 97 (by decide)) rfl hj (by decide) (A_sv S hj) ?_
  refine w_N 2 30 [.ref 64, .int (nI j), .int (nI k), .int i, .int i2, .int m, .ref (107 + 2 * j), lm_jk, lm_jk] [.ref 64] rfl ?_
  refine w_gr 97 rfl rfl rfl (A_k S 64 (by decide)) (A_r S 64 5 (by decide)) ?_
  refine w_N 1 34 [.ref 64, .int (nI j), .int (nI k), .int i, .int i2, .int m, .ref (107 + 2 * j), lm_jk, lm_jk] [.int (nI k), .ref 97] rfl ?_
  refine w_aa k (107 + 2 * k) rfl ⟨by rw [A_k S 97 (by decide)]; decide, by rw [A_k S 97 (by decide)]; decide⟩ (show X.2.2.1 97 = 8 from A_l S 97 (by decide)) rfl hk (by decide) (A_sv S hk) ?_
  refine w_N 2 39 [.ref 64, .int (nI j), .int (nI k), .int i, .int i2, .int m, .ref (107 + 2 * j), .ref (107 + 2 * k), lm_jk] [.ref (107 + 2 * j)] rfl ?_
  refine w_cc (w_vst rfl rfl rfl (Nat.le_of_ble_eq_true rfl) (Nat.le_of_ble_eq_true rfl) (Sf_kd (A_Sf S hj))) (lm_c_1 (s_isRow (A_Sf S hj) ((HV j hj).1)) (hw)) ?_
  show lm_wp _ 84 42 [.ref 64, .int (nI j), .int (nI k), .int i, .int i2, .int m, .ref (107 + 2 * j), .ref (107 + 2 * k), lm_jk] [.int 1] (hi, hl, X) _
  refine w_if_eq_f (t := 70) rfl rfl (by decide) ?_
  refine w_N 1 47 [.ref 64, .int (nI j), .int (nI k), .int i, .int i2, .int m, .ref (107 + 2 * j), .ref (107 + 2 * k), lm_jk] [.ref (107 + 2 * k)] rfl ?_
  refine w_cc (w_vst rfl rfl rfl (Nat.le_of_ble_eq_true rfl) (Nat.le_of_ble_eq_true rfl) (Sf_kd (A_Sf S hk))) (lm_c_1 (s_isRow (A_Sf S hk) ((HV k hk).1)) (hw2)) ?_
  show lm_wp _ 84 50 [.ref 64, .int (nI j), .int (nI k), .int i, .int i2, .int m, .ref (107 + 2 * j), .ref (107 + 2 * k), lm_jk] [.int 1] (hi, hl, X) _
  refine w_if_eq_f (t := 70) rfl rfl (by decide) ?_
  refine w_N 1 55 [.ref 64, .int (nI j), .int (nI k), .int i, .int i2, .int m, .ref (107 + 2 * j), .ref (107 + 2 * k), lm_jk] [.ref (107 + 2 * j)] rfl ?_
  refine w_gi (v := (V j).1) rfl rfl rfl (Sf_kd (A_Sf S hj)) ((HV j hj).1) ?_
  refine w_N 1 60 [.ref 64, .int (nI j), .int (nI k), .int i, .int i2, .int m, .ref (107 + 2 * j), .ref (107 + 2 * k), lm_jk] [.ref (107 + 2 * k), .int ((V j).1)] rfl ?_
  refine w_gi (v := (V k).1) rfl rfl rfl (Sf_kd (A_Sf S hk)) ((HV k hk).1) ?_
  refine w_icmp_eq_t (t := 70) rfl rfl he.symm ?_
  refine w_N 3 75 [.ref 64, .int (nI j), .int (nI k), .int i, .int i2, .int m, .ref (107 + 2 * j), .ref (107 + 2 * k), .int 0] [.ref (107 + 2 * j)] rfl ?_
  refine w_cc (w_vst rfl rfl rfl (Nat.le_of_ble_eq_true rfl) (Nat.le_of_ble_eq_true rfl) (Sf_kd (A_Sf S hj))) (lm_c_v (s_isRule (A_Sf S hj) ((HV j hj).1)) (c_eqz (decide_eq_false (row_not hw)))) ?_
  show lm_wp _ 84 78 [.ref 64, .int (nI j), .int (nI k), .int i, .int i2, .int m, .ref (107 + 2 * j), .ref (107 + 2 * k), .int 0] [.int 0] (hi, hl, X) _
  refine w_if_ne_f (t := 94) rfl rfl (by decide) ?_
  refine w_N 1 83 [.ref 64, .int (nI j), .int (nI k), .int i, .int i2, .int m, .ref (107 + 2 * j), .ref (107 + 2 * k), .int 0] [.ref (107 + 2 * k)] rfl ?_
  refine w_cc (w_vst rfl rfl rfl (Nat.le_of_ble_eq_true rfl) (Nat.le_of_ble_eq_true rfl) (Sf_kd (A_Sf S hk))) (lm_c_v (s_isRule (A_Sf S hk) ((HV k hk).1)) (c_eqz (decide_eq_false (row_not hw2)))) ?_
  show lm_wp _ 84 86 [.ref 64, .int (nI j), .int (nI k), .int i, .int i2, .int m, .ref (107 + 2 * j), .ref (107 + 2 * k), .int 0] [.int 0] (hi, hl, X) _
  refine w_if_ne_f (t := 94) rfl rfl (by decide) ?_
  refine w_N 1 91 [.ref 64, .int (nI j), .int (nI k), .int i, .int i2, .int m, .ref (107 + 2 * j), .ref (107 + 2 * k), .int 0] [.int 0] rfl ?_
  refine w_if_eq_t (t := 101) rfl rfl (by decide) ?_
  refine w_N 1 103 [.ref 64, .int (nI j), .int (nI k), .int i, .int i2, .int m, .ref (107 + 2 * j), .ref (107 + 2 * k), .int 0] [.ref (107 + 2 * j)] rfl ?_
  refine w_cc (w_vst rfl rfl rfl (Nat.le_of_ble_eq_true rfl) (Nat.le_of_ble_eq_true rfl) (Sf_kd (A_Sf S hj))) (lm_c_1 (s_isRow (A_Sf S hj) ((HV j hj).1)) (hw)) ?_
  show lm_wp _ 84 106 [.ref 64, .int (nI j), .int (nI k), .int i, .int i2, .int m, .ref (107 + 2 * j), .ref (107 + 2 * k), .int 0] [.int 1] (hi, hl, X) _
  refine w_if_eq_f (t := 117) rfl rfl (by decide) ?_
  refine w_N 1 111 [.ref 64, .int (nI j), .int (nI k), .int i, .int i2, .int m, .ref (107 + 2 * j), .ref (107 + 2 * k), .int 0] [.ref (107 + 2 * k)] rfl ?_
  refine w_cc (w_vst rfl rfl rfl (Nat.le_of_ble_eq_true rfl) (Nat.le_of_ble_eq_true rfl) (Sf_kd (A_Sf S hk))) (lm_c_1 (s_isRow (A_Sf S hk) ((HV k hk).1)) (hw2)) ?_
  show lm_wp _ 84 114 [.ref 64, .int (nI j), .int (nI k), .int i, .int i2, .int m, .ref (107 + 2 * j), .ref (107 + 2 * k), .int 0] [.int 1] (hi, hl, X) _
  refine w_if_ne_t (t := 124) rfl rfl (by decide) ?_
  refine w_N 3 129 [.ref 64, .int (nI j), .int (nI k), .int i, .int i2, .int m, .ref (107 + 2 * j), .ref (107 + 2 * k), .int 0] [.int m, .int i, .ref (107 + 2 * j)] rfl ?_
  refine w_cc (w_vst rfl rfl rfl (Nat.le_of_ble_eq_true rfl) (Nat.le_of_ble_eq_true rfl) (Sf_kd (A_Sf S hj))) (s_hasCells (A_Sf S hj) ((HV j hj).2.1)) ?_
  show lm_wp _ 84 132 [.ref 64, .int (nI j), .int (nI k), .int i, .int i2, .int m, .ref (107 + 2 * j), .ref (107 + 2 * k), .int 0] [.int (bz (hsM i m (V j).2.1))] (hi, hl, X) _
  refine w_zeq (t := 147) rfl rfl (fun c1 => ?_) (fun c1 => ?_)
  · refine w_N 2 150 [.ref 64, .int (nI j), .int (nI k), .int i, .int i2, .int m, .ref (107 + 2 * j), .ref (107 + 2 * k), .int 0] [.int (-2), .ref 64] rfl ?_
    refine w_ca (w_vst rfl rfl rfl (Nat.le_of_ble_eq_true rfl) (Nat.le_of_ble_eq_true rfl) (A_k S 64 (by decide))) (x_refuse P (by unfold isW; decide)) ?_
    rintro _ _ ⟨rfl, hi9, rfl, P9⟩
    show lm_wp _ 84 153 [.ref 64, .int (nI j), .int (nI k), .int i, .int i2, .int m, .ref (107 + 2 * j), .ref (107 + 2 * k), .int 0] [.int (-2)] (hi9, hl, X) _
    refine w_ri rfl rfl ?_
    exact cq_ P9 (by omega) hC
  · refine w_N 3 141 [.ref 64, .int (nI j), .int (nI k), .int i, .int i2, .int m, .ref (107 + 2 * j), .ref (107 + 2 * k), .int 0] [.int m, .int i2, .ref (107 + 2 * k)] rfl ?_
    refine w_cc (w_vst rfl rfl rfl (Nat.le_of_ble_eq_true rfl) (Nat.le_of_ble_eq_true rfl) (Sf_kd (A_Sf S hk))) (s_hasCells (A_Sf S hk) ((HV k hk).2.1)) ?_
    show lm_wp _ 84 144 [.ref 64, .int (nI j), .int (nI k), .int i, .int i2, .int m, .ref (107 + 2 * j), .ref (107 + 2 * k), .int 0] [.int (bz (hsM i2 m (V k).2.1))] (hi, hl, X) _
    refine w_zne (t := 154) rfl rfl (fun c2 => ?_) (fun c2 => ?_)
    · exact absurd hb (by simp [c1, c2])
    · refine w_N 2 150 [.ref 64, .int (nI j), .int (nI k), .int i, .int i2, .int m, .ref (107 + 2 * j), .ref (107 + 2 * k), .int 0] [.int (-2), .ref 64] rfl ?_
      refine w_ca (w_vst rfl rfl rfl (Nat.le_of_ble_eq_true rfl) (Nat.le_of_ble_eq_true rfl) (A_k S 64 (by decide))) (x_refuse P (by unfold isW; decide)) ?_
      rintro _ _ ⟨rfl, hi9, rfl, P9⟩
      show lm_wp _ 84 153 [.ref 64, .int (nI j), .int (nI k), .int i, .int i2, .int m, .ref (107 + 2 * j), .ref (107 + 2 * k), .int 0] [.int (-2)] (hi9, hl, X) _
      refine w_ri rfl rfl ?_
      exact cq_ P9 (by omega) hC
theorem y_copy_c {d : Nat} {hi : Nat → Nat → Int32} {hl : Nat → Nat → Int64} {X : lm_X} {hi0 : Nat → Nat → Int32} {hl0 : Nat → Nat → Int64} {X0 : lm_X} {n ts : Nat} {T : lm_T} {R : Nat → Int32} {KO : ab_K} {V : ab_V} {tl F : Nat → Int32} (P : mP hi0 hl0 X0 hi hl X T n R KO V ts tl F) {j k : Nat} {i i2 m : Int32} (hj : j < 8) (hk : k < 8) (hz : (V j).2.1 ≤ 40) (hz2 : (V k).2.1 ≤ 40) (hw : wi (V j).1 0 4 = true) (he : (V k).1 = (V j).1) (hb : (hsM i m (V j).2.1 && hsM i2 m (V k).2.1) = false) : lm_w (d + 30) 143 [.ref 123, .int (nI j), .int (nI k), .int i, .int i2, .int m] (hi, hl, X) (mQ hi0 hl0 X0 (.int (-2)) T n R KO V ts tl (rfU F (-2))) := by
  obtain ⟨SR, O, H, HR, HV, HT, HF, HK, E0, EL0, EX0⟩ := id P
  have S := SR.1
  have hw2 : wi (V k).1 0 4 = true := by rw [he]; exact hw
  refine lm_w_in (Nat.le_of_ble_eq_true rfl) ?_
  show lm_wp (d + 30) 143 0 [.ref 123, .int (nI j), .int (nI k), .int i, .int i2, .int m, lm_jk] [] (hi, hl, X) _
  refine w_N 4 6 [.ref 123, .int (nI j), .int (nI k), .int i, .int i2, .int m, lm_jk] [.long 7, .long 0, .long ((nI j).toInt64)] rfl ?_
  refine w_cc rfl (lm_c_1 (m_in (x := nI j) (lo := 0) (up := 7) rfl (by decide) (by decide)) (wi_t (n := 7) (Nat.le_of_lt_succ hj) (by decide))) ?_
  show lm_wp _ 143 9 [.ref 123, .int (nI j), .int (nI k), .int i, .int i2, .int m, lm_jk] [.int 1] (hi, hl, X) _
  refine w_if_eq_f (t := 24) rfl rfl (by decide) ?_
  refine w_N 4 18 [.ref 123, .int (nI j), .int (nI k), .int i, .int i2, .int m, lm_jk] [.long 7, .long 0, .long ((nI k).toInt64)] rfl ?_
  refine w_cc rfl (lm_c_1 (m_in (x := nI k) (lo := 0) (up := 7) rfl (by decide) (by decide)) (wi_t (n := 7) (Nat.le_of_lt_succ hk) (by decide))) ?_
  show lm_wp _ 143 21 [.ref 123, .int (nI j), .int (nI k), .int i, .int i2, .int m, lm_jk] [.int 1] (hi, hl, X) _
  refine w_if_ne_t (t := 31) rfl rfl (by decide) ?_
  refine w_N 1 32 [.ref 123, .int (nI j), .int (nI k), .int i, .int i2, .int m, lm_jk] [.ref 123] rfl ?_
  refine w_gr 124 rfl rfl rfl (M_kd S) (M_r S (k := 0) (o := 1) rfl) ?_
  refine w_N 1 36 [.ref 123, .int (nI j), .int (nI k), .int i, .int i2, .int m, lm_jk] [.int (nI j), .ref 124] rfl ?_
  refine w_ia j (v := 1) rfl (show X.2.1 (124) = 1 from M_k S 1 (by decide)) (show X.2.2.1 (124) = 8 from M_l S 1 (by decide)) rfl hj (by decide) ((HV j hj).1.trans (shK_w hw)) ?_
  refine w_N 1 38 [.ref 123, .int (nI j), .int (nI k), .int i, .int i2, .int m, lm_jk] [.int 2, .int 1] rfl ?_
  refine w_icmp_eq_f (t := 86) rfl rfl (by decide) ?_
  refine w_N 1 42 [.ref 123, .int (nI j), .int (nI k), .int i, .int i2, .int m, lm_jk] [.ref 123] rfl ?_
  refine w_gr 124 rfl rfl rfl (M_kd S) (M_r S (k := 0) (o := 1) rfl) ?_
  refine w_N 1 46 [.ref 123, .int (nI j), .int (nI k), .int i, .int i2, .int m, lm_jk] [.int (nI k), .ref 124] rfl ?_
  refine w_ia k (v := 1) rfl (show X.2.1 (124) = 1 from M_k S 1 (by decide)) (show X.2.2.1 (124) = 8 from M_l S 1 (by decide)) rfl hk (by decide) ((HV k hk).1.trans (shK_w hw2)) ?_
  refine w_N 1 48 [.ref 123, .int (nI j), .int (nI k), .int i, .int i2, .int m, lm_jk] [.int 2, .int 1] rfl ?_
  refine w_icmp_eq_f (t := 86) rfl rfl (by decide) ?_
  refine w_N 1 52 [.ref 123, .int (nI j), .int (nI k), .int i, .int i2, .int m, lm_jk] [.ref 123] rfl ?_
  refine w_gr 124 rfl rfl rfl (M_kd S) (M_r S (k := 0) (o := 1) rfl) ?_
  refine w_N 1 56 [.ref 123, .int (nI j), .int (nI k), .int i, .int i2, .int m, lm_jk] [.int (nI j), .ref 124] rfl ?_
  refine w_ia j (v := 1) rfl (show X.2.1 (124) = 1 from M_k S 1 (by decide)) (show X.2.2.1 (124) = 8 from M_l S 1 (by decide)) rfl hj (by decide) ((HV j hj).1.trans (shK_w hw)) ?_
  refine w_N 1 58 [.ref 123, .int (nI j), .int (nI k), .int i, .int i2, .int m, lm_jk] [.int 1, .int 1] rfl ?_
  refine w_icmp_ne_f (t := 93) rfl rfl (by decide) ?_
  refine w_N 1 62 [.ref 123, .int (nI j), .int (nI k), .int i, .int i2, .int m, lm_jk] [.ref 123] rfl ?_
  refine w_gr 124 rfl rfl rfl (M_kd S) (M_r S (k := 0) (o := 1) rfl) ?_
  refine w_N 1 66 [.ref 123, .int (nI j), .int (nI k), .int i, .int i2, .int m, lm_jk] [.int (nI k), .ref 124] rfl ?_
  refine w_ia k (v := 1) rfl (show X.2.1 (124) = 1 from M_k S 1 (by decide)) (show X.2.2.1 (124) = 8 from M_l S 1 (by decide)) rfl hk (by decide) ((HV k hk).1.trans (shK_w hw2)) ?_
  refine w_N 1 68 [.ref 123, .int (nI j), .int (nI k), .int i, .int i2, .int m, lm_jk] [.int 1, .int 1] rfl ?_
  refine w_icmp_ne_f (t := 93) rfl rfl (by decide) ?_
  refine w_N 1 72 [.ref 123, .int (nI j), .int (nI k), .int i, .int i2, .int m, lm_jk] [.ref 123] rfl ?_
  refine w_gr 125 rfl rfl rfl (M_kd S) (M_r S (k := 1) (o := 2) rfl) ?_
  refine w_N 1 76 [.ref 123, .int (nI j), .int (nI k), .int i, .int i2, .int m, lm_jk] [.int (nI j), .ref 125] rfl ?_
  refine w_ia j (v := (V j).1) rfl (show X.2.1 (125) = 1 from M_k S 2 (by decide)) (show X.2.2.1 (125) = 8 from M_l S 2 (by decide)) rfl hj (by decide) ((HV j hj).2.1 hw) ?_
  refine w_N 1 78 [.ref 123, .int (nI j), .int (nI k), .int i, .int i2, .int m, lm_jk] [.ref 123, .int ((V j).1)] rfl ?_
  refine w_gr 125 rfl rfl rfl (M_kd S) (M_r S (k := 1) (o := 2) rfl) ?_
  refine w_N 1 82 [.ref 123, .int (nI j), .int (nI k), .int i, .int i2, .int m, lm_jk] [.int (nI k), .ref 125, .int ((V j).1)] rfl ?_
  refine w_ia k (v := (V k).1) rfl (show X.2.1 (125) = 1 from M_k S 2 (by decide)) (show X.2.2.1 (125) = 8 from M_l S 2 (by decide)) rfl hk (by decide) ((HV k hk).2.1 hw2) ?_
  refine w_icmp_eq_t (t := 93) rfl rfl he.symm ?_
  refine w_N 1 94 [.ref 123, .int (nI j), .int (nI k), .int i, .int i2, .int m, lm_jk] [.ref 123] rfl ?_
  refine w_gr 124 rfl rfl rfl (M_kd S) (M_r S (k := 0) (o := 1) rfl) ?_
  refine w_N 1 98 [.ref 123, .int (nI j), .int (nI k), .int i, .int i2, .int m, lm_jk] [.int (nI j), .ref 124] rfl ?_
  refine w_ia j (v := 1) rfl (show X.2.1 (124) = 1 from M_k S 1 (by decide)) (show X.2.2.1 (124) = 8 from M_l S 1 (by decide)) rfl hj (by decide) ((HV j hj).1.trans (shK_w hw)) ?_
  refine w_if_eq_f (t := 111) rfl rfl (by decide) ?_
  refine w_N 1 103 [.ref 123, .int (nI j), .int (nI k), .int i, .int i2, .int m, lm_jk] [.ref 123] rfl ?_
  refine w_gr 124 rfl rfl rfl (M_kd S) (M_r S (k := 0) (o := 1) rfl) ?_
  refine w_N 1 107 [.ref 123, .int (nI j), .int (nI k), .int i, .int i2, .int m, lm_jk] [.int (nI k), .ref 124] rfl ?_
  refine w_ia k (v := 1) rfl (show X.2.1 (124) = 1 from M_k S 1 (by decide)) (show X.2.2.1 (124) = 8 from M_l S 1 (by decide)) rfl hk (by decide) ((HV k hk).1.trans (shK_w hw2)) ?_
  refine w_if_ne_t (t := 118) rfl rfl (by decide) ?_
  refine w_N 1 120 [.ref 123, .int (nI j), .int (nI k), .int i, .int i2, .int m, lm_jk] [.int m] rfl ?_
  refine w_if_lt (t := 181) rfl rfl (fun c1 => ?_) (fun c1 => ?_)
  · refine w_N 2 184 [.ref 123, .int (nI j), .int (nI k), .int i, .int i2, .int m, lm_jk] [.int (-2), .ref 123] rfl ?_
    refine w_ca (w_vst rfl rfl rfl (Nat.le_of_ble_eq_true rfl) (Nat.le_of_ble_eq_true rfl) (M_kd S)) (m_refuse P (by unfold isW; decide)) ?_
    rintro _ _ ⟨rfl, hi9, rfl, P9⟩
    show lm_wp _ 143 187 [.ref 123, .int (nI j), .int (nI k), .int i, .int i2, .int m, lm_jk] [.int (-2)] (hi9, hl, X) _
    refine w_ri rfl rfl ?_
    exact mq_ P9
  · refine w_N 1 124 [.ref 123, .int (nI j), .int (nI k), .int i, .int i2, .int m, lm_jk] [.int i] rfl ?_
    refine w_if_lt (t := 181) rfl rfl (fun c2 => ?_) (fun c2 => ?_)
    · refine w_N 2 184 [.ref 123, .int (nI j), .int (nI k), .int i, .int i2, .int m, lm_jk] [.int (-2), .ref 123] rfl ?_
      refine w_ca (w_vst rfl rfl rfl (Nat.le_of_ble_eq_true rfl) (Nat.le_of_ble_eq_true rfl) (M_kd S)) (m_refuse P (by unfold isW; decide)) ?_
      rintro _ _ ⟨rfl, hi9, rfl, P9⟩
      show lm_wp _ 143 187 [.ref 123, .int (nI j), .int (nI k), .int i, .int i2, .int m, lm_jk] [.int (-2)] (hi9, hl, X) _
      refine w_ri rfl rfl ?_
      exact mq_ P9
    · refine w_N 1 129 [.ref 123, .int (nI j), .int (nI k), .int i, .int i2, .int m, lm_jk] [.int i2] rfl ?_
      refine w_if_lt (t := 181) rfl rfl (fun c3 => ?_) (fun c3 => ?_)
      · refine w_N 2 184 [.ref 123, .int (nI j), .int (nI k), .int i, .int i2, .int m, lm_jk] [.int (-2), .ref 123] rfl ?_
        refine w_ca (w_vst rfl rfl rfl (Nat.le_of_ble_eq_true rfl) (Nat.le_of_ble_eq_true rfl) (M_kd S)) (m_refuse P (by unfold isW; decide)) ?_
        rintro _ _ ⟨rfl, hi9, rfl, P9⟩
        show lm_wp _ 143 187 [.ref 123, .int (nI j), .int (nI k), .int i, .int i2, .int m, lm_jk] [.int (-2)] (hi9, hl, X) _
        refine w_ri rfl rfl ?_
        exact mq_ P9
      · refine w_N 2 135 [.ref 123, .int (nI j), .int (nI k), .int i, .int i2, .int m, lm_jk] [.ref 123, .int m] rfl ?_
        refine w_gr 126 rfl rfl rfl (M_kd S) (M_r S (k := 2) (o := 3) rfl) ?_
        refine w_N 1 139 [.ref 123, .int (nI j), .int (nI k), .int i, .int i2, .int m, lm_jk] [.int (nI j), .ref 126, .int m] rfl ?_
        refine w_ia j (v := nI (V j).2.1) rfl (show X.2.1 (126) = 1 from M_k S 3 (by decide)) (show X.2.2.1 (126) = 8 from M_l S 3 (by decide)) rfl hj (by decide) ((HV j hj).2.2.1) ?_
        refine w_icmp_gt (t := 181) rfl rfl (fun c4 => ?_) (fun c4 => ?_)
        · refine w_N 2 184 [.ref 123, .int (nI j), .int (nI k), .int i, .int i2, .int m, lm_jk] [.int (-2), .ref 123] rfl ?_
          refine w_ca (w_vst rfl rfl rfl (Nat.le_of_ble_eq_true rfl) (Nat.le_of_ble_eq_true rfl) (M_kd S)) (m_refuse P (by unfold isW; decide)) ?_
          rintro _ _ ⟨rfl, hi9, rfl, P9⟩
          show lm_wp _ 143 187 [.ref 123, .int (nI j), .int (nI k), .int i, .int i2, .int m, lm_jk] [.int (-2)] (hi9, hl, X) _
          refine w_ri rfl rfl ?_
          exact mq_ P9
        · refine w_N 2 146 [.ref 123, .int (nI j), .int (nI k), .int i, .int i2, .int m, lm_jk] [.ref 123, .int m] rfl ?_
          refine w_gr 126 rfl rfl rfl (M_kd S) (M_r S (k := 2) (o := 3) rfl) ?_
          refine w_N 1 150 [.ref 123, .int (nI j), .int (nI k), .int i, .int i2, .int m, lm_jk] [.int (nI k), .ref 126, .int m] rfl ?_
          refine w_ia k (v := nI (V k).2.1) rfl (show X.2.1 (126) = 1 from M_k S 3 (by decide)) (show X.2.2.1 (126) = 8 from M_l S 3 (by decide)) rfl hk (by decide) ((HV k hk).2.2.1) ?_
          refine w_icmp_gt (t := 181) rfl rfl (fun c5 => ?_) (fun c5 => ?_)
          · refine w_N 2 184 [.ref 123, .int (nI j), .int (nI k), .int i, .int i2, .int m, lm_jk] [.int (-2), .ref 123] rfl ?_
            refine w_ca (w_vst rfl rfl rfl (Nat.le_of_ble_eq_true rfl) (Nat.le_of_ble_eq_true rfl) (M_kd S)) (m_refuse P (by unfold isW; decide)) ?_
            rintro _ _ ⟨rfl, hi9, rfl, P9⟩
            show lm_wp _ 143 187 [.ref 123, .int (nI j), .int (nI k), .int i, .int i2, .int m, lm_jk] [.int (-2)] (hi9, hl, X) _
            refine w_ri rfl rfl ?_
            exact mq_ P9
          · refine w_N 2 156 [.ref 123, .int (nI j), .int (nI k), .int i, .int i2, .int m, lm_jk] [.ref 123, .int i] rfl ?_
            refine w_gr 126 rfl rfl rfl (M_kd S) (M_r S (k := 2) (o := 3) rfl) ?_
            refine w_N 1 160 [.ref 123, .int (nI j), .int (nI k), .int i, .int i2, .int m, lm_jk] [.int (nI j), .ref 126, .int i] rfl ?_
            refine w_ia j (v := nI (V j).2.1) rfl (show X.2.1 (126) = 1 from M_k S 3 (by decide)) (show X.2.2.1 (126) = 8 from M_l S 3 (by decide)) rfl hj (by decide) ((HV j hj).2.2.1) ?_
            refine w_N 2 164 [.ref 123, .int (nI j), .int (nI k), .int i, .int i2, .int m, lm_jk] [.int ((nI (V j).2.1) - m), .int i] rfl ?_
            refine w_icmp_gt (t := 181) rfl rfl (fun c6 => ?_) (fun c6 => ?_)
            · refine w_N 2 184 [.ref 123, .int (nI j), .int (nI k), .int i, .int i2, .int m, lm_jk] [.int (-2), .ref 123] rfl ?_
              refine w_ca (w_vst rfl rfl rfl (Nat.le_of_ble_eq_true rfl) (Nat.le_of_ble_eq_true rfl) (M_kd S)) (m_refuse P (by unfold isW; decide)) ?_
              rintro _ _ ⟨rfl, hi9, rfl, P9⟩
              show lm_wp _ 143 187 [.ref 123, .int (nI j), .int (nI k), .int i, .int i2, .int m, lm_jk] [.int (-2)] (hi9, hl, X) _
              refine w_ri rfl rfl ?_
              exact mq_ P9
            · refine w_N 2 170 [.ref 123, .int (nI j), .int (nI k), .int i, .int i2, .int m, lm_jk] [.ref 123, .int i2] rfl ?_
              refine w_gr 126 rfl rfl rfl (M_kd S) (M_r S (k := 2) (o := 3) rfl) ?_
              refine w_N 1 174 [.ref 123, .int (nI j), .int (nI k), .int i, .int i2, .int m, lm_jk] [.int (nI k), .ref 126, .int i2] rfl ?_
              refine w_ia k (v := nI (V k).2.1) rfl (show X.2.1 (126) = 1 from M_k S 3 (by decide)) (show X.2.2.1 (126) = 8 from M_l S 3 (by decide)) rfl hk (by decide) ((HV k hk).2.2.1) ?_
              refine w_N 2 178 [.ref 123, .int (nI j), .int (nI k), .int i, .int i2, .int m, lm_jk] [.int ((nI (V k).2.1) - m), .int i2] rfl ?_
              refine w_icmp_le (t := 188) rfl rfl (fun c7 => ?_) (fun c7 => ?_)
              · rw [hsM_r hz c1 c2 c6, hsM_r hz2 c1 c3 c7] at hb
                cases hb
              · refine w_N 2 184 [.ref 123, .int (nI j), .int (nI k), .int i, .int i2, .int m, lm_jk] [.int (-2), .ref 123] rfl ?_
                refine w_ca (w_vst rfl rfl rfl (Nat.le_of_ble_eq_true rfl) (Nat.le_of_ble_eq_true rfl) (M_kd S)) (m_refuse P (by unfold isW; decide)) ?_
                rintro _ _ ⟨rfl, hi9, rfl, P9⟩
                show lm_wp _ 143 187 [.ref 123, .int (nI j), .int (nI k), .int i, .int i2, .int m, lm_jk] [.int (-2)] (hi9, hl, X) _
                refine w_ri rfl rfl ?_
                exact mq_ P9
theorem x_copy {d : Nat} {hi : Nat → Nat → Int32} {hl : Nat → Nat → Int64} {X : lm_X} {hi0 : Nat → Nat → Int32} {hl0 : Nat → Nat → Int64} {C n ts : Nat} {T : lm_T} {R : Nat → Int32} {KO : ab_K} {V : ab_V} {tl F : Nat → Int32} (P : cP hi0 hl0 hi hl X C T n R KO V ts tl F) {j k a b m : Nat} (hj : j < 8) (hk : k < 8) (hz : (V j).2.1 ≤ 40) (hz2 : (V k).2.1 ≤ 40) (hw : wi (V j).1 0 4 = true) (he : (V k).1 = (V j).1) (ha : a + m ≤ (V j).2.1) (hb : b + m ≤ (V k).2.1) (hC : C + 25 < 2147483648) : lm_w (d + 30) 84 [.ref 64, .int (nI j), .int (nI k), .int (nI a), .int (nI b), .int (nI m)] (hi, hl, X) (cQ hi0 hl0 X (C + 25) (.int (nI m)) T n R KO (lm_u1 V k ((V k).1, (V k).2.1, (V k).2.2.1, va_cpy (V j).2.2.2 (V k).2.2.2 a b m)) ts tl F) := by
  obtain ⟨S, O, H, HR, FO, HV, HT, HF, HK, E0, EL0⟩ := id P
  have hw2 : wi (V k).1 0 4 = true := by rw [he]; exact hw
  refine lm_w_in (Nat.le_of_ble_eq_true rfl) ?_
  show lm_wp (d + 30) 84 0 [.ref 64, .int (nI j), .int (nI k), .int (nI a), .int (nI b), .int (nI m), lm_jk, lm_jk, lm_jk] [] (hi, hl, X) _
  refine w_N 1 1 [.ref 64, .int (nI j), .int (nI k), .int (nI a), .int (nI b), .int (nI m), lm_jk, lm_jk, lm_jk] [.int (nI j)] rfl ?_
  refine w_cc rfl (x_isShelf1 (wi_t (n := 7) (Nat.le_of_lt_succ hj) (by decide))) ?_
  show lm_wp _ 84 4 [.ref 64, .int (nI j), .int (nI k), .int (nI a), .int (nI b), .int (nI m), lm_jk, lm_jk, lm_jk] [.int 1] (hi, hl, X) _
  refine w_if_eq_f (t := 14) rfl rfl (by decide) ?_
  refine w_N 1 8 [.ref 64, .int (nI j), .int (nI k), .int (nI a), .int (nI b), .int (nI m), lm_jk, lm_jk, lm_jk] [.int (nI k)] rfl ?_
  refine w_cc rfl (x_isShelf1 (wi_t (n := 7) (Nat.le_of_lt_succ hk) (by decide))) ?_
  show lm_wp _ 84 11 [.ref 64, .int (nI j), .int (nI k), .int (nI a), .int (nI b), .int (nI m), lm_jk, lm_jk, lm_jk] [.int 1] (hi, hl, X) _
  refine w_if_ne_t (t := 21) rfl rfl (by decide) ?_
  refine w_N 1 22 [.ref 64, .int (nI j), .int (nI k), .int (nI a), .int (nI b), .int (nI m), lm_jk, lm_jk, lm_jk] [.ref 64] rfl ?_
  refine w_gr 97 rfl rfl rfl (A_k S 64 (by decide)) (A_r S 64 5 (by decide)) ?_
  refine w_N 1 26 [.ref 64, .int (nI j), .int (nI k), .int (nI a), .int (nI b), .int (nI m), lm_jk, lm_jk, lm_jk] [.int (nI j), .ref 97] rfl ?_
  refine w_aa j (107 + 2 * j) rfl ⟨by rw [A_k S 97 (by decide)]; decide, by rw [A_k S 97 (by decide)]; decide⟩ (show X.2.2.1 97 = 8 from A_l S 97 (by decide)) rfl hj (by decide) (A_sv S hj) ?_
  refine w_N 2 30 [.ref 64, .int (nI j), .int (nI k), .int (nI a), .int (nI b), .int (nI m), .ref (107 + 2 * j), lm_jk, lm_jk] [.ref 64] rfl ?_
  refine w_gr 97 rfl rfl rfl (A_k S 64 (by decide)) (A_r S 64 5 (by decide)) ?_
  refine w_N 1 34 [.ref 64, .int (nI j), .int (nI k), .int (nI a), .int (nI b), .int (nI m), .ref (107 + 2 * j), lm_jk, lm_jk] [.int (nI k), .ref 97] rfl ?_
  refine w_aa k (107 + 2 * k) rfl ⟨by rw [A_k S 97 (by decide)]; decide, by rw [A_k S 97 (by decide)]; decide⟩ (show X.2.2.1 97 = 8 from A_l S 97 (by decide)) rfl hk (by decide) (A_sv S hk) ?_
  refine w_N 2 39 [.ref 64, .int (nI j), .int (nI k), .int (nI a), .int (nI b), .int (nI m), .ref (107 + 2 * j), .ref (107 + 2 * k), lm_jk] [.ref (107 + 2 * j)] rfl ?_
  refine w_cc (w_vst rfl rfl rfl (Nat.le_of_ble_eq_true rfl) (Nat.le_of_ble_eq_true rfl) (Sf_kd (A_Sf S hj))) (lm_c_1 (s_isRow (A_Sf S hj) ((HV j hj).1)) (hw)) ?_
  show lm_wp _ 84 42 [.ref 64, .int (nI j), .int (nI k), .int (nI a), .int (nI b), .int (nI m), .ref (107 + 2 * j), .ref (107 + 2 * k), lm_jk] [.int 1] (hi, hl, X) _
  refine w_if_eq_f (t := 70) rfl rfl (by decide) ?_
  refine w_N 1 47 [.ref 64, .int (nI j), .int (nI k), .int (nI a), .int (nI b), .int (nI m), .ref (107 + 2 * j), .ref (107 + 2 * k), lm_jk] [.ref (107 + 2 * k)] rfl ?_
  refine w_cc (w_vst rfl rfl rfl (Nat.le_of_ble_eq_true rfl) (Nat.le_of_ble_eq_true rfl) (Sf_kd (A_Sf S hk))) (lm_c_1 (s_isRow (A_Sf S hk) ((HV k hk).1)) (hw2)) ?_
  show lm_wp _ 84 50 [.ref 64, .int (nI j), .int (nI k), .int (nI a), .int (nI b), .int (nI m), .ref (107 + 2 * j), .ref (107 + 2 * k), lm_jk] [.int 1] (hi, hl, X) _
  refine w_if_eq_f (t := 70) rfl rfl (by decide) ?_
  refine w_N 1 55 [.ref 64, .int (nI j), .int (nI k), .int (nI a), .int (nI b), .int (nI m), .ref (107 + 2 * j), .ref (107 + 2 * k), lm_jk] [.ref (107 + 2 * j)] rfl ?_
  refine w_gi (v := (V j).1) rfl rfl rfl (Sf_kd (A_Sf S hj)) ((HV j hj).1) ?_
  refine w_N 1 60 [.ref 64, .int (nI j), .int (nI k), .int (nI a), .int (nI b), .int (nI m), .ref (107 + 2 * j), .ref (107 + 2 * k), lm_jk] [.ref (107 + 2 * k), .int ((V j).1)] rfl ?_
  refine w_gi (v := (V k).1) rfl rfl rfl (Sf_kd (A_Sf S hk)) ((HV k hk).1) ?_
  refine w_icmp_eq_t (t := 70) rfl rfl he.symm ?_
  refine w_N 3 75 [.ref 64, .int (nI j), .int (nI k), .int (nI a), .int (nI b), .int (nI m), .ref (107 + 2 * j), .ref (107 + 2 * k), .int 0] [.ref (107 + 2 * j)] rfl ?_
  refine w_cc (w_vst rfl rfl rfl (Nat.le_of_ble_eq_true rfl) (Nat.le_of_ble_eq_true rfl) (Sf_kd (A_Sf S hj))) (lm_c_v (s_isRule (A_Sf S hj) ((HV j hj).1)) (c_eqz (decide_eq_false (row_not hw)))) ?_
  show lm_wp _ 84 78 [.ref 64, .int (nI j), .int (nI k), .int (nI a), .int (nI b), .int (nI m), .ref (107 + 2 * j), .ref (107 + 2 * k), .int 0] [.int 0] (hi, hl, X) _
  refine w_if_ne_f (t := 94) rfl rfl (by decide) ?_
  refine w_N 1 83 [.ref 64, .int (nI j), .int (nI k), .int (nI a), .int (nI b), .int (nI m), .ref (107 + 2 * j), .ref (107 + 2 * k), .int 0] [.ref (107 + 2 * k)] rfl ?_
  refine w_cc (w_vst rfl rfl rfl (Nat.le_of_ble_eq_true rfl) (Nat.le_of_ble_eq_true rfl) (Sf_kd (A_Sf S hk))) (lm_c_v (s_isRule (A_Sf S hk) ((HV k hk).1)) (c_eqz (decide_eq_false (row_not hw2)))) ?_
  show lm_wp _ 84 86 [.ref 64, .int (nI j), .int (nI k), .int (nI a), .int (nI b), .int (nI m), .ref (107 + 2 * j), .ref (107 + 2 * k), .int 0] [.int 0] (hi, hl, X) _
  refine w_if_ne_f (t := 94) rfl rfl (by decide) ?_
  refine w_N 1 91 [.ref 64, .int (nI j), .int (nI k), .int (nI a), .int (nI b), .int (nI m), .ref (107 + 2 * j), .ref (107 + 2 * k), .int 0] [.int 0] rfl ?_
  refine w_if_eq_t (t := 101) rfl rfl (by decide) ?_
  refine w_N 1 103 [.ref 64, .int (nI j), .int (nI k), .int (nI a), .int (nI b), .int (nI m), .ref (107 + 2 * j), .ref (107 + 2 * k), .int 0] [.ref (107 + 2 * j)] rfl ?_
  refine w_cc (w_vst rfl rfl rfl (Nat.le_of_ble_eq_true rfl) (Nat.le_of_ble_eq_true rfl) (Sf_kd (A_Sf S hj))) (lm_c_1 (s_isRow (A_Sf S hj) ((HV j hj).1)) (hw)) ?_
  show lm_wp _ 84 106 [.ref 64, .int (nI j), .int (nI k), .int (nI a), .int (nI b), .int (nI m), .ref (107 + 2 * j), .ref (107 + 2 * k), .int 0] [.int 1] (hi, hl, X) _
  refine w_if_eq_f (t := 117) rfl rfl (by decide) ?_
  refine w_N 1 111 [.ref 64, .int (nI j), .int (nI k), .int (nI a), .int (nI b), .int (nI m), .ref (107 + 2 * j), .ref (107 + 2 * k), .int 0] [.ref (107 + 2 * k)] rfl ?_
  refine w_cc (w_vst rfl rfl rfl (Nat.le_of_ble_eq_true rfl) (Nat.le_of_ble_eq_true rfl) (Sf_kd (A_Sf S hk))) (lm_c_1 (s_isRow (A_Sf S hk) ((HV k hk).1)) (hw2)) ?_
  show lm_wp _ 84 114 [.ref 64, .int (nI j), .int (nI k), .int (nI a), .int (nI b), .int (nI m), .ref (107 + 2 * j), .ref (107 + 2 * k), .int 0] [.int 1] (hi, hl, X) _
  refine w_if_ne_t (t := 124) rfl rfl (by decide) ?_
  refine w_N 3 129 [.ref 64, .int (nI j), .int (nI k), .int (nI a), .int (nI b), .int (nI m), .ref (107 + 2 * j), .ref (107 + 2 * k), .int 0] [.int (nI m), .int (nI a), .ref (107 + 2 * j)] rfl ?_
  refine w_cc (w_vst rfl rfl rfl (Nat.le_of_ble_eq_true rfl) (Nat.le_of_ble_eq_true rfl) (Sf_kd (A_Sf S hj))) (lm_c_1 (s_hasCells (A_Sf S hj) ((HV j hj).2.1)) ((hsM_e hz).mpr ⟨a, m, rfl, rfl, ha⟩)) ?_
  show lm_wp _ 84 132 [.ref 64, .int (nI j), .int (nI k), .int (nI a), .int (nI b), .int (nI m), .ref (107 + 2 * j), .ref (107 + 2 * k), .int 0] [.int 1] (hi, hl, X) _
  refine w_if_eq_f (t := 147) rfl rfl (by decide) ?_
  refine w_N 3 141 [.ref 64, .int (nI j), .int (nI k), .int (nI a), .int (nI b), .int (nI m), .ref (107 + 2 * j), .ref (107 + 2 * k), .int 0] [.int (nI m), .int (nI b), .ref (107 + 2 * k)] rfl ?_
  refine w_cc (w_vst rfl rfl rfl (Nat.le_of_ble_eq_true rfl) (Nat.le_of_ble_eq_true rfl) (Sf_kd (A_Sf S hk))) (lm_c_1 (s_hasCells (A_Sf S hk) ((HV k hk).2.1)) ((hsM_e hz2).mpr ⟨b, m, rfl, rfl, hb⟩)) ?_
  show lm_wp _ 84 144 [.ref 64, .int (nI j), .int (nI k), .int (nI a), .int (nI b), .int (nI m), .ref (107 + 2 * j), .ref (107 + 2 * k), .int 0] [.int 1] (hi, hl, X) _
  refine w_if_ne_t (t := 154) rfl rfl (by decide) ?_
  refine w_N 1 156 [.ref 64, .int (nI j), .int (nI k), .int (nI a), .int (nI b), .int (nI m), .ref (107 + 2 * j), .ref (107 + 2 * k), .int 0] [.ref (107 + 2 * j)] rfl ?_
  refine w_gr (107 + 2 * j + 1) rfl rfl rfl (Sf_kd (A_Sf S hj)) (Sf_r0 (A_Sf S hj)) ?_
  refine w_N 2 162 [.ref 64, .int (nI j), .int (nI k), .int (nI a), .int (nI b), .int (nI m), .ref (107 + 2 * j), .ref (107 + 2 * k), .int 0] [.ref (107 + 2 * k), .int (nI a), .ref (107 + 2 * j + 1)] rfl ?_
  refine w_gr (107 + 2 * k + 1) rfl rfl rfl (Sf_kd (A_Sf S hk)) (Sf_r0 (A_Sf S hk)) ?_
  refine w_N 2 169 [.ref 64, .int (nI j), .int (nI k), .int (nI a), .int (nI b), .int (nI m), .ref (107 + 2 * j), .ref (107 + 2 * k), .int 0] [.int (nI m), .int (nI b), .ref (107 + 2 * k + 1), .int (nI a), .ref (107 + 2 * j + 1)] rfl ?_
  refine w_acl a b m rfl rfl (Nat.le_of_ble_eq_true rfl) (Sf_k0 (A_Sf S hj)) (Sf_k0 (A_Sf S hk)) (Nat.le_trans (Sf_64 (A_Sf S hj)) (Nat.le_add_right _ _)) (Nat.le_trans (Sf_64 (A_Sf S hk)) (Nat.le_add_right _ _)) (Sf_l0 (A_Sf S hj)) (Sf_l0 (A_Sf S hk)) rfl rfl rfl (by omega) (rfl) (rfl) ?_
  show lm_wp _ 84 172 [.ref 64, .int (nI j), .int (nI k), .int (nI a), .int (nI b), .int (nI m), .ref (107 + 2 * j), .ref (107 + 2 * k), .int 0] [] (hi, lm_row hl (107 + 2 * k + 1) (va_cpy (hl (107 + 2 * j + 1)) (hl (107 + 2 * k + 1)) a b m), X) _
  refine w_N 1 174 [.ref 64, .int (nI j), .int (nI k), .int (nI a), .int (nI b), .int (nI m), .ref (107 + 2 * j), .ref (107 + 2 * k), .int 0] [.int (nI m)] rfl ?_
  refine w_ri rfl rfl ?_
  refine cq_ (cP_shelf hk P (fun b hb => rfl) (fun b hb => lm_rw_na hb) (HV k hk).1 (HV k hk).2.1 (HV k hk).2.2.1 (fun x hx => ?_)) (by omega) hC
  rw [lm_rw_eq]
  unfold va_cpy
  split
  · exact (HV j hj).2.2.2 _ (by omega)
  · exact (HV k hk).2.2.2 x hx
theorem y_cp1 {d : Nat} {hi : Nat → Nat → Int32} {hl : Nat → Nat → Int64} {X : lm_X} {j k a b m : Nat} (S : sh_M X 123) (hj : j < 8) (hk : k < 8) (ha : a + m ≤ 40) (hb : b + m ≤ 40) {P : Option Value → lm_H → Prop} (kc : ∀ (c : Int32) (hl' : Nat → Nat → Int64), (∀ a, a ≠ 136 → hl' a = hl a) → (∀ x, x < m → hl' 136 x = hl (123 + (5 + j)) (a + x)) → lm_wp d 143 222 [.ref 123, .int (nI j), .int (nI k), .int (nI a), .int (nI b), .int (nI m), .int c] [] (hi, hl', X) P) : ∀ (r y : Nat) (hl' : Nat → Nat → Int64) (mk : Int32), y + r = m → (mk = nI y) → (∀ a, a ≠ 136 → hl' a = hl a) → (∀ x, x < y → hl' 136 x = hl (123 + (5 + j)) (a + x)) → lm_wp d 143 191 [.ref 123, .int (nI j), .int (nI k), .int (nI a), .int (nI b), .int (nI m), .int mk] [] (hi, hl', X) P := by
  intro r
  induction r with
  | zero =>
    intro y hl' mk hm e2 a0 b0
    refine w_N 2 195 [.ref 123, .int (nI j), .int (nI k), .int (nI a), .int (nI b), .int (nI m), .int mk] [.int (nI m), .int mk] rfl ?_
    refine w_icmp_ge_t (t := 222) rfl rfl (by rw [e2, show y = m by omega]; exact fun z => Int32.lt_irrefl z) ?_
    obtain rfl : y = m := by omega
    exact kc _ hl' a0 b0
  | succ r ih =>
    intro y hl' mk hm e2 a0 b0
    refine w_N 2 195 [.ref 123, .int (nI j), .int (nI k), .int (nI a), .int (nI b), .int (nI m), .int mk] [.int (nI m), .int mk] rfl ?_
    refine w_icmp_ge_f (t := 222) rfl rfl (by rw [e2]; exact nI_lt (by omega) (by omega)) ?_
    refine w_N 1 199 [.ref 123, .int (nI j), .int (nI k), .int (nI a), .int (nI b), .int (nI m), .int mk] [.ref 123] rfl ?_
    refine w_gr 136 rfl rfl rfl (M_kd S) (M_r S (k := 4) (o := 13) rfl) ?_
    refine w_N 2 205 [.ref 123, .int (nI j), .int (nI k), .int (nI a), .int (nI b), .int (nI m), .int mk] [.ref 123, .int mk, .ref 136] rfl ?_
    refine w_gr 127 rfl rfl rfl (M_kd S) (M_r S (k := 3) (o := 4) rfl) ?_
    refine w_N 1 209 [.ref 123, .int (nI j), .int (nI k), .int (nI a), .int (nI b), .int (nI m), .int mk] [.int (nI j), .ref 127, .int mk, .ref 136] rfl ?_
    refine w_aa j (123 + (5 + j)) rfl (M_kk S (o := 4) (by decide)) (show X.2.2.1 (127) = 8 from M_l S 4 (by decide)) rfl hj (by decide) (M_ror S hj) ?_
    refine w_N 3 214 [.ref 123, .int (nI j), .int (nI k), .int (nI a), .int (nI b), .int (nI m), .int mk] [.int ((nI a) + mk), .ref (123 + (5 + j)), .int mk, .ref 136] rfl ?_
    refine w_la (a + y) (v := hl' (123 + (5 + j)) (a + y)) rfl (M_rok S hj) (M_rol S hj) (by rw [e2, nI_add']) (by omega) (by decide) (rfl) ?_
    refine w_ls y rfl (show X.2.1 (136) = 2 from M_k S 13 (by decide)) (by decide) (show X.2.2.1 (136) = 40 from M_l S 13 (by decide)) e2 (by omega) (by decide) ?_
    refine w_N 2 191 [.ref 123, .int (nI j), .int (nI k), .int (nI a), .int (nI b), .int (nI m), .int (mk + 1)] [] rfl ?_
    refine ih (y + 1) _ _ (by omega) (by rw [e2, nI_succ]) (fun a ha => (lm_up_rw ha).trans (a0 a ha)) (fun x hx => ?_)
    by_cases q : x = y
    · subst q; rw [lm_up_eq, a0 _ (by omega)]
    · rw [lm_up_nk q]; exact b0 x (by omega)
theorem y_cp2 {d : Nat} {hi : Nat → Nat → Int32} {hl : Nat → Nat → Int64} {X : lm_X} {j k a b m : Nat} (S : sh_M X 123) (hj : j < 8) (hk : k < 8) (ha : a + m ≤ 40) (hb : b + m ≤ 40) {P : Option Value → lm_H → Prop} (kc : ∀ (c : Int32) (hl' : Nat → Nat → Int64), (∀ a, a ≠ 123 + (5 + k) → hl' a = hl a) → (∀ x, x < 40 → hl' (123 + (5 + k)) x = if b ≤ x ∧ x < b + m then hl 136 (x - b) else hl (123 + (5 + k)) x) → lm_wp d 143 257 [.ref 123, .int (nI j), .int (nI k), .int (nI a), .int (nI b), .int (nI m), .int c] [] (hi, hl', X) P) : ∀ (r y : Nat) (hl' : Nat → Nat → Int64) (mk : Int32), y + r = m → (mk = nI y) → (∀ a, a ≠ 123 + (5 + k) → hl' a = hl a) → (∀ x, x < 40 → hl' (123 + (5 + k)) x = if b ≤ x ∧ x < b + y then hl 136 (x - b) else hl (123 + (5 + k)) x) → lm_wp d 143 225 [.ref 123, .int (nI j), .int (nI k), .int (nI a), .int (nI b), .int (nI m), .int mk] [] (hi, hl', X) P := by
  intro r
  induction r with
  | zero =>
    intro y hl' mk hm e2 a0 b0
    refine w_N 2 229 [.ref 123, .int (nI j), .int (nI k), .int (nI a), .int (nI b), .int (nI m), .int mk] [.int (nI m), .int mk] rfl ?_
    refine w_icmp_ge_t (t := 257) rfl rfl (by rw [e2, show y = m by omega]; exact fun z => Int32.lt_irrefl z) ?_
    obtain rfl : y = m := by omega
    exact kc _ hl' a0 b0
  | succ r ih =>
    intro y hl' mk hm e2 a0 b0
    refine w_N 2 229 [.ref 123, .int (nI j), .int (nI k), .int (nI a), .int (nI b), .int (nI m), .int mk] [.int (nI m), .int mk] rfl ?_
    refine w_icmp_ge_f (t := 257) rfl rfl (by rw [e2]; exact nI_lt (by omega) (by omega)) ?_
    refine w_N 1 233 [.ref 123, .int (nI j), .int (nI k), .int (nI a), .int (nI b), .int (nI m), .int mk] [.ref 123] rfl ?_
    refine w_gr 127 rfl rfl rfl (M_kd S) (M_r S (k := 3) (o := 4) rfl) ?_
    refine w_N 1 237 [.ref 123, .int (nI j), .int (nI k), .int (nI a), .int (nI b), .int (nI m), .int mk] [.int (nI k), .ref 127] rfl ?_
    refine w_aa k (123 + (5 + k)) rfl (M_kk S (o := 4) (by decide)) (show X.2.2.1 (127) = 8 from M_l S 4 (by decide)) rfl hk (by decide) (M_ror S hk) ?_
    refine w_N 4 244 [.ref 123, .int (nI j), .int (nI k), .int (nI a), .int (nI b), .int (nI m), .int mk] [.ref 123, .int ((nI b) + mk), .ref (123 + (5 + k))] rfl ?_
    refine w_gr 136 rfl rfl rfl (M_kd S) (M_r S (k := 4) (o := 13) rfl) ?_
    refine w_N 1 249 [.ref 123, .int (nI j), .int (nI k), .int (nI a), .int (nI b), .int (nI m), .int mk] [.int mk, .ref 136, .int ((nI b) + mk), .ref (123 + (5 + k))] rfl ?_
    refine w_la y (v := hl' 136 y) rfl (show X.2.1 (136) = 2 from M_k S 13 (by decide)) (show X.2.2.1 (136) = 40 from M_l S 13 (by decide)) e2 (by omega) (by decide) (rfl) ?_
    refine w_ls (b + y) rfl (M_rok S hk) (Nat.le_trans (M_64 S) (Nat.le_add_right _ _)) (M_rol S hk) (by rw [e2, nI_add']) (by omega) (by decide) ?_
    refine w_N 2 225 [.ref 123, .int (nI j), .int (nI k), .int (nI a), .int (nI b), .int (nI m), .int (mk + 1)] [] rfl ?_
    refine ih (y + 1) _ _ (by omega) (by rw [e2, nI_succ]) (fun a ha => (lm_up_rw ha).trans (a0 a ha)) (fun x hx => ?_)
    by_cases q : x = b + y
    · subst q; rw [lm_up_eq, if_pos (by omega), a0 _ (by omega), show b + y - b = y by omega]
    · rw [lm_up_nk q, b0 x hx]; by_cases q2 : b ≤ x ∧ x < b + y; rw [if_pos q2, if_pos (by omega)]; rw [if_neg q2, if_neg (by omega)]
theorem y_copy {d : Nat} {hi : Nat → Nat → Int32} {hl : Nat → Nat → Int64} {X : lm_X} {hi0 : Nat → Nat → Int32} {hl0 : Nat → Nat → Int64} {X0 : lm_X} {n ts : Nat} {T : lm_T} {R : Nat → Int32} {KO : ab_K} {V : ab_V} {tl F : Nat → Int32} (P : mP hi0 hl0 X0 hi hl X T n R KO V ts tl F) {j k a b m : Nat} (hj : j < 8) (hk : k < 8) (hz : (V j).2.1 ≤ 40) (hz2 : (V k).2.1 ≤ 40) (hw : wi (V j).1 0 4 = true) (he : (V k).1 = (V j).1) (ha : a + m ≤ (V j).2.1) (hb : b + m ≤ (V k).2.1) : lm_w (d + 30) 143 [.ref 123, .int (nI j), .int (nI k), .int (nI a), .int (nI b), .int (nI m)] (hi, hl, X) (mQ hi0 hl0 X0 (.int (nI m)) T n R KO (lm_u1 V k ((V k).1, (V k).2.1, (V k).2.2.1, va_cpy (V j).2.2.2 (V k).2.2.2 a b m)) ts tl F) := by
  obtain ⟨SR, O, H, HR, HV, HT, HF, HK, E0, EL0, EX0⟩ := id P
  have S := SR.1
  have hw2 : wi (V k).1 0 4 = true := by rw [he]; exact hw
  refine lm_w_in (Nat.le_of_ble_eq_true rfl) ?_
  show lm_wp (d + 30) 143 0 [.ref 123, .int (nI j), .int (nI k), .int (nI a), .int (nI b), .int (nI m), lm_jk] [] (hi, hl, X) _
  refine w_N 4 6 [.ref 123, .int (nI j), .int (nI k), .int (nI a), .int (nI b), .int (nI m), lm_jk] [.long 7, .long 0, .long ((nI j).toInt64)] rfl ?_
  refine w_cc rfl (lm_c_1 (m_in (x := nI j) (lo := 0) (up := 7) rfl (by decide) (by decide)) (wi_t (n := 7) (Nat.le_of_lt_succ hj) (by decide))) ?_
  show lm_wp _ 143 9 [.ref 123, .int (nI j), .int (nI k), .int (nI a), .int (nI b), .int (nI m), lm_jk] [.int 1] (hi, hl, X) _
  refine w_if_eq_f (t := 24) rfl rfl (by decide) ?_
  refine w_N 4 18 [.ref 123, .int (nI j), .int (nI k), .int (nI a), .int (nI b), .int (nI m), lm_jk] [.long 7, .long 0, .long ((nI k).toInt64)] rfl ?_
  refine w_cc rfl (lm_c_1 (m_in (x := nI k) (lo := 0) (up := 7) rfl (by decide) (by decide)) (wi_t (n := 7) (Nat.le_of_lt_succ hk) (by decide))) ?_
  show lm_wp _ 143 21 [.ref 123, .int (nI j), .int (nI k), .int (nI a), .int (nI b), .int (nI m), lm_jk] [.int 1] (hi, hl, X) _
  refine w_if_ne_t (t := 31) rfl rfl (by decide) ?_
  refine w_N 1 32 [.ref 123, .int (nI j), .int (nI k), .int (nI a), .int (nI b), .int (nI m), lm_jk] [.ref 123] rfl ?_
  refine w_gr 124 rfl rfl rfl (M_kd S) (M_r S (k := 0) (o := 1) rfl) ?_
  refine w_N 1 36 [.ref 123, .int (nI j), .int (nI k), .int (nI a), .int (nI b), .int (nI m), lm_jk] [.int (nI j), .ref 124] rfl ?_
  refine w_ia j (v := 1) rfl (show X.2.1 (124) = 1 from M_k S 1 (by decide)) (show X.2.2.1 (124) = 8 from M_l S 1 (by decide)) rfl hj (by decide) ((HV j hj).1.trans (shK_w hw)) ?_
  refine w_N 1 38 [.ref 123, .int (nI j), .int (nI k), .int (nI a), .int (nI b), .int (nI m), lm_jk] [.int 2, .int 1] rfl ?_
  refine w_icmp_eq_f (t := 86) rfl rfl (by decide) ?_
  refine w_N 1 42 [.ref 123, .int (nI j), .int (nI k), .int (nI a), .int (nI b), .int (nI m), lm_jk] [.ref 123] rfl ?_
  refine w_gr 124 rfl rfl rfl (M_kd S) (M_r S (k := 0) (o := 1) rfl) ?_
  refine w_N 1 46 [.ref 123, .int (nI j), .int (nI k), .int (nI a), .int (nI b), .int (nI m), lm_jk] [.int (nI k), .ref 124] rfl ?_
  refine w_ia k (v := 1) rfl (show X.2.1 (124) = 1 from M_k S 1 (by decide)) (show X.2.2.1 (124) = 8 from M_l S 1 (by decide)) rfl hk (by decide) ((HV k hk).1.trans (shK_w hw2)) ?_
  refine w_N 1 48 [.ref 123, .int (nI j), .int (nI k), .int (nI a), .int (nI b), .int (nI m), lm_jk] [.int 2, .int 1] rfl ?_
  refine w_icmp_eq_f (t := 86) rfl rfl (by decide) ?_
  refine w_N 1 52 [.ref 123, .int (nI j), .int (nI k), .int (nI a), .int (nI b), .int (nI m), lm_jk] [.ref 123] rfl ?_
  refine w_gr 124 rfl rfl rfl (M_kd S) (M_r S (k := 0) (o := 1) rfl) ?_
  refine w_N 1 56 [.ref 123, .int (nI j), .int (nI k), .int (nI a), .int (nI b), .int (nI m), lm_jk] [.int (nI j), .ref 124] rfl ?_
  refine w_ia j (v := 1) rfl (show X.2.1 (124) = 1 from M_k S 1 (by decide)) (show X.2.2.1 (124) = 8 from M_l S 1 (by decide)) rfl hj (by decide) ((HV j hj).1.trans (shK_w hw)) ?_
  refine w_N 1 58 [.ref 123, .int (nI j), .int (nI k), .int (nI a), .int (nI b), .int (nI m), lm_jk] [.int 1, .int 1] rfl ?_
  refine w_icmp_ne_f (t := 93) rfl rfl (by decide) ?_
  refine w_N 1 62 [.ref 123, .int (nI j), .int (nI k), .int (nI a), .int (nI b), .int (nI m), lm_jk] [.ref 123] rfl ?_
  refine w_gr 124 rfl rfl rfl (M_kd S) (M_r S (k := 0) (o := 1) rfl) ?_
  refine w_N 1 66 [.ref 123, .int (nI j), .int (nI k), .int (nI a), .int (nI b), .int (nI m), lm_jk] [.int (nI k), .ref 124] rfl ?_
  refine w_ia k (v := 1) rfl (show X.2.1 (124) = 1 from M_k S 1 (by decide)) (show X.2.2.1 (124) = 8 from M_l S 1 (by decide)) rfl hk (by decide) ((HV k hk).1.trans (shK_w hw2)) ?_
  refine w_N 1 68 [.ref 123, .int (nI j), .int (nI k), .int (nI a), .int (nI b), .int (nI m), lm_jk] [.int 1, .int 1] rfl ?_
  refine w_icmp_ne_f (t := 93) rfl rfl (by decide) ?_
  refine w_N 1 72 [.ref 123, .int (nI j), .int (nI k), .int (nI a), .int (nI b), .int (nI m), lm_jk] [.ref 123] rfl ?_
  refine w_gr 125 rfl rfl rfl (M_kd S) (M_r S (k := 1) (o := 2) rfl) ?_
  refine w_N 1 76 [.ref 123, .int (nI j), .int (nI k), .int (nI a), .int (nI b), .int (nI m), lm_jk] [.int (nI j), .ref 125] rfl ?_
  refine w_ia j (v := (V j).1) rfl (show X.2.1 (125) = 1 from M_k S 2 (by decide)) (show X.2.2.1 (125) = 8 from M_l S 2 (by decide)) rfl hj (by decide) ((HV j hj).2.1 hw) ?_
  refine w_N 1 78 [.ref 123, .int (nI j), .int (nI k), .int (nI a), .int (nI b), .int (nI m), lm_jk] [.ref 123, .int ((V j).1)] rfl ?_
  refine w_gr 125 rfl rfl rfl (M_kd S) (M_r S (k := 1) (o := 2) rfl) ?_
  refine w_N 1 82 [.ref 123, .int (nI j), .int (nI k), .int (nI a), .int (nI b), .int (nI m), lm_jk] [.int (nI k), .ref 125, .int ((V j).1)] rfl ?_
  refine w_ia k (v := (V k).1) rfl (show X.2.1 (125) = 1 from M_k S 2 (by decide)) (show X.2.2.1 (125) = 8 from M_l S 2 (by decide)) rfl hk (by decide) ((HV k hk).2.1 hw2) ?_
  refine w_icmp_eq_t (t := 93) rfl rfl he.symm ?_
  refine w_N 1 94 [.ref 123, .int (nI j), .int (nI k), .int (nI a), .int (nI b), .int (nI m), lm_jk] [.ref 123] rfl ?_
  refine w_gr 124 rfl rfl rfl (M_kd S) (M_r S (k := 0) (o := 1) rfl) ?_
  refine w_N 1 98 [.ref 123, .int (nI j), .int (nI k), .int (nI a), .int (nI b), .int (nI m), lm_jk] [.int (nI j), .ref 124] rfl ?_
  refine w_ia j (v := 1) rfl (show X.2.1 (124) = 1 from M_k S 1 (by decide)) (show X.2.2.1 (124) = 8 from M_l S 1 (by decide)) rfl hj (by decide) ((HV j hj).1.trans (shK_w hw)) ?_
  refine w_if_eq_f (t := 111) rfl rfl (by decide) ?_
  refine w_N 1 103 [.ref 123, .int (nI j), .int (nI k), .int (nI a), .int (nI b), .int (nI m), lm_jk] [.ref 123] rfl ?_
  refine w_gr 124 rfl rfl rfl (M_kd S) (M_r S (k := 0) (o := 1) rfl) ?_
  refine w_N 1 107 [.ref 123, .int (nI j), .int (nI k), .int (nI a), .int (nI b), .int (nI m), lm_jk] [.int (nI k), .ref 124] rfl ?_
  refine w_ia k (v := 1) rfl (show X.2.1 (124) = 1 from M_k S 1 (by decide)) (show X.2.2.1 (124) = 8 from M_l S 1 (by decide)) rfl hk (by decide) ((HV k hk).1.trans (shK_w hw2)) ?_
  refine w_if_ne_t (t := 118) rfl rfl (by decide) ?_
  refine w_N 1 120 [.ref 123, .int (nI j), .int (nI k), .int (nI a), .int (nI b), .int (nI m), lm_jk] [.int (nI m)] rfl ?_
  refine w_if_lt_f (t := 181) rfl rfl (nI_pos (by omega)) ?_
  refine w_N 1 124 [.ref 123, .int (nI j), .int (nI k), .int (nI a), .int (nI b), .int (nI m), lm_jk] [.int (nI a)] rfl ?_
  refine w_if_lt_f (t := 181) rfl rfl (nI_pos (by omega)) ?_
  refine w_N 1 129 [.ref 123, .int (nI j), .int (nI k), .int (nI a), .int (nI b), .int (nI m), lm_jk] [.int (nI b)] rfl ?_
  refine w_if_lt_f (t := 181) rfl rfl (nI_pos (by omega)) ?_
  refine w_N 2 135 [.ref 123, .int (nI j), .int (nI k), .int (nI a), .int (nI b), .int (nI m), lm_jk] [.ref 123, .int (nI m)] rfl ?_
  refine w_gr 126 rfl rfl rfl (M_kd S) (M_r S (k := 2) (o := 3) rfl) ?_
  refine w_N 1 139 [.ref 123, .int (nI j), .int (nI k), .int (nI a), .int (nI b), .int (nI m), lm_jk] [.int (nI j), .ref 126, .int (nI m)] rfl ?_
  refine w_ia j (v := nI (V j).2.1) rfl (show X.2.1 (126) = 1 from M_k S 3 (by decide)) (show X.2.2.1 (126) = 8 from M_l S 3 (by decide)) rfl hj (by decide) ((HV j hj).2.2.1) ?_
  refine w_icmp_gt_f (t := 181) rfl rfl (by rw [nI_lt_iff (by omega) (by omega)]; omega) ?_
  refine w_N 2 146 [.ref 123, .int (nI j), .int (nI k), .int (nI a), .int (nI b), .int (nI m), lm_jk] [.ref 123, .int (nI m)] rfl ?_
  refine w_gr 126 rfl rfl rfl (M_kd S) (M_r S (k := 2) (o := 3) rfl) ?_
  refine w_N 1 150 [.ref 123, .int (nI j), .int (nI k), .int (nI a), .int (nI b), .int (nI m), lm_jk] [.int (nI k), .ref 126, .int (nI m)] rfl ?_
  refine w_ia k (v := nI (V k).2.1) rfl (show X.2.1 (126) = 1 from M_k S 3 (by decide)) (show X.2.2.1 (126) = 8 from M_l S 3 (by decide)) rfl hk (by decide) ((HV k hk).2.2.1) ?_
  refine w_icmp_gt_f (t := 181) rfl rfl (by rw [nI_lt_iff (by omega) (by omega)]; omega) ?_
  refine w_N 2 156 [.ref 123, .int (nI j), .int (nI k), .int (nI a), .int (nI b), .int (nI m), lm_jk] [.ref 123, .int (nI a)] rfl ?_
  refine w_gr 126 rfl rfl rfl (M_kd S) (M_r S (k := 2) (o := 3) rfl) ?_
  refine w_N 1 160 [.ref 123, .int (nI j), .int (nI k), .int (nI a), .int (nI b), .int (nI m), lm_jk] [.int (nI j), .ref 126, .int (nI a)] rfl ?_
  refine w_ia j (v := nI (V j).2.1) rfl (show X.2.1 (126) = 1 from M_k S 3 (by decide)) (show X.2.2.1 (126) = 8 from M_l S 3 (by decide)) rfl hj (by decide) ((HV j hj).2.2.1) ?_
  refine w_N 2 164 [.ref 123, .int (nI j), .int (nI k), .int (nI a), .int (nI b), .int (nI m), lm_jk] [.int ((nI (V j).2.1) - (nI m)), .int (nI a)] rfl ?_
  refine w_icmp_gt_f (t := 181) rfl rfl (by rw [nI_sub (by omega), nI_lt_iff (by omega) (by omega)]; omega) ?_
  refine w_N 2 170 [.ref 123, .int (nI j), .int (nI k), .int (nI a), .int (nI b), .int (nI m), lm_jk] [.ref 123, .int (nI b)] rfl ?_
  refine w_gr 126 rfl rfl rfl (M_kd S) (M_r S (k := 2) (o := 3) rfl) ?_
  refine w_N 1 174 [.ref 123, .int (nI j), .int (nI k), .int (nI a), .int (nI b), .int (nI m), lm_jk] [.int (nI k), .ref 126, .int (nI b)] rfl ?_
  refine w_ia k (v := nI (V k).2.1) rfl (show X.2.1 (126) = 1 from M_k S 3 (by decide)) (show X.2.2.1 (126) = 8 from M_l S 3 (by decide)) rfl hk (by decide) ((HV k hk).2.2.1) ?_
  refine w_N 2 178 [.ref 123, .int (nI j), .int (nI k), .int (nI a), .int (nI b), .int (nI m), lm_jk] [.int ((nI (V k).2.1) - (nI m)), .int (nI b)] rfl ?_
  refine w_icmp_le_t (t := 188) rfl rfl (by rw [nI_sub (by omega), nI_lt_iff (by omega) (by omega)]; omega) ?_
  refine w_N 2 191 [.ref 123, .int (nI j), .int (nI k), .int (nI a), .int (nI b), .int (nI m), .int 0] [] rfl ?_
  refine y_cp1 (m := m) S hj hk (by omega) (by omega) (fun c1 hl1 a1 b1 => ?_) m 0 _ _ (by omega) rfl (fun _ _ => rfl) (fun x hx => by omega)
  refine w_N 2 225 [.ref 123, .int (nI j), .int (nI k), .int (nI a), .int (nI b), .int (nI m), .int 0] [] rfl ?_
  refine y_cp2 (m := m) S hj hk (show a + m ≤ 40 by omega) (by omega) (fun c2 hl2 a2 b2 => ?_) m 0 _ _ (by omega) rfl (fun _ _ => rfl) (fun x hx => by rw [if_neg (by omega)])
  refine w_N 1 259 _ [.int (nI m)] rfl ?_
  refine w_ri rfl rfl ?_
  refine mq_ (mP_shelf hk P (fun b _ _ _ _ _ => rfl) (fun b _ _ => rfl) (fun b h1 h2 => (a2 b h1).trans (a1 b h2)) (HV k hk).1 (HV k hk).2.1 (HV k hk).2.2.1 (HV k hk).2.2.2.1 (HV k hk).2.2.2.2.1 (fun x hx => ?_))
  rw [b2 x hx]
  unfold va_cpy
  split
  · rw [b1 _ (by omega)]; exact (HV j hj).2.2.2.2.2 _ (by omega)
  · rw [a1 _ (by omega)]; exact (HV k hk).2.2.2.2.2 x hx
theorem st_copy {B D : Nat} {n ts : Nat} {T : lm_T} {R : Nat → Int32} {KO : ab_K} {V : ab_V} {tl F : Nat → Int32} {p q i i2 m : Int32} (Z : okZ B D T n R KO V ts tl) (hB : B + 20 < 2000000) : STEP B 84 143 [.int p, .int q, .int i, .int i2, .int m] T n R KO V ts tl F := by
  obtain ⟨hT, hO, hV, hts, htl, hDB, hB0, hKO⟩ := id Z
  by_cases hb : (wi p 0 7 && wi q 0 7) = false
  · exact ⟨_, D, _, _, _, _, _, _, _, _, okZ_up Z hB, fun _ _ _ _ _ _ P hC => x_copy_b (d := 10) P hb hC, fun _ _ _ _ _ _ P => y_copy_b (d := 10) P hb⟩
  · obtain ⟨h1, h2⟩ := and2_t hb
    obtain ⟨j, rfl, hj⟩ := wi_e (n := 7) h1 (by decide)
    obtain ⟨k, rfl, hk⟩ := wi_e (n := 7) h2 (by decide)
    obtain ⟨v1, v2, v3⟩ := hV j (by omega)
    obtain ⟨u1, u2, u3⟩ := hV k (by omega)
    by_cases h0 : cpK (V j).1 (V k).1 = 0
    · obtain ⟨hw, he⟩ := cpK_0 h0
      by_cases h3 : (hsM i m (V j).2.1 && hsM i2 m (V k).2.1) = false
      · exact ⟨_, D, _, _, _, _, _, _, _, _, okZ_up Z hB, fun _ _ _ _ _ _ P hC => x_copy_c (d := 10) P (by omega) (by omega) v2 u2 hw he h3 hC, fun _ _ _ _ _ _ P => y_copy_c (d := 10) P (by omega) (by omega) v2 u2 hw he h3⟩
      · obtain ⟨h4, h5⟩ := and2_t h3
        obtain ⟨a, m1, rfl, rfl, h6⟩ := (hsM_e v2).mp h4
        obtain ⟨b, m2, rfl, e, h7⟩ := (hsM_e u2).mp h5
        obtain rfl : m1 = m2 := (nI_inj (by omega) (by omega)).mp e
        exact ⟨_, D, _, _, _, _, _, _, _, _, okZ_V Z hB (okV_u hV u1 u2 u3), fun _ _ _ _ _ _ P hC => x_copy (d := 10) P (by omega) (by omega) v2 u2 hw he h6 h7 hC, fun _ _ _ _ _ _ P => y_copy (d := 10) P (by omega) (by omega) v2 u2 hw he h6 h7⟩
    · exact ⟨_, D, _, _, _, _, _, _, _, _, okZ_up Z hB, fun _ _ _ _ _ _ P hC => x_copy_l (d := 10) P (by omega) (by omega) h0 hC, fun _ _ _ _ _ _ P => y_copy_l (d := 10) P (by omega) (by omega) h0⟩
