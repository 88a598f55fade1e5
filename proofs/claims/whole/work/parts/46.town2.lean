set_option maxRecDepth 16384
/-! calls: likes, lock, hide, feed, wipe, actOf, worthOf, stands, value, next -/
theorem okT_w {T : lm_T} {n j : Nat} {x : Int32} (h : okT T n) (h1 : -99 ≤ x.toInt) (h2 : x.toInt ≤ 99) : okT (lm_up T 7 j x) n := by
  refine ⟨fun a ha => ?_, fun i hi => ?_⟩
  · have q : ∀ k, k ≠ 7 → lm_up T 7 j x k a = T k a := fun k hk => lm_up_na hk
    rw [q 0 (by decide), q 1 (by decide), q 2 (by decide), q 3 (by decide), q 4 (by decide), q 5 (by decide), q 6 (by decide)]
    exact h.1 a ha
  · by_cases e : i = j
    · subst e; rw [lm_up_eq]; exact ⟨h1, h2⟩
    · rw [lm_up_nk e]; exact h.2 i hi
theorem okT_l {T : lm_T} {n a l : Nat} {x : Int32} (h : okT T n) (hl : l < 4) (hx : x = nI l) : okT (lm_up T 6 a x) n := by
  refine ⟨fun b hb => ?_, fun i hi => ?_⟩
  · obtain ⟨k, m, c, y, dd, bb, l0, q⟩ := h.1 b hb
    have q0 : ∀ k, k ≠ 6 → lm_up T 6 a x k b = T k b := fun k hk => lm_up_na hk
    rw [q0 0 (by decide), q0 1 (by decide), q0 2 (by decide), q0 3 (by decide), q0 4 (by decide), q0 5 (by decide)]
    obtain ⟨e0, e1, e2, e3, e4, e5, e6, e7, e8, e9, e10, e11, e12, e13, e14⟩ := q
    by_cases e : b = a
    · subst e; exact ⟨k, m, c, y, dd, bb, l, e0, e1, e2, e3, e4, e5, e6, e7, e8, e9, e10, e11, e12, by rw [lm_up_eq]; exact hx, hl⟩
    · exact ⟨k, m, c, y, dd, bb, l0, e0, e1, e2, e3, e4, e5, e6, e7, e8, e9, e10, e11, e12, by rw [lm_up_nk e]; exact e13, e14⟩
  · rw [lm_up_na (by decide)]; exact h.2 i hi
theorem wi_b {x lo up : Int32} (h : wi x lo up = true) : lo.toInt ≤ x.toInt ∧ x.toInt ≤ up.toInt := by
  simp [wi] at h
  exact ⟨Int32.le_iff_toInt_le.mp h.1, Int32.le_iff_toInt_le.mp h.2⟩
theorem x_likes_b {d : Nat} {hi : Nat → Nat → Int32} {hl : Nat → Nat → Int64} {X : lm_X} {hi0 : Nat → Nat → Int32} {hl0 : Nat → Nat → Int64} {C n ts : Nat} {T : lm_T} {R : Nat → Int32} {KO : ab_K} {V : ab_V} {tl F : Nat → Int32} (P : cP hi0 hl0 hi hl X C T n R KO V ts tl F) {hf w x : Int32}  (hb : (wi hf 0 1 && wi w 0 11) = false) (hC : C + 25 < 2147483648) : lm_w (d + 30) 92 [.ref 64, .int hf, .int w, .int x] (hi, hl, X) (cQ hi0 hl0 X (C + 25) (.int (-2)) T n R KO V ts tl (rfU F (-2))) := by
  obtain ⟨S, O, H, HR, FO, HV, HT, HF, HK, E0, EL0⟩ := id P
  refine lm_w_in (Nat.le_of_ble_eq_true rfl) ?_
  show lm_wp (d + 30) 92 0 [.ref 64, .int hf, .int w, .int x, lm_jk] [] (hi, hl, X) _
  refine w_N 1 1 [.ref 64, .int hf, .int w, .int x, lm_jk] [.int hf] rfl ?_
  refine w_cc rfl x_isHalf ?_
  show lm_wp _ 92 4 [.ref 64, .int hf, .int w, .int x, lm_jk] [.int (bz (wi hf 0 1))] (hi, hl, X) _
  refine w_zeq (t := 17) rfl rfl (fun c1 => ?_) (fun c1 => ?_)
  · refine w_N 2 20 [.ref 64, .int hf, .int w, .int x, lm_jk] [.int (-2), .ref 64] rfl ?_
    refine w_ca (w_vst rfl rfl rfl (Nat.le_of_ble_eq_true rfl) (Nat.le_of_ble_eq_true rfl) (A_k S 64 (by decide))) (x_refuse P (by unfold isW; decide)) ?_
    rintro _ _ ⟨rfl, hi9, rfl, P9⟩
    show lm_wp _ 92 23 [.ref 64, .int hf, .int w, .int x, lm_jk] [.int (-2)] (hi9, hl, X) _
    refine w_ri rfl rfl ?_
    exact cq_ P9 (by omega) hC
  · refine w_N 3 11 [.ref 64, .int hf, .int w, .int x, lm_jk] [.int 11, .int 0, .int w] rfl ?_
    refine w_cc rfl x_within ?_
    show lm_wp _ 92 14 [.ref 64, .int hf, .int w, .int x, lm_jk] [.int (bz (wi w 0 11))] (hi, hl, X) _
    refine w_zne (t := 24) rfl rfl (fun c2 => ?_) (fun c2 => ?_)
    · exact absurd hb (by simp [c1, c2])
    · refine w_N 2 20 [.ref 64, .int hf, .int w, .int x, lm_jk] [.int (-2), .ref 64] rfl ?_
      refine w_ca (w_vst rfl rfl rfl (Nat.le_of_ble_eq_true rfl) (Nat.le_of_ble_eq_true rfl) (A_k S 64 (by decide))) (x_refuse P (by unfold isW; decide)) ?_
      rintro _ _ ⟨rfl, hi9, rfl, P9⟩
      show lm_wp _ 92 23 [.ref 64, .int hf, .int w, .int x, lm_jk] [.int (-2)] (hi9, hl, X) _
      refine w_ri rfl rfl ?_
      exact cq_ P9 (by omega) hC
theorem y_likes_b {d : Nat} {hi : Nat → Nat → Int32} {hl : Nat → Nat → Int64} {X : lm_X} {hi0 : Nat → Nat → Int32} {hl0 : Nat → Nat → Int64} {X0 : lm_X} {n ts : Nat} {T : lm_T} {R : Nat → Int32} {KO : ab_K} {V : ab_V} {tl F : Nat → Int32} (P : mP hi0 hl0 X0 hi hl X T n R KO V ts tl F) {hf w x : Int32}  (hb : (wi hf 0 1 && wi w 0 11) = false) : lm_w (d + 30) 152 [.ref 123, .int hf, .int w, .int x] (hi, hl, X) (mQ hi0 hl0 X0 (.int (-2)) T n R KO V ts tl (rfU F (-2))) := by
  obtain ⟨SR, O, H, HR, HV, HT, HF, HK, E0, EL0, EX0⟩ := id P
  have S := SR.1
  refine lm_w_in (Nat.le_of_ble_eq_true rfl) ?_
  show lm_wp (d + 30) 152 0 [.ref 123, .int hf, .int w, .int x] [] (hi, hl, X) _
  refine w_N 4 4 [.ref 123, .int hf, .int w, .int x] [.long 1, .long 0, .long hf.toInt64] rfl ?_
  refine w_cc rfl (m_in (x := hf) (lo := 0) (up := 1) rfl (by decide) (by decide)) ?_
  show lm_wp _ 152 7 [.ref 123, .int hf, .int w, .int x] [.int (bz (wi hf 0 1))] (hi, hl, X) _
  refine w_zeq (t := 60) rfl rfl (fun c1 => ?_) (fun c1 => ?_)
  · refine w_N 2 63 [.ref 123, .int hf, .int w, .int x] [.int (-2), .ref 123] rfl ?_
    refine w_ca (w_vst rfl rfl rfl (Nat.le_of_ble_eq_true rfl) (Nat.le_of_ble_eq_true rfl) (M_kd S)) (m_refuse P (by unfold isW; decide)) ?_
    rintro _ _ ⟨rfl, hi9, rfl, P9⟩
    show lm_wp _ 152 66 [.ref 123, .int hf, .int w, .int x] [.int (-2)] (hi9, hl, X) _
    refine w_ri rfl rfl ?_
    exact mq_ P9
  · refine w_N 4 16 [.ref 123, .int hf, .int w, .int x] [.long 11, .long 0, .long w.toInt64] rfl ?_
    refine w_cc rfl (m_in (x := w) (lo := 0) (up := 11) rfl (by decide) (by decide)) ?_
    show lm_wp _ 152 19 [.ref 123, .int hf, .int w, .int x] [.int (bz (wi w 0 11))] (hi, hl, X) _
    refine w_zeq (t := 60) rfl rfl (fun c2 => ?_) (fun c2 => ?_)
    · refine w_N 2 63 [.ref 123, .int hf, .int w, .int x] [.int (-2), .ref 123] rfl ?_
      refine w_ca (w_vst rfl rfl rfl (Nat.le_of_ble_eq_true rfl) (Nat.le_of_ble_eq_true rfl) (M_kd S)) (m_refuse P (by unfold isW; decide)) ?_
      rintro _ _ ⟨rfl, hi9, rfl, P9⟩
      show lm_wp _ 152 66 [.ref 123, .int hf, .int w, .int x] [.int (-2)] (hi9, hl, X) _
      refine w_ri rfl rfl ?_
      exact mq_ P9
    · exact absurd hb (by simp [c1, c2])
theorem x_likes_b8 {d : Nat} {hi : Nat → Nat → Int32} {hl : Nat → Nat → Int64} {X : lm_X} {hi0 : Nat → Nat → Int32} {hl0 : Nat → Nat → Int64} {C n ts : Nat} {T : lm_T} {R : Nat → Int32} {KO : ab_K} {V : ab_V} {tl F : Nat → Int32} (P : cP hi0 hl0 hi hl X C T n R KO V ts tl F) {h w : Nat} {x : Int32} (hh : h < 2) (hw : w < 12) (h8 : w < 8) (hb : wi x (-99) 99 = false) (hC : C + 25 < 2147483648) : lm_w (d + 30) 92 [.ref 64, .int (nI h), .int (nI w), .int x] (hi, hl, X) (cQ hi0 hl0 X (C + 25) (.int (-2)) T n R KO V ts tl (rfU F (-2))) := by
  obtain ⟨S, O, H, HR, FO, HV, HT, HF, HK, E0, EL0⟩ := id P
  refine lm_w_in (Nat.le_of_ble_eq_true rfl) ?_
  show lm_wp (d + 30) 92 0 [.ref 64, .int (nI h), .int (nI w), .int x, lm_jk] [] (hi, hl, X) _
  refine w_N 1 1 [.ref 64, .int (nI h), .int (nI w), .int x, lm_jk] [.int (nI h)] rfl ?_
  refine w_cc rfl (x_isHalf1 (wi_t (n := 1) (Nat.le_of_lt_succ hh) (by decide))) ?_
  show lm_wp _ 92 4 [.ref 64, .int (nI h), .int (nI w), .int x, lm_jk] [.int 1] (hi, hl, X) _
  refine w_if_eq_f (t := 17) rfl rfl (by decide) ?_
  refine w_N 3 11 [.ref 64, .int (nI h), .int (nI w), .int x, lm_jk] [.int 11, .int 0, .int (nI w)] rfl ?_
  refine w_cc rfl (x_within1 (wi_t (n := 11) (Nat.le_of_lt_succ hw) (by decide))) ?_
  show lm_wp _ 92 14 [.ref 64, .int (nI h), .int (nI w), .int x, lm_jk] [.int 1] (hi, hl, X) _
  refine w_if_ne_t (t := 24) rfl rfl (by decide) ?_
  refine w_N 2 27 [.ref 64, .int (nI h), .int (nI w), .int x, lm_jk] [.int 8, .int (nI w)] rfl ?_
  refine w_icmp_ge_f (t := 35) rfl rfl (by rw [show (8 : Int32) = nI 8 from rfl, nI_lt_iff (by omega) (by decide)]; exact h8) ?_
  refine w_N 7 45 [.ref 64, .int (nI h), .int (nI w), .int x, .int 99] [.int 99, .int (-99), .int x] rfl ?_
  refine w_cc rfl x_within ?_
  show lm_wp _ 92 48 [.ref 64, .int (nI h), .int (nI w), .int x, .int 99] [.int (bz (wi x (-99) 99))] (hi, hl, X) _
  refine w_if_ne_f (t := 58) rfl rfl (c_eqz hb) ?_
  refine w_N 2 54 [.ref 64, .int (nI h), .int (nI w), .int x, .int 99] [.int (-2), .ref 64] rfl ?_
  refine w_ca (w_vst rfl rfl rfl (Nat.le_of_ble_eq_true rfl) (Nat.le_of_ble_eq_true rfl) (A_k S 64 (by decide))) (x_refuse P (by unfold isW; decide)) ?_
  rintro _ _ ⟨rfl, hi9, rfl, P9⟩
  show lm_wp _ 92 57 [.ref 64, .int (nI h), .int (nI w), .int x, .int 99] [.int (-2)] (hi9, hl, X) _
  refine w_ri rfl rfl ?_
  exact cq_ P9 (by omega) hC
theorem y_likes_b8 {d : Nat} {hi : Nat → Nat → Int32} {hl : Nat → Nat → Int64} {X : lm_X} {hi0 : Nat → Nat → Int32} {hl0 : Nat → Nat → Int64} {X0 : lm_X} {n ts : Nat} {T : lm_T} {R : Nat → Int32} {KO : ab_K} {V : ab_V} {tl F : Nat → Int32} (P : mP hi0 hl0 X0 hi hl X T n R KO V ts tl F) {h w : Nat} {x : Int32} (hh : h < 2) (hw : w < 12) (h8 : w < 8) (hb : wi x (-99) 99 = false)  : lm_w (d + 30) 152 [.ref 123, .int (nI h), .int (nI w), .int x] (hi, hl, X) (mQ hi0 hl0 X0 (.int (-2)) T n R KO V ts tl (rfU F (-2))) := by
  obtain ⟨SR, O, H, HR, HV, HT, HF, HK, E0, EL0, EX0⟩ := id P
  have S := SR.1
  refine lm_w_in (Nat.le_of_ble_eq_true rfl) ?_
  show lm_wp (d + 30) 152 0 [.ref 123, .int (nI h), .int (nI w), .int x] [] (hi, hl, X) _
  refine w_N 4 4 [.ref 123, .int (nI h), .int (nI w), .int x] [.long 1, .long 0, .long ((nI h).toInt64)] rfl ?_
  refine w_cc rfl (lm_c_1 (m_in (x := nI h) (lo := 0) (up := 1) rfl (by decide) (by decide)) (wi_t (n := 1) (Nat.le_of_lt_succ hh) (by decide))) ?_
  show lm_wp _ 152 7 [.ref 123, .int (nI h), .int (nI w), .int x] [.int 1] (hi, hl, X) _
  refine w_if_eq_f (t := 60) rfl rfl (by decide) ?_
  refine w_N 4 16 [.ref 123, .int (nI h), .int (nI w), .int x] [.long 11, .long 0, .long ((nI w).toInt64)] rfl ?_
  refine w_cc rfl (lm_c_1 (m_in (x := nI w) (lo := 0) (up := 11) rfl (by decide) (by decide)) (wi_t (n := 11) (Nat.le_of_lt_succ hw) (by decide))) ?_
  show lm_wp _ 152 19 [.ref 123, .int (nI h), .int (nI w), .int x] [.int 1] (hi, hl, X) _
  refine w_if_eq_f (t := 60) rfl rfl (by decide) ?_
  refine w_N 4 27 [.ref 123, .int (nI h), .int (nI w), .int x] [.int 8, .int (nI w), .long x.toInt64] rfl ?_
  refine w_icmp_ge_f (t := 36) rfl rfl (by rw [show (8 : Int32) = nI 8 from rfl, nI_lt_iff (by omega) (by decide)]; exact h8) ?_
  refine w_N 4 42 [.ref 123, .int (nI h), .int (nI w), .int x] [.int 8, .int (nI w), .long (-99), .long x.toInt64] rfl ?_
  refine w_icmp_ge_f (t := 51) rfl rfl (by rw [show (8 : Int32) = nI 8 from rfl, nI_lt_iff (by omega) (by decide)]; exact h8) ?_
  refine w_N 2 54 [.ref 123, .int (nI h), .int (nI w), .int x] [.long 99, .long (-99), .long x.toInt64] rfl ?_
  refine w_cc rfl (m_in (x := x) (lo := (-99)) (up := 99) rfl (by decide) (by decide)) ?_
  show lm_wp _ 152 57 [.ref 123, .int (nI h), .int (nI w), .int x] [.int (bz (wi x (-99) 99))] (hi, hl, X) _
  refine w_if_ne_f (t := 67) rfl rfl (c_eqz hb) ?_
  refine w_N 2 63 [.ref 123, .int (nI h), .int (nI w), .int x] [.int (-2), .ref 123] rfl ?_
  refine w_ca (w_vst rfl rfl rfl (Nat.le_of_ble_eq_true rfl) (Nat.le_of_ble_eq_true rfl) (M_kd S)) (m_refuse P (by unfold isW; decide)) ?_
  rintro _ _ ⟨rfl, hi9, rfl, P9⟩
  show lm_wp _ 152 66 [.ref 123, .int (nI h), .int (nI w), .int x] [.int (-2)] (hi9, hl, X) _
  refine w_ri rfl rfl ?_
  exact mq_ P9
theorem x_likes8 {d : Nat} {hi : Nat → Nat → Int32} {hl : Nat → Nat → Int64} {X : lm_X} {hi0 : Nat → Nat → Int32} {hl0 : Nat → Nat → Int64} {C n ts : Nat} {T : lm_T} {R : Nat → Int32} {KO : ab_K} {V : ab_V} {tl F : Nat → Int32} (P : cP hi0 hl0 hi hl X C T n R KO V ts tl F) {h w : Nat} {x : Int32} (hh : h < 2) (hw : w < 12) (h8 : w < 8) (hb : wi x (-99) 99 = true) (hC : C + 25 < 2147483648) : lm_w (d + 30) 92 [.ref 64, .int (nI h), .int (nI w), .int x] (hi, hl, X) (cQ hi0 hl0 X (C + 25) (.int 1) (lm_up T 7 (12 * h + w) x) n R KO V ts tl F) := by
  obtain ⟨S, O, H, HR, FO, HV, HT, HF, HK, E0, EL0⟩ := id P
  refine lm_w_in (Nat.le_of_ble_eq_true rfl) ?_
  show lm_wp (d + 30) 92 0 [.ref 64, .int (nI h), .int (nI w), .int x, lm_jk] [] (hi, hl, X) _
  refine w_N 1 1 [.ref 64, .int (nI h), .int (nI w), .int x, lm_jk] [.int (nI h)] rfl ?_
  refine w_cc rfl (x_isHalf1 (wi_t (n := 1) (Nat.le_of_lt_succ hh) (by decide))) ?_
  show lm_wp _ 92 4 [.ref 64, .int (nI h), .int (nI w), .int x, lm_jk] [.int 1] (hi, hl, X) _
  refine w_if_eq_f (t := 17) rfl rfl (by decide) ?_
  refine w_N 3 11 [.ref 64, .int (nI h), .int (nI w), .int x, lm_jk] [.int 11, .int 0, .int (nI w)] rfl ?_
  refine w_cc rfl (x_within1 (wi_t (n := 11) (Nat.le_of_lt_succ hw) (by decide))) ?_
  show lm_wp _ 92 14 [.ref 64, .int (nI h), .int (nI w), .int x, lm_jk] [.int 1] (hi, hl, X) _
  refine w_if_ne_t (t := 24) rfl rfl (by decide) ?_
  refine w_N 2 27 [.ref 64, .int (nI h), .int (nI w), .int x, lm_jk] [.int 8, .int (nI w)] rfl ?_
  refine w_icmp_ge_f (t := 35) rfl rfl (by rw [show (8 : Int32) = nI 8 from rfl, nI_lt_iff (by omega) (by decide)]; exact h8) ?_
  refine w_N 7 45 [.ref 64, .int (nI h), .int (nI w), .int x, .int 99] [.int 99, .int (-99), .int x] rfl ?_
  refine w_cc rfl (x_within1 (hb)) ?_
  show lm_wp _ 92 48 [.ref 64, .int (nI h), .int (nI w), .int x, .int 99] [.int 1] (hi, hl, X) _
  refine w_if_ne_t (t := 58) rfl rfl (by decide) ?_
  refine w_N 1 59 [.ref 64, .int (nI h), .int (nI w), .int x, .int 99] [.ref 64] rfl ?_
  refine w_gr 65 rfl rfl rfl (A_k S 64 (by decide)) (A_r S 64 0 (by decide)) ?_
  refine w_N 3 65 [.ref 64, .int (nI h), .int (nI w), .int x, .int 99] [.int x, .int (nI w), .int (nI h), .ref 65] rfl ?_
  refine w_ca (w_vst rfl rfl rfl (Nat.le_of_ble_eq_true rfl) (Nat.le_of_ble_eq_true rfl) (T_kd (A_T65 S))) (t_setWorth (d := d + 29) (A_T65 S) H HR hh hw) ?_
  rintro _ _ ⟨h5x, rfl, rfl, H5, R5, c5, f5⟩
  have P5 := cP_town P f5 H5 R5 (fok_ch f5 c5 (by omega) FO)
  show lm_wp _ 92 68 [.ref 64, .int (nI h), .int (nI w), .int x, .int 99] [] (h5x, hl, X) _
  refine w_N 1 69 [.ref 64, .int (nI h), .int (nI w), .int x, .int 99] [.int 1] rfl ?_
  refine w_ri rfl rfl ?_
  exact cq_ P5 (by omega) hC
theorem y_likes8 {d : Nat} {hi : Nat → Nat → Int32} {hl : Nat → Nat → Int64} {X : lm_X} {hi0 : Nat → Nat → Int32} {hl0 : Nat → Nat → Int64} {X0 : lm_X} {n ts : Nat} {T : lm_T} {R : Nat → Int32} {KO : ab_K} {V : ab_V} {tl F : Nat → Int32} (P : mP hi0 hl0 X0 hi hl X T n R KO V ts tl F) {h w : Nat} {x : Int32} (hh : h < 2) (hw : w < 12) (h8 : w < 8) (hb : wi x (-99) 99 = true)  : lm_w (d + 30) 152 [.ref 123, .int (nI h), .int (nI w), .int x] (hi, hl, X) (mQ hi0 hl0 X0 (.int 1) (lm_up T 7 (12 * h + w) x) n R KO V ts tl F) := by
  obtain ⟨SR, O, H, HR, HV, HT, HF, HK, E0, EL0, EX0⟩ := id P
  have S := SR.1
  refine lm_w_in (Nat.le_of_ble_eq_true rfl) ?_
  show lm_wp (d + 30) 152 0 [.ref 123, .int (nI h), .int (nI w), .int x] [] (hi, hl, X) _
  refine w_N 4 4 [.ref 123, .int (nI h), .int (nI w), .int x] [.long 1, .long 0, .long ((nI h).toInt64)] rfl ?_
  refine w_cc rfl (lm_c_1 (m_in (x := nI h) (lo := 0) (up := 1) rfl (by decide) (by decide)) (wi_t (n := 1) (Nat.le_of_lt_succ hh) (by decide))) ?_
  show lm_wp _ 152 7 [.ref 123, .int (nI h), .int (nI w), .int x] [.int 1] (hi, hl, X) _
  refine w_if_eq_f (t := 60) rfl rfl (by decide) ?_
  refine w_N 4 16 [.ref 123, .int (nI h), .int (nI w), .int x] [.long 11, .long 0, .long ((nI w).toInt64)] rfl ?_
  refine w_cc rfl (lm_c_1 (m_in (x := nI w) (lo := 0) (up := 11) rfl (by decide) (by decide)) (wi_t (n := 11) (Nat.le_of_lt_succ hw) (by decide))) ?_
  show lm_wp _ 152 19 [.ref 123, .int (nI h), .int (nI w), .int x] [.int 1] (hi, hl, X) _
  refine w_if_eq_f (t := 60) rfl rfl (by decide) ?_
  refine w_N 4 27 [.ref 123, .int (nI h), .int (nI w), .int x] [.int 8, .int (nI w), .long x.toInt64] rfl ?_
  refine w_icmp_ge_f (t := 36) rfl rfl (by rw [show (8 : Int32) = nI 8 from rfl, nI_lt_iff (by omega) (by decide)]; exact h8) ?_
  refine w_N 4 42 [.ref 123, .int (nI h), .int (nI w), .int x] [.int 8, .int (nI w), .long (-99), .long x.toInt64] rfl ?_
  refine w_icmp_ge_f (t := 51) rfl rfl (by rw [show (8 : Int32) = nI 8 from rfl, nI_lt_iff (by omega) (by decide)]; exact h8) ?_
  refine w_N 2 54 [.ref 123, .int (nI h), .int (nI w), .int x] [.long 99, .long (-99), .long x.toInt64] rfl ?_
  refine w_cc rfl (lm_c_1 (m_in (x := x) (lo := (-99)) (up := 99) rfl (by decide) (by decide)) (hb)) ?_
  show lm_wp _ 152 57 [.ref 123, .int (nI h), .int (nI w), .int x] [.int 1] (hi, hl, X) _
  refine w_if_ne_t (t := 67) rfl rfl (by decide) ?_
  refine w_N 1 68 [.ref 123, .int (nI h), .int (nI w), .int x] [.ref 123] rfl ?_
  refine w_gr 153 rfl rfl rfl (M_kd S) (M_r S (k := 16) (o := 30) rfl) ?_
  refine w_N 1 72 [.ref 123, .int (nI h), .int (nI w), .int x] [.int (nI h), .ref 153] rfl ?_
  refine w_aa h (123 + (31 + h)) rfl (M_kk S (o := 30) (by decide)) (show X.2.2.1 (153) = 2 from M_l S 30 (by decide)) rfl hh (by decide) (M_wor S hh) ?_
  refine w_N 2 75 [.ref 123, .int (nI h), .int (nI w), .int x] [.int x, .int (nI w), .ref (123 + (31 + h))] rfl ?_
  refine w_is w rfl (M_wok S hh) (Nat.le_trans (M_64 S) (Nat.le_add_right _ _)) (M_wol S hh) rfl hw (by decide) ?_
  refine w_N 1 77 [.ref 123, .int (nI h), .int (nI w), .int x] [.int 1] rfl ?_
  refine w_ri rfl rfl ?_
  refine mq_ (mP_town P ⟨fun a ha => lm_up_rw (by omega), lm_up_na (by omega)⟩ ⟨fun k hk a ha => ?_, fun h2 hh2 w2 hw2 => ?_, ?_, rTle H⟩ ?_)
  · have := rTle H; rw [lm_up_na (by omega), lm_up_na (by omega)]; exact H.1 k hk a ha
  · by_cases e : h2 = h
    · subst e
      by_cases e2 : w2 = w
      · subst e2; rw [lm_up_eq, lm_up_eq]
      · rw [lm_up_nk e2, lm_up_nk (by omega)]; exact H.2.1 h2 hh2 w2 hw2
    · rw [lm_up_na (by omega), lm_up_nk (by omega)]; exact H.2.1 h2 hh2 w2 hw2
  · rw [lm_up_na (by omega)]; exact H.2.2.1
  · unfold rR rS; rw [lm_up_rw (b := 123) (by omega), lm_up_rw (b := 123 + 29) (by omega), lm_up_rw (b := 123 + 33) (by omega), lm_up_rw (b := 123 + 34) (by omega)]; exact HR
theorem x_likes_b9 {d : Nat} {hi : Nat → Nat → Int32} {hl : Nat → Nat → Int64} {X : lm_X} {hi0 : Nat → Nat → Int32} {hl0 : Nat → Nat → Int64} {C n ts : Nat} {T : lm_T} {R : Nat → Int32} {KO : ab_K} {V : ab_V} {tl F : Nat → Int32} (P : cP hi0 hl0 hi hl X C T n R KO V ts tl F) {h w : Nat} {x : Int32} (hh : h < 2) (hw : w < 12) (h8 : ¬ w < 8) (hb : wi x (-9) 9 = false) (hC : C + 25 < 2147483648) : lm_w (d + 30) 92 [.ref 64, .int (nI h), .int (nI w), .int x] (hi, hl, X) (cQ hi0 hl0 X (C + 25) (.int (-2)) T n R KO V ts tl (rfU F (-2))) := by
  obtain ⟨S, O, H, HR, FO, HV, HT, HF, HK, E0, EL0⟩ := id P
  refine lm_w_in (Nat.le_of_ble_eq_true rfl) ?_
  show lm_wp (d + 30) 92 0 [.ref 64, .int (nI h), .int (nI w), .int x, lm_jk] [] (hi, hl, X) _
  refine w_N 1 1 [.ref 64, .int (nI h), .int (nI w), .int x, lm_jk] [.int (nI h)] rfl ?_
  refine w_cc rfl (x_isHalf1 (wi_t (n := 1) (Nat.le_of_lt_succ hh) (by decide))) ?_
  show lm_wp _ 92 4 [.ref 64, .int (nI h), .int (nI w), .int x, lm_jk] [.int 1] (hi, hl, X) _
  refine w_if_eq_f (t := 17) rfl rfl (by decide) ?_
  refine w_N 3 11 [.ref 64, .int (nI h), .int (nI w), .int x, lm_jk] [.int 11, .int 0, .int (nI w)] rfl ?_
  refine w_cc rfl (x_within1 (wi_t (n := 11) (Nat.le_of_lt_succ hw) (by decide))) ?_
  show lm_wp _ 92 14 [.ref 64, .int (nI h), .int (nI w), .int x, lm_jk] [.int 1] (hi, hl, X) _
  refine w_if_ne_t (t := 24) rfl rfl (by decide) ?_
  refine w_N 2 27 [.ref 64, .int (nI h), .int (nI w), .int x, lm_jk] [.int 8, .int (nI w)] rfl ?_
  refine w_icmp_ge_t (t := 35) rfl rfl (by rw [show (8 : Int32) = nI 8 from rfl, nI_lt_iff (by omega) (by decide)]; exact h8) ?_
  refine w_N 6 45 [.ref 64, .int (nI h), .int (nI w), .int x, .int 9] [.int 9, .int (-9), .int x] rfl ?_
  refine w_cc rfl x_within ?_
  show lm_wp _ 92 48 [.ref 64, .int (nI h), .int (nI w), .int x, .int 9] [.int (bz (wi x (-9) 9))] (hi, hl, X) _
  refine w_if_ne_f (t := 58) rfl rfl (c_eqz hb) ?_
  refine w_N 2 54 [.ref 64, .int (nI h), .int (nI w), .int x, .int 9] [.int (-2), .ref 64] rfl ?_
  refine w_ca (w_vst rfl rfl rfl (Nat.le_of_ble_eq_true rfl) (Nat.le_of_ble_eq_true rfl) (A_k S 64 (by decide))) (x_refuse P (by unfold isW; decide)) ?_
  rintro _ _ ⟨rfl, hi9, rfl, P9⟩
  show lm_wp _ 92 57 [.ref 64, .int (nI h), .int (nI w), .int x, .int 9] [.int (-2)] (hi9, hl, X) _
  refine w_ri rfl rfl ?_
  exact cq_ P9 (by omega) hC
theorem y_likes_b9 {d : Nat} {hi : Nat → Nat → Int32} {hl : Nat → Nat → Int64} {X : lm_X} {hi0 : Nat → Nat → Int32} {hl0 : Nat → Nat → Int64} {X0 : lm_X} {n ts : Nat} {T : lm_T} {R : Nat → Int32} {KO : ab_K} {V : ab_V} {tl F : Nat → Int32} (P : mP hi0 hl0 X0 hi hl X T n R KO V ts tl F) {h w : Nat} {x : Int32} (hh : h < 2) (hw : w < 12) (h8 : ¬ w < 8) (hb : wi x (-9) 9 = false)  : lm_w (d + 30) 152 [.ref 123, .int (nI h), .int (nI w), .int x] (hi, hl, X) (mQ hi0 hl0 X0 (.int (-2)) T n R KO V ts tl (rfU F (-2))) := by
  obtain ⟨SR, O, H, HR, HV, HT, HF, HK, E0, EL0, EX0⟩ := id P
  have S := SR.1
  refine lm_w_in (Nat.le_of_ble_eq_true rfl) ?_
  show lm_wp (d + 30) 152 0 [.ref 123, .int (nI h), .int (nI w), .int x] [] (hi, hl, X) _
  refine w_N 4 4 [.ref 123, .int (nI h), .int (nI w), .int x] [.long 1, .long 0, .long ((nI h).toInt64)] rfl ?_
  refine w_cc rfl (lm_c_1 (m_in (x := nI h) (lo := 0) (up := 1) rfl (by decide) (by decide)) (wi_t (n := 1) (Nat.le_of_lt_succ hh) (by decide))) ?_
  show lm_wp _ 152 7 [.ref 123, .int (nI h), .int (nI w), .int x] [.int 1] (hi, hl, X) _
  refine w_if_eq_f (t := 60) rfl rfl (by decide) ?_
  refine w_N 4 16 [.ref 123, .int (nI h), .int (nI w), .int x] [.long 11, .long 0, .long ((nI w).toInt64)] rfl ?_
  refine w_cc rfl (lm_c_1 (m_in (x := nI w) (lo := 0) (up := 11) rfl (by decide) (by decide)) (wi_t (n := 11) (Nat.le_of_lt_succ hw) (by decide))) ?_
  show lm_wp _ 152 19 [.ref 123, .int (nI h), .int (nI w), .int x] [.int 1] (hi, hl, X) _
  refine w_if_eq_f (t := 60) rfl rfl (by decide) ?_
  refine w_N 4 27 [.ref 123, .int (nI h), .int (nI w), .int x] [.int 8, .int (nI w), .long x.toInt64] rfl ?_
  refine w_icmp_ge_t (t := 36) rfl rfl (by rw [show (8 : Int32) = nI 8 from rfl, nI_lt_iff (by omega) (by decide)]; exact h8) ?_
  refine w_N 3 42 [.ref 123, .int (nI h), .int (nI w), .int x] [.int 8, .int (nI w), .long (-9), .long x.toInt64] rfl ?_
  refine w_icmp_ge_t (t := 51) rfl rfl (by rw [show (8 : Int32) = nI 8 from rfl, nI_lt_iff (by omega) (by decide)]; exact h8) ?_
  refine w_N 1 54 [.ref 123, .int (nI h), .int (nI w), .int x] [.long 9, .long (-9), .long x.toInt64] rfl ?_
  refine w_cc rfl (m_in (x := x) (lo := (-9)) (up := 9) rfl (by decide) (by decide)) ?_
  show lm_wp _ 152 57 [.ref 123, .int (nI h), .int (nI w), .int x] [.int (bz (wi x (-9) 9))] (hi, hl, X) _
  refine w_if_ne_f (t := 67) rfl rfl (c_eqz hb) ?_
  refine w_N 2 63 [.ref 123, .int (nI h), .int (nI w), .int x] [.int (-2), .ref 123] rfl ?_
  refine w_ca (w_vst rfl rfl rfl (Nat.le_of_ble_eq_true rfl) (Nat.le_of_ble_eq_true rfl) (M_kd S)) (m_refuse P (by unfold isW; decide)) ?_
  rintro _ _ ⟨rfl, hi9, rfl, P9⟩
  show lm_wp _ 152 66 [.ref 123, .int (nI h), .int (nI w), .int x] [.int (-2)] (hi9, hl, X) _
  refine w_ri rfl rfl ?_
  exact mq_ P9
theorem x_likes9 {d : Nat} {hi : Nat → Nat → Int32} {hl : Nat → Nat → Int64} {X : lm_X} {hi0 : Nat → Nat → Int32} {hl0 : Nat → Nat → Int64} {C n ts : Nat} {T : lm_T} {R : Nat → Int32} {KO : ab_K} {V : ab_V} {tl F : Nat → Int32} (P : cP hi0 hl0 hi hl X C T n R KO V ts tl F) {h w : Nat} {x : Int32} (hh : h < 2) (hw : w < 12) (h8 : ¬ w < 8) (hb : wi x (-9) 9 = true) (hC : C + 25 < 2147483648) : lm_w (d + 30) 92 [.ref 64, .int (nI h), .int (nI w), .int x] (hi, hl, X) (cQ hi0 hl0 X (C + 25) (.int 1) (lm_up T 7 (12 * h + w) x) n R KO V ts tl F) := by
  obtain ⟨S, O, H, HR, FO, HV, HT, HF, HK, E0, EL0⟩ := id P
  refine lm_w_in (Nat.le_of_ble_eq_true rfl) ?_
  show lm_wp (d + 30) 92 0 [.ref 64, .int (nI h), .int (nI w), .int x, lm_jk] [] (hi, hl, X) _
  refine w_N 1 1 [.ref 64, .int (nI h), .int (nI w), .int x, lm_jk] [.int (nI h)] rfl ?_
  refine w_cc rfl (x_isHalf1 (wi_t (n := 1) (Nat.le_of_lt_succ hh) (by decide))) ?_
  show lm_wp _ 92 4 [.ref 64, .int (nI h), .int (nI w), .int x, lm_jk] [.int 1] (hi, hl, X) _
  refine w_if_eq_f (t := 17) rfl rfl (by decide) ?_
  refine w_N 3 11 [.ref 64, .int (nI h), .int (nI w), .int x, lm_jk] [.int 11, .int 0, .int (nI w)] rfl ?_
  refine w_cc rfl (x_within1 (wi_t (n := 11) (Nat.le_of_lt_succ hw) (by decide))) ?_
  show lm_wp _ 92 14 [.ref 64, .int (nI h), .int (nI w), .int x, lm_jk] [.int 1] (hi, hl, X) _
  refine w_if_ne_t (t := 24) rfl rfl (by decide) ?_
  refine w_N 2 27 [.ref 64, .int (nI h), .int (nI w), .int x, lm_jk] [.int 8, .int (nI w)] rfl ?_
  refine w_icmp_ge_t (t := 35) rfl rfl (by rw [show (8 : Int32) = nI 8 from rfl, nI_lt_iff (by omega) (by decide)]; exact h8) ?_
  refine w_N 6 45 [.ref 64, .int (nI h), .int (nI w), .int x, .int 9] [.int 9, .int (-9), .int x] rfl ?_
  refine w_cc rfl (x_within1 (hb)) ?_
  show lm_wp _ 92 48 [.ref 64, .int (nI h), .int (nI w), .int x, .int 9] [.int 1] (hi, hl, X) _
  refine w_if_ne_t (t := 58) rfl rfl (by decide) ?_
  refine w_N 1 59 [.ref 64, .int (nI h), .int (nI w), .int x, .int 9] [.ref 64] rfl ?_
  refine w_gr 65 rfl rfl rfl (A_k S 64 (by decide)) (A_r S 64 0 (by decide)) ?_
  refine w_N 3 65 [.ref 64, .int (nI h), .int (nI w), .int x, .int 9] [.int x, .int (nI w), .int (nI h), .ref 65] rfl ?_
  refine w_ca (w_vst rfl rfl rfl (Nat.le_of_ble_eq_true rfl) (Nat.le_of_ble_eq_true rfl) (T_kd (A_T65 S))) (t_setWorth (d := d + 29) (A_T65 S) H HR hh hw) ?_
  rintro _ _ ⟨h5x, rfl, rfl, H5, R5, c5, f5⟩
  have P5 := cP_town P f5 H5 R5 (fok_ch f5 c5 (by omega) FO)
  show lm_wp _ 92 68 [.ref 64, .int (nI h), .int (nI w), .int x, .int 9] [] (h5x, hl, X) _
  refine w_N 1 69 [.ref 64, .int (nI h), .int (nI w), .int x, .int 9] [.int 1] rfl ?_
  refine w_ri rfl rfl ?_
  exact cq_ P5 (by omega) hC
theorem y_likes9 {d : Nat} {hi : Nat → Nat → Int32} {hl : Nat → Nat → Int64} {X : lm_X} {hi0 : Nat → Nat → Int32} {hl0 : Nat → Nat → Int64} {X0 : lm_X} {n ts : Nat} {T : lm_T} {R : Nat → Int32} {KO : ab_K} {V : ab_V} {tl F : Nat → Int32} (P : mP hi0 hl0 X0 hi hl X T n R KO V ts tl F) {h w : Nat} {x : Int32} (hh : h < 2) (hw : w < 12) (h8 : ¬ w < 8) (hb : wi x (-9) 9 = true)  : lm_w (d + 30) 152 [.ref 123, .int (nI h), .int (nI w), .int x] (hi, hl, X) (mQ hi0 hl0 X0 (.int 1) (lm_up T 7 (12 * h + w) x) n R KO V ts tl F) := by
  obtain ⟨SR, O, H, HR, HV, HT, HF, HK, E0, EL0, EX0⟩ := id P
  have S := SR.1
  refine lm_w_in (Nat.le_of_ble_eq_true rfl) ?_
  show lm_wp (d + 30) 152 0 [.ref 123, .int (nI h), .int (nI w), .int x] [] (hi, hl, X) _
  refine w_N 4 4 [.ref 123, .int (nI h), .int (nI w), .int x] [.long 1, .long 0, .long ((nI h).toInt64)] rfl ?_
  refine w_cc rfl (lm_c_1 (m_in (x := nI h) (lo := 0) (up := 1) rfl (by decide) (by decide)) (wi_t (n := 1) (Nat.le_of_lt_succ hh) (by decide))) ?_
  show lm_wp _ 152 7 [.ref 123, .int (nI h), .int (nI w), .int x] [.int 1] (hi, hl, X) _
  refine w_if_eq_f (t := 60) rfl rfl (by decide) ?_
  refine w_N 4 16 [.ref 123, .int (nI h), .int (nI w), .int x] [.long 11, .long 0, .long ((nI w).toInt64)] rfl ?_
  refine w_cc rfl (lm_c_1 (m_in (x := nI w) (lo := 0) (up := 11) rfl (by decide) (by decide)) (wi_t (n := 11) (Nat.le_of_lt_succ hw) (by decide))) ?_
  show lm_wp _ 152 19 [.ref 123, .int (nI h), .int (nI w), .int x] [.int 1] (hi, hl, X) _
  refine w_if_eq_f (t := 60) rfl rfl (by decide) ?_
  refine w_N 4 27 [.ref 123, .int (nI h), .int (nI w), .int x] [.int 8, .int (nI w), .long x.toInt64] rfl ?_
  refine w_icmp_ge_t (t := 36) rfl rfl (by rw [show (8 : Int32) = nI 8 from rfl, nI_lt_iff (by omega) (by decide)]; exact h8) ?_
  refine w_N 3 42 [.ref 123, .int (nI h), .int (nI w), .int x] [.int 8, .int (nI w), .long (-9), .long x.toInt64] rfl ?_
  refine w_icmp_ge_t (t := 51) rfl rfl (by rw [show (8 : Int32) = nI 8 from rfl, nI_lt_iff (by omega) (by decide)]; exact h8) ?_
  refine w_N 1 54 [.ref 123, .int (nI h), .int (nI w), .int x] [.long 9, .long (-9), .long x.toInt64] rfl ?_
  refine w_cc rfl (lm_c_1 (m_in (x := x) (lo := (-9)) (up := 9) rfl (by decide) (by decide)) (hb)) ?_
  show lm_wp _ 152 57 [.ref 123, .int (nI h), .int (nI w), .int x] [.int 1] (hi, hl, X) _
  refine w_if_ne_t (t := 67) rfl rfl (by decide) ?_
  refine w_N 1 68 [.ref 123, .int (nI h), .int (nI w), .int x] [.ref 123] rfl ?_
  refine w_gr 153 rfl rfl rfl (M_kd S) (M_r S (k := 16) (o := 30) rfl) ?_
  refine w_N 1 72 [.ref 123, .int (nI h), .int (nI w), .int x] [.int (nI h), .ref 153] rfl ?_
  refine w_aa h (123 + (31 + h)) rfl (M_kk S (o := 30) (by decide)) (show X.2.2.1 (153) = 2 from M_l S 30 (by decide)) rfl hh (by decide) (M_wor S hh) ?_
  refine w_N 2 75 [.ref 123, .int (nI h), .int (nI w), .int x] [.int x, .int (nI w), .ref (123 + (31 + h))] rfl ?_
  refine w_is w rfl (M_wok S hh) (Nat.le_trans (M_64 S) (Nat.le_add_right _ _)) (M_wol S hh) rfl hw (by decide) ?_
  refine w_N 1 77 [.ref 123, .int (nI h), .int (nI w), .int x] [.int 1] rfl ?_
  refine w_ri rfl rfl ?_
  refine mq_ (mP_town P ⟨fun a ha => lm_up_rw (by omega), lm_up_na (by omega)⟩ ⟨fun k hk a ha => ?_, fun h2 hh2 w2 hw2 => ?_, ?_, rTle H⟩ ?_)
  · have := rTle H; rw [lm_up_na (by omega), lm_up_na (by omega)]; exact H.1 k hk a ha
  · by_cases e : h2 = h
    · subst e
      by_cases e2 : w2 = w
      · subst e2; rw [lm_up_eq, lm_up_eq]
      · rw [lm_up_nk e2, lm_up_nk (by omega)]; exact H.2.1 h2 hh2 w2 hw2
    · rw [lm_up_na (by omega), lm_up_nk (by omega)]; exact H.2.1 h2 hh2 w2 hw2
  · rw [lm_up_na (by omega)]; exact H.2.2.1
  · unfold rR rS; rw [lm_up_rw (b := 123) (by omega), lm_up_rw (b := 123 + 29) (by omega), lm_up_rw (b := 123 + 33) (by omega), lm_up_rw (b := 123 + 34) (by omega)]; exact HR
theorem st_likes {B D : Nat} {n ts : Nat} {T : lm_T} {R : Nat → Int32} {KO : ab_K} {V : ab_V} {tl F : Nat → Int32} {hf w x : Int32} (Z : okZ B D T n R KO V ts tl) (hB : B + 20 < 2000000) : STEP B 92 152 [.int hf, .int w, .int x] T n R KO V ts tl F := by
  obtain ⟨hT, hO, hV, hts, htl, hDB, hB0, hKO⟩ := id Z
  by_cases hb : (wi hf 0 1 && wi w 0 11) = false
  · exact ⟨_, D, _, _, _, _, _, _, _, _, okZ_up Z hB, fun _ _ _ _ _ _ P hC => x_likes_b (d := 10) P hb hC, fun _ _ _ _ _ _ P => y_likes_b (d := 10) P hb⟩
  · obtain ⟨h1, h2⟩ := and2_t hb
    obtain ⟨h, rfl, hh⟩ := wi_e (n := 1) h1 (by decide)
    obtain ⟨w, rfl, hw⟩ := wi_e (n := 11) h2 (by decide)
    by_cases h8 : w < 8
    · cases hx : wi x (-99) 99
      · exact ⟨_, D, _, _, _, _, _, _, _, _, okZ_up Z hB, fun _ _ _ _ _ _ P hC => x_likes_b8 (d := 10) P (by omega) (by omega) h8 hx hC, fun _ _ _ _ _ _ P => y_likes_b8 (d := 10) P (by omega) (by omega) h8 hx⟩
      · have q := wi_b hx
        have q1 : ((-99) : Int32).toInt = -99 := rfl
        have q2 : (99 : Int32).toInt = 99 := rfl
        exact ⟨_, D, _, _, _, _, _, _, _, _, okZ_T Z hB (okT_w hT (by omega) (by omega)) hO, fun _ _ _ _ _ _ P hC => x_likes8 (d := 10) P (by omega) (by omega) h8 hx hC, fun _ _ _ _ _ _ P => y_likes8 (d := 10) P (by omega) (by omega) h8 hx⟩
    · cases hx : wi x (-9) 9
      · exact ⟨_, D, _, _, _, _, _, _, _, _, okZ_up Z hB, fun _ _ _ _ _ _ P hC => x_likes_b9 (d := 10) P (by omega) (by omega) h8 hx hC, fun _ _ _ _ _ _ P => y_likes_b9 (d := 10) P (by omega) (by omega) h8 hx⟩
      · have q := wi_b hx
        have q1 : ((-9) : Int32).toInt = -9 := rfl
        have q2 : (9 : Int32).toInt = 9 := rfl
        exact ⟨_, D, _, _, _, _, _, _, _, _, okZ_T Z hB (okT_w hT (by omega) (by omega)) hO, fun _ _ _ _ _ _ P hC => x_likes9 (d := 10) P (by omega) (by omega) h8 hx hC, fun _ _ _ _ _ _ P => y_likes9 (d := 10) P (by omega) (by omega) h8 hx⟩
theorem x_lock_b {d : Nat} {hi : Nat → Nat → Int32} {hl : Nat → Nat → Int64} {X : lm_X} {hi0 : Nat → Nat → Int32} {hl0 : Nat → Nat → Int64} {C n ts : Nat} {T : lm_T} {R : Nat → Int32} {KO : ab_K} {V : ab_V} {tl F : Nat → Int32} (P : cP hi0 hl0 hi hl X C T n R KO V ts tl F) {hf a : Int32} {is : Bool} (hb : (wi hf 0 1 && wi a 0 (nI n - 1)) = false) (hC : C + 25 < 2147483648) : lm_w (d + 30) 93 [.ref 64, .int hf, .int a, .int (bz is)] (hi, hl, X) (cQ hi0 hl0 X (C + 25) (.int (-2)) T n R KO V ts tl (rfU F (-2))) := by
  obtain ⟨S, O, H, HR, FO, HV, HT, HF, HK, E0, EL0⟩ := id P
  refine lm_w_in (Nat.le_of_ble_eq_true rfl) ?_
  show lm_wp (d + 30) 93 0 [.ref 64, .int hf, .int a, .int (bz is)] [] (hi, hl, X) _
  refine w_N 1 1 [.ref 64, .int hf, .int a, .int (bz is)] [.int hf] rfl ?_
  refine w_cc rfl x_isHalf ?_
  show lm_wp _ 93 4 [.ref 64, .int hf, .int a, .int (bz is)] [.int (bz (wi hf 0 1))] (hi, hl, X) _
  refine w_zeq (t := 15) rfl rfl (fun c1 => ?_) (fun c1 => ?_)
  · refine w_N 2 18 [.ref 64, .int hf, .int a, .int (bz is)] [.int (-2), .ref 64] rfl ?_
    refine w_ca (w_vst rfl rfl rfl (Nat.le_of_ble_eq_true rfl) (Nat.le_of_ble_eq_true rfl) (A_k S 64 (by decide))) (x_refuse P (by unfold isW; decide)) ?_
    rintro _ _ ⟨rfl, hi9, rfl, P9⟩
    show lm_wp _ 93 21 [.ref 64, .int hf, .int a, .int (bz is)] [.int (-2)] (hi9, hl, X) _
    refine w_ri rfl rfl ?_
    exact cq_ P9 (by omega) hC
  · refine w_N 2 9 [.ref 64, .int hf, .int a, .int (bz is)] [.int a, .ref 64] rfl ?_
    refine w_cc (w_vst rfl rfl rfl (Nat.le_of_ble_eq_true rfl) (Nat.le_of_ble_eq_true rfl) (A_k S 64 (by decide))) (x_isAct S H) ?_
    show lm_wp _ 93 12 [.ref 64, .int hf, .int a, .int (bz is)] [.int (bz (wi a 0 (nI n - 1)))] (hi, hl, X) _
    refine w_zne (t := 22) rfl rfl (fun c2 => ?_) (fun c2 => ?_)
    · exact absurd hb (by simp [c1, c2])
    · refine w_N 2 18 [.ref 64, .int hf, .int a, .int (bz is)] [.int (-2), .ref 64] rfl ?_
      refine w_ca (w_vst rfl rfl rfl (Nat.le_of_ble_eq_true rfl) (Nat.le_of_ble_eq_true rfl) (A_k S 64 (by decide))) (x_refuse P (by unfold isW; decide)) ?_
      rintro _ _ ⟨rfl, hi9, rfl, P9⟩
      show lm_wp _ 93 21 [.ref 64, .int hf, .int a, .int (bz is)] [.int (-2)] (hi9, hl, X) _
      refine w_ri rfl rfl ?_
      exact cq_ P9 (by omega) hC
theorem y_lock_b {d : Nat} {hi : Nat → Nat → Int32} {hl : Nat → Nat → Int64} {X : lm_X} {hi0 : Nat → Nat → Int32} {hl0 : Nat → Nat → Int64} {X0 : lm_X} {n ts : Nat} {T : lm_T} {R : Nat → Int32} {KO : ab_K} {V : ab_V} {tl F : Nat → Int32} (P : mP hi0 hl0 X0 hi hl X T n R KO V ts tl F) {hf a : Int32} {is : Bool} (hb : (wi hf 0 1 && wi a 0 (nI n - 1)) = false) : lm_w (d + 30) 153 [.ref 123, .int hf, .int a, .int (bz is)] (hi, hl, X) (mQ hi0 hl0 X0 (.int (-2)) T n R KO V ts tl (rfU F (-2))) := by
  obtain ⟨SR, O, H, HR, HV, HT, HF, HK, E0, EL0, EX0⟩ := id P
  have S := SR.1
  refine lm_w_in (Nat.le_of_ble_eq_true rfl) ?_
  show lm_wp (d + 30) 153 0 [.ref 123, .int hf, .int a, .int (bz is), lm_jk] [] (hi, hl, X) _
  refine w_N 4 4 [.ref 123, .int hf, .int a, .int (bz is), lm_jk] [.long 1, .long 0, .long hf.toInt64] rfl ?_
  refine w_cc rfl (m_in (x := hf) (lo := 0) (up := 1) rfl (by decide) (by decide)) ?_
  show lm_wp _ 153 7 [.ref 123, .int hf, .int a, .int (bz is), lm_jk] [.int (bz (wi hf 0 1))] (hi, hl, X) _
  refine w_zeq (t := 19) rfl rfl (fun c1 => ?_) (fun c1 => ?_)
  · refine w_N 2 22 [.ref 123, .int hf, .int a, .int (bz is), lm_jk] [.int (-2), .ref 123] rfl ?_
    refine w_ca (w_vst rfl rfl rfl (Nat.le_of_ble_eq_true rfl) (Nat.le_of_ble_eq_true rfl) (M_kd S)) (m_refuse P (by unfold isW; decide)) ?_
    rintro _ _ ⟨rfl, hi9, rfl, P9⟩
    show lm_wp _ 153 25 [.ref 123, .int hf, .int a, .int (bz is), lm_jk] [.int (-2)] (hi9, hl, X) _
    refine w_ri rfl rfl ?_
    exact mq_ P9
  · refine w_N 3 13 [.ref 123, .int hf, .int a, .int (bz is), lm_jk] [.long a.toInt64, .ref 123] rfl ?_
    refine w_cc (w_vst rfl rfl rfl (Nat.le_of_ble_eq_true rfl) (Nat.le_of_ble_eq_true rfl) (M_kd S)) (m_isAct (x := a) S H rfl) ?_
    show lm_wp _ 153 16 [.ref 123, .int hf, .int a, .int (bz is), lm_jk] [.int (bz (wi a 0 (nI n - 1)))] (hi, hl, X) _
    refine w_zne (t := 26) rfl rfl (fun c2 => ?_) (fun c2 => ?_)
    · exact absurd hb (by simp [c1, c2])
    · refine w_N 2 22 [.ref 123, .int hf, .int a, .int (bz is), lm_jk] [.int (-2), .ref 123] rfl ?_
      refine w_ca (w_vst rfl rfl rfl (Nat.le_of_ble_eq_true rfl) (Nat.le_of_ble_eq_true rfl) (M_kd S)) (m_refuse P (by unfold isW; decide)) ?_
      rintro _ _ ⟨rfl, hi9, rfl, P9⟩
      show lm_wp _ 153 25 [.ref 123, .int hf, .int a, .int (bz is), lm_jk] [.int (-2)] (hi9, hl, X) _
      refine w_ri rfl rfl ?_
      exact mq_ P9
theorem lk_same : ∀ l, l < 4 → ∀ hf, hf < 2 → ∀ is, lkd (nI l) hf = is → lkS (nI l) hf is = nI l := by decide
theorem lk_ok : ∀ l, l < 4 → ∀ hf, hf < 2 → ∀ is, ∃ l', l' < 4 ∧ lkS (nI l) hf is = nI l' := by
  have h : ∀ l, l < 4 → ∀ hf, hf < 2 → ∀ is, (lkS (nI l) hf is).toNatClampNeg < 4 ∧ lkS (nI l) hf is = nI (lkS (nI l) hf is).toNatClampNeg := by decide
  exact fun l h1 hf h2 is => ⟨_, h l h1 hf h2 is⟩
theorem rT_l {hi hi' : Nat → Nat → Int32} {n a : Nat} {T : lm_T} {x : Int32} (H : rT hi 123 T n) (ha : a < n) (f : ∀ b, b ≠ 123 → b ≠ 123 + (19 + a) → hi' b = hi b) (h10 : hi' 123 10 = hi 123 10) (g : ∀ k, k ≠ 6 → hi' (123 + (19 + a)) k = hi (123 + (19 + a)) k) (h6 : hi' (123 + (19 + a)) 6 = x) : rT hi' 123 (lm_up T 6 a x) n := by
  have hn := rTle H
  refine ⟨fun k hk b hb => ?_, fun h hh w hw => ?_, h10.trans H.2.2.1, hn⟩
  · by_cases e : b = a
    · subst e
      by_cases e2 : k = 6
      · subst e2; rw [lm_up_eq]; exact h6
      · rw [lm_up_na e2, g k e2]; exact H.1 k hk b hb
    · rw [lm_up_nk e, f _ (by omega) (by omega)]; exact H.1 k hk b hb
  · rw [lm_up_na (by decide), f _ (by omega) (by omega)]; exact H.2.1 h hh w hw
theorem lm_up_id {α : Type} {f : Nat → Nat → α} {a k : Nat} {v : α} (h : f a k = v) : lm_up f a k v = f := by
  funext b j
  unfold lm_up
  by_cases e : b = a
  · by_cases e2 : j = k
    · rw [if_pos e, if_pos e2, e, e2, h]
    · rw [if_pos e, if_neg e2]
  · rw [if_neg e]
theorem x_lock_e {d : Nat} {hi : Nat → Nat → Int32} {hl : Nat → Nat → Int64} {X : lm_X} {hi0 : Nat → Nat → Int32} {hl0 : Nat → Nat → Int64} {C n ts : Nat} {T : lm_T} {R : Nat → Int32} {KO : ab_K} {V : ab_V} {tl F : Nat → Int32} (P : cP hi0 hl0 hi hl X C T n R KO V ts tl F) {h a : Nat} {is : Bool} (hh : h < 2) (ha : a < n) (h0 : lkd (T 6 a) h = is) (hC : C + 25 < 2147483648) : lm_w (d + 30) 93 [.ref 64, .int (nI h), .int (nI a), .int (bz is)] (hi, hl, X) (cQ hi0 hl0 X (C + 25) (.int 0) T n (lm_u1 R 15 0) KO V ts tl F) := by
  obtain ⟨S, O, H, HR, FO, HV, HT, HF, HK, E0, EL0⟩ := id P
  refine lm_w_in (Nat.le_of_ble_eq_true rfl) ?_
  show lm_wp (d + 30) 93 0 [.ref 64, .int (nI h), .int (nI a), .int (bz is)] [] (hi, hl, X) _
  refine w_N 1 1 [.ref 64, .int (nI h), .int (nI a), .int (bz is)] [.int (nI h)] rfl ?_
  refine w_cc rfl (x_isHalf1 (wi_t (n := 1) (Nat.le_of_lt_succ hh) (by decide))) ?_
  show lm_wp _ 93 4 [.ref 64, .int (nI h), .int (nI a), .int (bz is)] [.int 1] (hi, hl, X) _
  refine w_if_eq_f (t := 15) rfl rfl (by decide) ?_
  refine w_N 2 9 [.ref 64, .int (nI h), .int (nI a), .int (bz is)] [.int (nI a), .ref 64] rfl ?_
  refine w_cc (w_vst rfl rfl rfl (Nat.le_of_ble_eq_true rfl) (Nat.le_of_ble_eq_true rfl) (A_k S 64 (by decide))) (x_isAct1 S H ((wi_p (x := nI a) (n := n) (by have := isTle H; omega)).mpr ⟨a, rfl, ha⟩)) ?_
  show lm_wp _ 93 12 [.ref 64, .int (nI h), .int (nI a), .int (bz is)] [.int 1] (hi, hl, X) _
  refine w_if_ne_t (t := 22) rfl rfl (by decide) ?_
  refine w_N 1 23 [.ref 64, .int (nI h), .int (nI a), .int (bz is)] [.ref 64] rfl ?_
  refine w_gr 65 rfl rfl rfl (A_k S 64 (by decide)) (A_r S 64 0 (by decide)) ?_
  refine w_N 1 27 [.ref 64, .int (nI h), .int (nI a), .int (bz is)] [.int 0, .ref 65] rfl ?_
  refine w_pb rfl rfl rfl rfl (T_kd (A_T65 S)) (T_64 (A_T65 S)) (by decide) ?_
  refine w_N 1 31 [.ref 64, .int (nI h), .int (nI a), .int (bz is)] [.ref 64] rfl ?_
  refine w_gr 65 rfl rfl rfl (A_k S 64 (by decide)) (A_r S 64 0 (by decide)) ?_
  refine w_N 2 36 [.ref 64, .int (nI h), .int (nI a), .int (bz is)] [.int (nI a), .int (nI h), .ref 65] rfl ?_
  obtain ⟨h4, e_h4⟩ : ∃ q, q = lm_up hi 65 15 0 := ⟨_, rfl⟩
  rw [← e_h4]
  have P := cP_R (k := 15) (v := 0) (by decide) P
  rw [← e_h4] at P
  obtain ⟨S, O, H, HR, FO, HV, HT, HF, HK, E0, EL0⟩ := id P
  have hn10 := isTle H
  refine w_cc (w_vst rfl rfl rfl (Nat.le_of_ble_eq_true rfl) (Nat.le_of_ble_eq_true rfl) (T_kd (A_T65 S))) (t_isLocked (A_T65 S) H (by omega)) ?_
  show lm_wp _ 93 39 [.ref 64, .int (nI h), .int (nI a), .int (bz is)] [.int (bz (lkd (T 6 a) h))] (h4, hl, X) _
  refine w_N 1 40 [.ref 64, .int (nI h), .int (nI a), .int (bz is)] [.int (bz is), .int (bz (lkd (T 6 a) h))] rfl ?_
  refine w_icmp_ne_f (t := 45) rfl rfl (congrArg bz h0) ?_
  refine w_N 1 44 [.ref 64, .int (nI h), .int (nI a), .int (bz is)] [.int 0] rfl ?_
  refine w_ri rfl rfl ?_
  exact cq_ P (by omega) hC
theorem x_lock_n {d : Nat} {hi : Nat → Nat → Int32} {hl : Nat → Nat → Int64} {X : lm_X} {hi0 : Nat → Nat → Int32} {hl0 : Nat → Nat → Int64} {C n ts : Nat} {T : lm_T} {R : Nat → Int32} {KO : ab_K} {V : ab_V} {tl F : Nat → Int32} (P : cP hi0 hl0 hi hl X C T n R KO V ts tl F) {h a : Nat} {is : Bool} (hh : h < 2) (ha : a < n) (h0 : ¬ lkd (T 6 a) h = is) (hC : C + 25 < 2147483648) : lm_w (d + 30) 93 [.ref 64, .int (nI h), .int (nI a), .int (bz is)] (hi, hl, X) (cQ hi0 hl0 X (C + 25) (.int 1) (lm_up T 6 a (lkS (T 6 a) h is)) n (lm_u1 R 15 0) KO V ts tl F) := by
  obtain ⟨S, O, H, HR, FO, HV, HT, HF, HK, E0, EL0⟩ := id P
  refine lm_w_in (Nat.le_of_ble_eq_true rfl) ?_
  show lm_wp (d + 30) 93 0 [.ref 64, .int (nI h), .int (nI a), .int (bz is)] [] (hi, hl, X) _
  refine w_N 1 1 [.ref 64, .int (nI h), .int (nI a), .int (bz is)] [.int (nI h)] rfl ?_
  refine w_cc rfl (x_isHalf1 (wi_t (n := 1) (Nat.le_of_lt_succ hh) (by decide))) ?_
  show lm_wp _ 93 4 [.ref 64, .int (nI h), .int (nI a), .int (bz is)] [.int 1] (hi, hl, X) _
  refine w_if_eq_f (t := 15) rfl rfl (by decide) ?_
  refine w_N 2 9 [.ref 64, .int (nI h), .int (nI a), .int (bz is)] [.int (nI a), .ref 64] rfl ?_
  refine w_cc (w_vst rfl rfl rfl (Nat.le_of_ble_eq_true rfl) (Nat.le_of_ble_eq_true rfl) (A_k S 64 (by decide))) (x_isAct1 S H ((wi_p (x := nI a) (n := n) (by have := isTle H; omega)).mpr ⟨a, rfl, ha⟩)) ?_
  show lm_wp _ 93 12 [.ref 64, .int (nI h), .int (nI a), .int (bz is)] [.int 1] (hi, hl, X) _
  refine w_if_ne_t (t := 22) rfl rfl (by decide) ?_
  refine w_N 1 23 [.ref 64, .int (nI h), .int (nI a), .int (bz is)] [.ref 64] rfl ?_
  refine w_gr 65 rfl rfl rfl (A_k S 64 (by decide)) (A_r S 64 0 (by decide)) ?_
  refine w_N 1 27 [.ref 64, .int (nI h), .int (nI a), .int (bz is)] [.int 0, .ref 65] rfl ?_
  refine w_pb rfl rfl rfl rfl (T_kd (A_T65 S)) (T_64 (A_T65 S)) (by decide) ?_
  refine w_N 1 31 [.ref 64, .int (nI h), .int (nI a), .int (bz is)] [.ref 64] rfl ?_
  refine w_gr 65 rfl rfl rfl (A_k S 64 (by decide)) (A_r S 64 0 (by decide)) ?_
  refine w_N 2 36 [.ref 64, .int (nI h), .int (nI a), .int (bz is)] [.int (nI a), .int (nI h), .ref 65] rfl ?_
  obtain ⟨h4, e_h4⟩ : ∃ q, q = lm_up hi 65 15 0 := ⟨_, rfl⟩
  rw [← e_h4]
  have P := cP_R (k := 15) (v := 0) (by decide) P
  rw [← e_h4] at P
  obtain ⟨S, O, H, HR, FO, HV, HT, HF, HK, E0, EL0⟩ := id P
  have hn10 := isTle H
  refine w_cc (w_vst rfl rfl rfl (Nat.le_of_ble_eq_true rfl) (Nat.le_of_ble_eq_true rfl) (T_kd (A_T65 S))) (t_isLocked (A_T65 S) H (by omega)) ?_
  show lm_wp _ 93 39 [.ref 64, .int (nI h), .int (nI a), .int (bz is)] [.int (bz (lkd (T 6 a) h))] (h4, hl, X) _
  refine w_N 1 40 [.ref 64, .int (nI h), .int (nI a), .int (bz is)] [.int (bz is), .int (bz (lkd (T 6 a) h))] rfl ?_
  refine w_icmp_ne_t (t := 45) rfl rfl (fun z => h0 (bz_inj.mp z)) ?_
  refine w_N 1 46 [.ref 64, .int (nI h), .int (nI a), .int (bz is)] [.ref 64] rfl ?_
  refine w_gr 65 rfl rfl rfl (A_k S 64 (by decide)) (A_r S 64 0 (by decide)) ?_
  refine w_N 3 52 [.ref 64, .int (nI h), .int (nI a), .int (bz is)] [.int (bz is), .int (nI a), .int (nI h), .ref 65] rfl ?_
  refine w_ca (w_vst rfl rfl rfl (Nat.le_of_ble_eq_true rfl) (Nat.le_of_ble_eq_true rfl) (T_kd (A_T65 S))) (t_setLocked (d := d + 29) (A_T65 S) H HR (by omega)) ?_
  rintro _ _ ⟨h5x, rfl, rfl, H5, R5, c5, f5⟩
  have P5 := cP_town P f5 H5 R5 (fok_ch f5 c5 (by omega) FO)
  show lm_wp _ 93 55 [.ref 64, .int (nI h), .int (nI a), .int (bz is)] [] (h5x, hl, X) _
  refine w_N 1 56 [.ref 64, .int (nI h), .int (nI a), .int (bz is)] [.int 1] rfl ?_
  refine w_ri rfl rfl ?_
  exact cq_ P5 (by omega) hC
theorem y_lock_e {d : Nat} {hi : Nat → Nat → Int32} {hl : Nat → Nat → Int64} {X : lm_X} {hi0 : Nat → Nat → Int32} {hl0 : Nat → Nat → Int64} {X0 : lm_X} {n ts : Nat} {T : lm_T} {R : Nat → Int32} {KO : ab_K} {V : ab_V} {tl F : Nat → Int32} (P : mP hi0 hl0 X0 hi hl X T n R KO V ts tl F) {B D : Nat} (Z : okZ B D T n R KO V ts tl) {h a : Nat} {is : Bool} (hh : h < 2) (ha : a < n) (h0 : lkd (T 6 a) h = is) : lm_w (d + 30) 153 [.ref 123, .int (nI h), .int (nI a), .int (bz is)] (hi, hl, X) (mQ hi0 hl0 X0 (.int 0) T n (lm_u1 R 15 0) KO V ts tl F) := by
  obtain ⟨SR, O, H, HR, HV, HT, HF, HK, E0, EL0, EX0⟩ := id P
  have S := SR.1
  obtain ⟨hT, hO, hV, hts, htl, hDB, hB0, hKO⟩ := id Z
  have hn10 := rTle H
  refine lm_w_in (Nat.le_of_ble_eq_true rfl) ?_
  show lm_wp (d + 30) 153 0 [.ref 123, .int (nI h), .int (nI a), .int (bz is), lm_jk] [] (hi, hl, X) _
  refine w_N 4 4 [.ref 123, .int (nI h), .int (nI a), .int (bz is), lm_jk] [.long 1, .long 0, .long ((nI h).toInt64)] rfl ?_
  refine w_cc rfl (lm_c_1 (m_in (x := nI h) (lo := 0) (up := 1) rfl (by decide) (by decide)) (wi_t (n := 1) (Nat.le_of_lt_succ hh) (by decide))) ?_
  show lm_wp _ 153 7 [.ref 123, .int (nI h), .int (nI a), .int (bz is), lm_jk] [.int 1] (hi, hl, X) _
  refine w_if_eq_f (t := 19) rfl rfl (by decide) ?_
  refine w_N 3 13 [.ref 123, .int (nI h), .int (nI a), .int (bz is), lm_jk] [.long ((nI a).toInt64), .ref 123] rfl ?_
  refine w_cc (w_vst rfl rfl rfl (Nat.le_of_ble_eq_true rfl) (Nat.le_of_ble_eq_true rfl) (M_kd S)) (lm_c_1 (m_isAct (x := nI a) S H rfl) ((wi_p (x := nI a) (n := n) (by have := rTle H; omega)).mpr ⟨a, rfl, ha⟩)) ?_
  show lm_wp _ 153 16 [.ref 123, .int (nI h), .int (nI a), .int (bz is), lm_jk] [.int 1] (hi, hl, X) _
  refine w_if_ne_t (t := 26) rfl rfl (by decide) ?_
  refine w_N 1 27 [.ref 123, .int (nI h), .int (nI a), .int (bz is), lm_jk] [.ref 123] rfl ?_
  refine w_gr 141 rfl rfl rfl (M_kd S) (M_r S (k := 11) (o := 18) rfl) ?_
  refine w_N 1 31 [.ref 123, .int (nI h), .int (nI a), .int (bz is), lm_jk] [.int (nI a), .ref 141] rfl ?_
  refine w_aa a (123 + (19 + a)) rfl (M_kk S (o := 18) (by decide)) (show X.2.2.1 (141) = 10 from M_l S 18 (by decide)) rfl (by omega) (by decide) (M_acr S (by omega)) ?_
  refine w_N 1 34 [.ref 123, .int (nI h), .int (nI a), .int (bz is), lm_jk] [.int 6, .ref (123 + (19 + a))] rfl ?_
  refine w_ia 6 (v := T 6 a) rfl (M_ack S (by omega)) (M_acl S (by omega)) rfl (by decide) (by decide) (rTa H (by decide) ha) ?_
  refine w_N 1 36 [.ref 123, .int (nI h), .int (nI a), .int (bz is), lm_jk] [.int (nI h), .int (T 6 a)] rfl ?_
  refine w_cc rfl m_has ?_
  show lm_wp _ 153 39 [.ref 123, .int (nI h), .int (nI a), .int (bz is), lm_jk] [.int (bz (lkd (T 6 a) h))] (hi, hl, X) _
  refine w_N 2 42 [.ref 123, .int (nI h), .int (nI a), .int (bz is), .int (bz (lkd (T 6 a) h))] [.ref 123] rfl ?_
  refine w_gr 141 rfl rfl rfl (M_kd S) (M_r S (k := 11) (o := 18) rfl) ?_
  refine w_N 1 46 [.ref 123, .int (nI h), .int (nI a), .int (bz is), .int (bz (lkd (T 6 a) h))] [.int (nI a), .ref 141] rfl ?_
  refine w_aa a (123 + (19 + a)) rfl (M_kk S (o := 18) (by decide)) (show X.2.2.1 (141) = 10 from M_l S 18 (by decide)) rfl (by omega) (by decide) (M_acr S (by omega)) ?_
  refine w_N 2 50 [.ref 123, .int (nI h), .int (nI a), .int (bz is), .int (bz (lkd (T 6 a) h))] [.int (bz is), .int 6, .ref (123 + (19 + a))] rfl ?_
  refine w_zeq (t := 69) rfl rfl (fun c1 => ?_) (fun c1 => ?_)
  · refine w_N 1 70 [.ref 123, .int (nI h), .int (nI a), .int (bz is), .int (bz (lkd (T 6 a) h))] [.ref 123, .int 6, .ref (123 + (19 + a))] rfl ?_
    refine w_gr 141 rfl rfl rfl (M_kd S) (M_r S (k := 11) (o := 18) rfl) ?_
    refine w_N 1 74 [.ref 123, .int (nI h), .int (nI a), .int (bz is), .int (bz (lkd (T 6 a) h))] [.int (nI a), .ref 141, .int 6, .ref (123 + (19 + a))] rfl ?_
    refine w_aa a (123 + (19 + a)) rfl (M_kk S (o := 18) (by decide)) (show X.2.2.1 (141) = 10 from M_l S 18 (by decide)) rfl (by omega) (by decide) (M_acr S (by omega)) ?_
    refine w_N 1 77 [.ref 123, .int (nI h), .int (nI a), .int (bz is), .int (bz (lkd (T 6 a) h))] [.int 6, .ref (123 + (19 + a)), .int 6, .ref (123 + (19 + a))] rfl ?_
    refine w_ia 6 (v := T 6 a) rfl (M_ack S (by omega)) (M_acl S (by omega)) rfl (by decide) (by decide) (rTa H (by decide) ha) ?_
    refine w_N 6 84 [.ref 123, .int (nI h), .int (nI a), .int (bz is), .int (bz (lkd (T 6 a) h))] [.int ((T 6 a) &&& ((1 <<< ((nI h) &&& 31)) ^^^ (-1))), .int 6, .ref (123 + (19 + a))] rfl ?_
    refine w_is 6 rfl (M_ack S (by omega)) (Nat.le_trans (M_64 S) (Nat.le_add_right _ _)) (M_acl S (by omega)) rfl (by decide) (by decide) ?_
    refine w_N 2 87 [.ref 123, .int (nI h), .int (nI a), .int (bz is), .int (bz (lkd (T 6 a) h))] [.int 0, .ref 123] rfl ?_
    refine w_pb rfl rfl rfl rfl (M_kd S) (M_64 S) (by decide) ?_
    refine w_N 2 93 [.ref 123, .int (nI h), .int (nI a), .int (bz is), .int (bz (lkd (T 6 a) h))] [.int (bz is), .int (bz (lkd (T 6 a) h))] rfl ?_
    refine w_icmp_eq_t (t := 100) rfl rfl (congrArg bz h0) ?_
    refine w_N 1 101 [.ref 123, .int (nI h), .int (nI a), .int (bz is), .int (bz (lkd (T 6 a) h))] [.int 0] rfl ?_
    refine w_ri rfl rfl ?_
    have e7 : (T 6 a) &&& ((1 <<< ((nI h) &&& 31)) ^^^ (-1)) = lkS (T 6 a) h is := by unfold lkS; rw [c1]; rfl
    have H5 : rT (lm_up (lm_up hi (123 + (19 + a)) 6 ((T 6 a) &&& ((1 <<< ((nI h) &&& 31)) ^^^ (-1)))) 123 18 0) 123 (lm_up T 6 a (lkS (T 6 a) h is)) n := rT_l H ha (fun b h1 h2 => by rw [lm_up_rw h1, lm_up_rw h2]) (by rw [lm_up_nk (by decide), lm_up_na (by omega)]) (fun k hk => by rw [lm_up_na (by omega), lm_up_nk hk]) (by rw [lm_up_na (by omega), lm_up_eq, e7])
    obtain ⟨k0, m0, c0, x0, dd, bb, l, -, -, -, -, -, -, -, -, -, -, -, -, -, el, hl4⟩ := hT.1 a ha
    rw [el] at h0
    rw [lm_up_id (f := T) (a := 6) (k := a) (by rw [el]; exact (lk_same l hl4 h hh is h0).symm)] at H5
    refine mq_ (mP_town P ⟨fun b hb => by rw [lm_up_rw (by omega), lm_up_rw (by omega)], ?_⟩ H5 (rR_k1 HR ?_ (fun c hc => ?_) ?_ ?_ ?_ ?_ ?_))
    · exact (lm_up_nk (by decide)).trans ((lm_up_na (by omega)).trans (rfl))
    · exact (lm_up_nk (by decide)).trans ((lm_up_na (by omega)).trans (HR.1.1))
    · have := rTle H; rw [lm_up_na (by decide), lm_up_na (by omega)]; exact HR.1.2 c hc
    · exact lm_up_eq
    · exact (lm_up_nk (by decide)).trans ((lm_up_na (by omega)).trans (rfl))
    · exact (lm_up_nk (by decide)).trans ((lm_up_na (by omega)).trans (rfl))
    · exact (lm_up_nk (by decide)).trans ((lm_up_na (by omega)).trans (rfl))
    · have := rTle H; rw [lm_up_rw (by decide), lm_up_rw (by omega)]
  · refine w_N 1 54 [.ref 123, .int (nI h), .int (nI a), .int (bz is), .int (bz (lkd (T 6 a) h))] [.ref 123, .int 6, .ref (123 + (19 + a))] rfl ?_
    refine w_gr 141 rfl rfl rfl (M_kd S) (M_r S (k := 11) (o := 18) rfl) ?_
    refine w_N 1 58 [.ref 123, .int (nI h), .int (nI a), .int (bz is), .int (bz (lkd (T 6 a) h))] [.int (nI a), .ref 141, .int 6, .ref (123 + (19 + a))] rfl ?_
    refine w_aa a (123 + (19 + a)) rfl (M_kk S (o := 18) (by decide)) (show X.2.2.1 (141) = 10 from M_l S 18 (by decide)) rfl (by omega) (by decide) (M_acr S (by omega)) ?_
    refine w_N 1 61 [.ref 123, .int (nI h), .int (nI a), .int (bz is), .int (bz (lkd (T 6 a) h))] [.int 6, .ref (123 + (19 + a)), .int 6, .ref (123 + (19 + a))] rfl ?_
    refine w_ia 6 (v := T 6 a) rfl (M_ack S (by omega)) (M_acl S (by omega)) rfl (by decide) (by decide) (rTa H (by decide) ha) ?_
    refine w_N 5 84 [.ref 123, .int (nI h), .int (nI a), .int (bz is), .int (bz (lkd (T 6 a) h))] [.int ((T 6 a) ||| (1 <<< ((nI h) &&& 31))), .int 6, .ref (123 + (19 + a))] rfl ?_
    refine w_is 6 rfl (M_ack S (by omega)) (Nat.le_trans (M_64 S) (Nat.le_add_right _ _)) (M_acl S (by omega)) rfl (by decide) (by decide) ?_
    refine w_N 2 87 [.ref 123, .int (nI h), .int (nI a), .int (bz is), .int (bz (lkd (T 6 a) h))] [.int 0, .ref 123] rfl ?_
    refine w_pb rfl rfl rfl rfl (M_kd S) (M_64 S) (by decide) ?_
    refine w_N 2 93 [.ref 123, .int (nI h), .int (nI a), .int (bz is), .int (bz (lkd (T 6 a) h))] [.int (bz is), .int (bz (lkd (T 6 a) h))] rfl ?_
    refine w_icmp_eq_t (t := 100) rfl rfl (congrArg bz h0) ?_
    refine w_N 1 101 [.ref 123, .int (nI h), .int (nI a), .int (bz is), .int (bz (lkd (T 6 a) h))] [.int 0] rfl ?_
    refine w_ri rfl rfl ?_
    have e7 : (T 6 a) ||| (1 <<< ((nI h) &&& 31)) = lkS (T 6 a) h is := by unfold lkS; rw [c1]; rfl
    have H5 : rT (lm_up (lm_up hi (123 + (19 + a)) 6 ((T 6 a) ||| (1 <<< ((nI h) &&& 31)))) 123 18 0) 123 (lm_up T 6 a (lkS (T 6 a) h is)) n := rT_l H ha (fun b h1 h2 => by rw [lm_up_rw h1, lm_up_rw h2]) (by rw [lm_up_nk (by decide), lm_up_na (by omega)]) (fun k hk => by rw [lm_up_na (by omega), lm_up_nk hk]) (by rw [lm_up_na (by omega), lm_up_eq, e7])
    obtain ⟨k0, m0, c0, x0, dd, bb, l, -, -, -, -, -, -, -, -, -, -, -, -, -, el, hl4⟩ := hT.1 a ha
    rw [el] at h0
    rw [lm_up_id (f := T) (a := 6) (k := a) (by rw [el]; exact (lk_same l hl4 h hh is h0).symm)] at H5
    refine mq_ (mP_town P ⟨fun b hb => by rw [lm_up_rw (by omega), lm_up_rw (by omega)], ?_⟩ H5 (rR_k1 HR ?_ (fun c hc => ?_) ?_ ?_ ?_ ?_ ?_))
    · exact (lm_up_nk (by decide)).trans ((lm_up_na (by omega)).trans (rfl))
    · exact (lm_up_nk (by decide)).trans ((lm_up_na (by omega)).trans (HR.1.1))
    · have := rTle H; rw [lm_up_na (by decide), lm_up_na (by omega)]; exact HR.1.2 c hc
    · exact lm_up_eq
    · exact (lm_up_nk (by decide)).trans ((lm_up_na (by omega)).trans (rfl))
    · exact (lm_up_nk (by decide)).trans ((lm_up_na (by omega)).trans (rfl))
    · exact (lm_up_nk (by decide)).trans ((lm_up_na (by omega)).trans (rfl))
    · have := rTle H; rw [lm_up_rw (by decide), lm_up_rw (by omega)]
theorem y_lock_n {d : Nat} {hi : Nat → Nat → Int32} {hl : Nat → Nat → Int64} {X : lm_X} {hi0 : Nat → Nat → Int32} {hl0 : Nat → Nat → Int64} {X0 : lm_X} {n ts : Nat} {T : lm_T} {R : Nat → Int32} {KO : ab_K} {V : ab_V} {tl F : Nat → Int32} (P : mP hi0 hl0 X0 hi hl X T n R KO V ts tl F) {B D : Nat} (Z : okZ B D T n R KO V ts tl) {h a : Nat} {is : Bool} (hh : h < 2) (ha : a < n) (h0 : ¬ lkd (T 6 a) h = is) : lm_w (d + 30) 153 [.ref 123, .int (nI h), .int (nI a), .int (bz is)] (hi, hl, X) (mQ hi0 hl0 X0 (.int 1) (lm_up T 6 a (lkS (T 6 a) h is)) n (lm_u1 R 15 0) KO V ts tl F) := by
  obtain ⟨SR, O, H, HR, HV, HT, HF, HK, E0, EL0, EX0⟩ := id P
  have S := SR.1
  obtain ⟨hT, hO, hV, hts, htl, hDB, hB0, hKO⟩ := id Z
  have hn10 := rTle H
  refine lm_w_in (Nat.le_of_ble_eq_true rfl) ?_
  show lm_wp (d + 30) 153 0 [.ref 123, .int (nI h), .int (nI a), .int (bz is), lm_jk] [] (hi, hl, X) _
  refine w_N 4 4 [.ref 123, .int (nI h), .int (nI a), .int (bz is), lm_jk] [.long 1, .long 0, .long ((nI h).toInt64)] rfl ?_
  refine w_cc rfl (lm_c_1 (m_in (x := nI h) (lo := 0) (up := 1) rfl (by decide) (by decide)) (wi_t (n := 1) (Nat.le_of_lt_succ hh) (by decide))) ?_
  show lm_wp _ 153 7 [.ref 123, .int (nI h), .int (nI a), .int (bz is), lm_jk] [.int 1] (hi, hl, X) _
  refine w_if_eq_f (t := 19) rfl rfl (by decide) ?_
  refine w_N 3 13 [.ref 123, .int (nI h), .int (nI a), .int (bz is), lm_jk] [.long ((nI a).toInt64), .ref 123] rfl ?_
  refine w_cc (w_vst rfl rfl rfl (Nat.le_of_ble_eq_true rfl) (Nat.le_of_ble_eq_true rfl) (M_kd S)) (lm_c_1 (m_isAct (x := nI a) S H rfl) ((wi_p (x := nI a) (n := n) (by have := rTle H; omega)).mpr ⟨a, rfl, ha⟩)) ?_
  show lm_wp _ 153 16 [.ref 123, .int (nI h), .int (nI a), .int (bz is), lm_jk] [.int 1] (hi, hl, X) _
  refine w_if_ne_t (t := 26) rfl rfl (by decide) ?_
  refine w_N 1 27 [.ref 123, .int (nI h), .int (nI a), .int (bz is), lm_jk] [.ref 123] rfl ?_
  refine w_gr 141 rfl rfl rfl (M_kd S) (M_r S (k := 11) (o := 18) rfl) ?_
  refine w_N 1 31 [.ref 123, .int (nI h), .int (nI a), .int (bz is), lm_jk] [.int (nI a), .ref 141] rfl ?_
  refine w_aa a (123 + (19 + a)) rfl (M_kk S (o := 18) (by decide)) (show X.2.2.1 (141) = 10 from M_l S 18 (by decide)) rfl (by omega) (by decide) (M_acr S (by omega)) ?_
  refine w_N 1 34 [.ref 123, .int (nI h), .int (nI a), .int (bz is), lm_jk] [.int 6, .ref (123 + (19 + a))] rfl ?_
  refine w_ia 6 (v := T 6 a) rfl (M_ack S (by omega)) (M_acl S (by omega)) rfl (by decide) (by decide) (rTa H (by decide) ha) ?_
  refine w_N 1 36 [.ref 123, .int (nI h), .int (nI a), .int (bz is), lm_jk] [.int (nI h), .int (T 6 a)] rfl ?_
  refine w_cc rfl m_has ?_
  show lm_wp _ 153 39 [.ref 123, .int (nI h), .int (nI a), .int (bz is), lm_jk] [.int (bz (lkd (T 6 a) h))] (hi, hl, X) _
  refine w_N 2 42 [.ref 123, .int (nI h), .int (nI a), .int (bz is), .int (bz (lkd (T 6 a) h))] [.ref 123] rfl ?_
  refine w_gr 141 rfl rfl rfl (M_kd S) (M_r S (k := 11) (o := 18) rfl) ?_
  refine w_N 1 46 [.ref 123, .int (nI h), .int (nI a), .int (bz is), .int (bz (lkd (T 6 a) h))] [.int (nI a), .ref 141] rfl ?_
  refine w_aa a (123 + (19 + a)) rfl (M_kk S (o := 18) (by decide)) (show X.2.2.1 (141) = 10 from M_l S 18 (by decide)) rfl (by omega) (by decide) (M_acr S (by omega)) ?_
  refine w_N 2 50 [.ref 123, .int (nI h), .int (nI a), .int (bz is), .int (bz (lkd (T 6 a) h))] [.int (bz is), .int 6, .ref (123 + (19 + a))] rfl ?_
  refine w_zeq (t := 69) rfl rfl (fun c1 => ?_) (fun c1 => ?_)
  · refine w_N 1 70 [.ref 123, .int (nI h), .int (nI a), .int (bz is), .int (bz (lkd (T 6 a) h))] [.ref 123, .int 6, .ref (123 + (19 + a))] rfl ?_
    refine w_gr 141 rfl rfl rfl (M_kd S) (M_r S (k := 11) (o := 18) rfl) ?_
    refine w_N 1 74 [.ref 123, .int (nI h), .int (nI a), .int (bz is), .int (bz (lkd (T 6 a) h))] [.int (nI a), .ref 141, .int 6, .ref (123 + (19 + a))] rfl ?_
    refine w_aa a (123 + (19 + a)) rfl (M_kk S (o := 18) (by decide)) (show X.2.2.1 (141) = 10 from M_l S 18 (by decide)) rfl (by omega) (by decide) (M_acr S (by omega)) ?_
    refine w_N 1 77 [.ref 123, .int (nI h), .int (nI a), .int (bz is), .int (bz (lkd (T 6 a) h))] [.int 6, .ref (123 + (19 + a)), .int 6, .ref (123 + (19 + a))] rfl ?_
    refine w_ia 6 (v := T 6 a) rfl (M_ack S (by omega)) (M_acl S (by omega)) rfl (by decide) (by decide) (rTa H (by decide) ha) ?_
    refine w_N 6 84 [.ref 123, .int (nI h), .int (nI a), .int (bz is), .int (bz (lkd (T 6 a) h))] [.int ((T 6 a) &&& ((1 <<< ((nI h) &&& 31)) ^^^ (-1))), .int 6, .ref (123 + (19 + a))] rfl ?_
    refine w_is 6 rfl (M_ack S (by omega)) (Nat.le_trans (M_64 S) (Nat.le_add_right _ _)) (M_acl S (by omega)) rfl (by decide) (by decide) ?_
    refine w_N 2 87 [.ref 123, .int (nI h), .int (nI a), .int (bz is), .int (bz (lkd (T 6 a) h))] [.int 0, .ref 123] rfl ?_
    refine w_pb rfl rfl rfl rfl (M_kd S) (M_64 S) (by decide) ?_
    refine w_N 2 93 [.ref 123, .int (nI h), .int (nI a), .int (bz is), .int (bz (lkd (T 6 a) h))] [.int (bz is), .int (bz (lkd (T 6 a) h))] rfl ?_
    refine w_icmp_eq_f (t := 100) rfl rfl (fun z => h0 (bz_inj.mp z)) ?_
    refine w_N 2 101 [.ref 123, .int (nI h), .int (nI a), .int (bz is), .int (bz (lkd (T 6 a) h))] [.int 1] rfl ?_
    refine w_ri rfl rfl ?_
    have e7 : (T 6 a) &&& ((1 <<< ((nI h) &&& 31)) ^^^ (-1)) = lkS (T 6 a) h is := by unfold lkS; rw [c1]; rfl
    have H5 : rT (lm_up (lm_up hi (123 + (19 + a)) 6 ((T 6 a) &&& ((1 <<< ((nI h) &&& 31)) ^^^ (-1)))) 123 18 0) 123 (lm_up T 6 a (lkS (T 6 a) h is)) n := rT_l H ha (fun b h1 h2 => by rw [lm_up_rw h1, lm_up_rw h2]) (by rw [lm_up_nk (by decide), lm_up_na (by omega)]) (fun k hk => by rw [lm_up_na (by omega), lm_up_nk hk]) (by rw [lm_up_na (by omega), lm_up_eq, e7])
    refine mq_ (mP_town P ⟨fun b hb => by rw [lm_up_rw (by omega), lm_up_rw (by omega)], ?_⟩ H5 (rR_k1 HR ?_ (fun c hc => ?_) ?_ ?_ ?_ ?_ ?_))
    · exact (lm_up_nk (by decide)).trans ((lm_up_na (by omega)).trans (rfl))
    · exact (lm_up_nk (by decide)).trans ((lm_up_na (by omega)).trans (HR.1.1))
    · have := rTle H; rw [lm_up_na (by decide), lm_up_na (by omega)]; exact HR.1.2 c hc
    · exact lm_up_eq
    · exact (lm_up_nk (by decide)).trans ((lm_up_na (by omega)).trans (rfl))
    · exact (lm_up_nk (by decide)).trans ((lm_up_na (by omega)).trans (rfl))
    · exact (lm_up_nk (by decide)).trans ((lm_up_na (by omega)).trans (rfl))
    · have := rTle H; rw [lm_up_rw (by decide), lm_up_rw (by omega)]
  · refine w_N 1 54 [.ref 123, .int (nI h), .int (nI a), .int (bz is), .int (bz (lkd (T 6 a) h))] [.ref 123, .int 6, .ref (123 + (19 + a))] rfl ?_
    refine w_gr 141 rfl rfl rfl (M_kd S) (M_r S (k := 11) (o := 18) rfl) ?_
    refine w_N 1 58 [.ref 123, .int (nI h), .int (nI a), .int (bz is), .int (bz (lkd (T 6 a) h))] [.int (nI a), .ref 141, .int 6, .ref (123 + (19 + a))] rfl ?_
    refine w_aa a (123 + (19 + a)) rfl (M_kk S (o := 18) (by decide)) (show X.2.2.1 (141) = 10 from M_l S 18 (by decide)) rfl (by omega) (by decide) (M_acr S (by omega)) ?_
    refine w_N 1 61 [.ref 123, .int (nI h), .int (nI a), .int (bz is), .int (bz (lkd (T 6 a) h))] [.int 6, .ref (123 + (19 + a)), .int 6, .ref (123 + (19 + a))] rfl ?_
    refine w_ia 6 (v := T 6 a) rfl (M_ack S (by omega)) (M_acl S (by omega)) rfl (by decide) (by decide) (rTa H (by decide) ha) ?_
    refine w_N 5 84 [.ref 123, .int (nI h), .int (nI a), .int (bz is), .int (bz (lkd (T 6 a) h))] [.int ((T 6 a) ||| (1 <<< ((nI h) &&& 31))), .int 6, .ref (123 + (19 + a))] rfl ?_
    refine w_is 6 rfl (M_ack S (by omega)) (Nat.le_trans (M_64 S) (Nat.le_add_right _ _)) (M_acl S (by omega)) rfl (by decide) (by decide) ?_
    refine w_N 2 87 [.ref 123, .int (nI h), .int (nI a), .int (bz is), .int (bz (lkd (T 6 a) h))] [.int 0, .ref 123] rfl ?_
    refine w_pb rfl rfl rfl rfl (M_kd S) (M_64 S) (by decide) ?_
    refine w_N 2 93 [.ref 123, .int (nI h), .int (nI a), .int (bz is), .int (bz (lkd (T 6 a) h))] [.int (bz is), .int (bz (lkd (T 6 a) h))] rfl ?_
    refine w_icmp_eq_f (t := 100) rfl rfl (fun z => h0 (bz_inj.mp z)) ?_
    refine w_N 2 101 [.ref 123, .int (nI h), .int (nI a), .int (bz is), .int (bz (lkd (T 6 a) h))] [.int 1] rfl ?_
    refine w_ri rfl rfl ?_
    have e7 : (T 6 a) ||| (1 <<< ((nI h) &&& 31)) = lkS (T 6 a) h is := by unfold lkS; rw [c1]; rfl
    have H5 : rT (lm_up (lm_up hi (123 + (19 + a)) 6 ((T 6 a) ||| (1 <<< ((nI h) &&& 31)))) 123 18 0) 123 (lm_up T 6 a (lkS (T 6 a) h is)) n := rT_l H ha (fun b h1 h2 => by rw [lm_up_rw h1, lm_up_rw h2]) (by rw [lm_up_nk (by decide), lm_up_na (by omega)]) (fun k hk => by rw [lm_up_na (by omega), lm_up_nk hk]) (by rw [lm_up_na (by omega), lm_up_eq, e7])
    refine mq_ (mP_town P ⟨fun b hb => by rw [lm_up_rw (by omega), lm_up_rw (by omega)], ?_⟩ H5 (rR_k1 HR ?_ (fun c hc => ?_) ?_ ?_ ?_ ?_ ?_))
    · exact (lm_up_nk (by decide)).trans ((lm_up_na (by omega)).trans (rfl))
    · exact (lm_up_nk (by decide)).trans ((lm_up_na (by omega)).trans (HR.1.1))
    · have := rTle H; rw [lm_up_na (by decide), lm_up_na (by omega)]; exact HR.1.2 c hc
    · exact lm_up_eq
    · exact (lm_up_nk (by decide)).trans ((lm_up_na (by omega)).trans (rfl))
    · exact (lm_up_nk (by decide)).trans ((lm_up_na (by omega)).trans (rfl))
    · exact (lm_up_nk (by decide)).trans ((lm_up_na (by omega)).trans (rfl))
    · have := rTle H; rw [lm_up_rw (by decide), lm_up_rw (by omega)]
theorem okZ_n {B D n ts : Nat} {T : lm_T} {R : Nat → Int32} {KO : ab_K} {V : ab_V} {tl : Nat → Int32} (Z : okZ B D T n R KO V ts tl) : True := trivial
theorem st_lock {B D : Nat} {n ts : Nat} {T : lm_T} {R : Nat → Int32} {KO : ab_K} {V : ab_V} {tl F : Nat → Int32} {hf a : Int32} {is : Bool} (Z : okZ B D T n R KO V ts tl) (hB : B + 20 < 2000000) : STEP B 93 153 [.int hf, .int a, .int (bz is)] T n R KO V ts tl F := by
  obtain ⟨hT, hO, hV, hts, htl, hDB, hB0, hKO⟩ := id Z
  by_cases hn : n < 2147483648
  · by_cases hb : (wi hf 0 1 && wi a 0 (nI n - 1)) = false
    · exact ⟨_, D, _, _, _, _, _, _, _, _, okZ_up Z hB, fun _ _ _ _ _ _ P hC => x_lock_b (d := 10) P hb hC, fun _ _ _ _ _ _ P => y_lock_b (d := 10) P hb⟩
    · obtain ⟨h1, h2⟩ := and2_t hb
      obtain ⟨h, rfl, hh⟩ := wi_e (n := 1) h1 (by decide)
      obtain ⟨a, rfl, ha⟩ := (wi_p hn).mp h2
      obtain ⟨k0, m0, c0, x0, dd, bb, l, -, -, -, -, -, -, -, -, -, -, -, -, -, el, hl4⟩ := hT.1 a ha
      by_cases h0 : lkd (T 6 a) h = is
      · exact ⟨_, D, _, _, _, _, _, _, _, _, okZ_T Z hB hT (okR_0 hO), fun _ _ _ _ _ _ P hC => x_lock_e (d := 10) P (by omega) ha h0 hC, fun _ _ _ _ _ _ P => y_lock_e (d := 10) P Z (by omega) ha h0⟩
      · obtain ⟨l2, hl2, el2⟩ := lk_ok l hl4 h (by omega) is
        exact ⟨_, D, _, _, _, _, _, _, _, _, okZ_T Z hB (okT_l hT hl2 (by rw [el]; exact el2)) (okR_0 hO), fun _ _ _ _ _ _ P hC => x_lock_n (d := 10) P (by omega) ha h0 hC, fun _ _ _ _ _ _ P => y_lock_n (d := 10) P Z (by omega) ha h0⟩
  · exact ⟨0, D, T, n, R, KO, V, ts, tl, F, okZ_up Z hB, fun _ _ _ _ _ _ P hC => absurd (isTle P.2.2.1) (by omega), fun _ _ _ _ _ _ P => absurd (rTle P.2.2.1) (by omega)⟩
theorem x_hide_b {d : Nat} {hi : Nat → Nat → Int32} {hl : Nat → Nat → Int64} {X : lm_X} {hi0 : Nat → Nat → Int32} {hl0 : Nat → Nat → Int64} {C n ts : Nat} {T : lm_T} {R : Nat → Int32} {KO : ab_K} {V : ab_V} {tl F : Nat → Int32} (P : cP hi0 hl0 hi hl X C T n R KO V ts tl F) {u : Int32}  (hb : (wi u 0 255) = false) (hC : C + 25 < 2147483648) : lm_w (d + 30) 94 [.ref 64, .int u] (hi, hl, X) (cQ hi0 hl0 X (C + 25) (.int (-2)) T n R KO V ts tl (rfU F (-2))) := by
  obtain ⟨S, O, H, HR, FO, HV, HT, HF, HK, E0, EL0⟩ := id P
  refine lm_w_in (Nat.le_of_ble_eq_true rfl) ?_
  show lm_wp (d + 30) 94 0 [.ref 64, .int u, lm_jk] [] (hi, hl, X) _
  refine w_N 3 5 [.ref 64, .int u, lm_jk] [.int 255, .int 0, .int u] rfl ?_
  refine w_cc rfl x_within ?_
  show lm_wp _ 94 8 [.ref 64, .int u, lm_jk] [.int (bz (wi u 0 255))] (hi, hl, X) _
  refine w_zne (t := 18) rfl rfl (fun c1 => ?_) (fun c1 => ?_)
  · exact absurd hb (by simp [c1])
  · refine w_N 2 14 [.ref 64, .int u, lm_jk] [.int (-2), .ref 64] rfl ?_
    refine w_ca (w_vst rfl rfl rfl (Nat.le_of_ble_eq_true rfl) (Nat.le_of_ble_eq_true rfl) (A_k S 64 (by decide))) (x_refuse P (by unfold isW; decide)) ?_
    rintro _ _ ⟨rfl, hi9, rfl, P9⟩
    show lm_wp _ 94 17 [.ref 64, .int u, lm_jk] [.int (-2)] (hi9, hl, X) _
    refine w_ri rfl rfl ?_
    exact cq_ P9 (by omega) hC
theorem y_hide_b {d : Nat} {hi : Nat → Nat → Int32} {hl : Nat → Nat → Int64} {X : lm_X} {hi0 : Nat → Nat → Int32} {hl0 : Nat → Nat → Int64} {X0 : lm_X} {n ts : Nat} {T : lm_T} {R : Nat → Int32} {KO : ab_K} {V : ab_V} {tl F : Nat → Int32} (P : mP hi0 hl0 X0 hi hl X T n R KO V ts tl F) {u : Int32}  (hb : (wi u 0 255) = false) : lm_w (d + 30) 154 [.ref 123, .int u] (hi, hl, X) (mQ hi0 hl0 X0 (.int (-2)) T n R KO V ts tl (rfU F (-2))) := by
  obtain ⟨SR, O, H, HR, HV, HT, HF, HK, E0, EL0, EX0⟩ := id P
  have S := SR.1
  refine lm_w_in (Nat.le_of_ble_eq_true rfl) ?_
  show lm_wp (d + 30) 154 0 [.ref 123, .int u, lm_jk] [] (hi, hl, X) _
  refine w_N 4 6 [.ref 123, .int u, lm_jk] [.long 255, .long 0, .long u.toInt64] rfl ?_
  refine w_cc rfl (m_in (x := u) (lo := 0) (up := 255) rfl (by decide) (by decide)) ?_
  show lm_wp _ 154 9 [.ref 123, .int u, lm_jk] [.int (bz (wi u 0 255))] (hi, hl, X) _
  refine w_zne (t := 19) rfl rfl (fun c1 => ?_) (fun c1 => ?_)
  · exact absurd hb (by simp [c1])
  · refine w_N 2 15 [.ref 123, .int u, lm_jk] [.int (-2), .ref 123] rfl ?_
    refine w_ca (w_vst rfl rfl rfl (Nat.le_of_ble_eq_true rfl) (Nat.le_of_ble_eq_true rfl) (M_kd S)) (m_refuse P (by unfold isW; decide)) ?_
    rintro _ _ ⟨rfl, hi9, rfl, P9⟩
    show lm_wp _ 154 18 [.ref 123, .int u, lm_jk] [.int (-2)] (hi9, hl, X) _
    refine w_ri rfl rfl ?_
    exact mq_ P9
theorem x_hide {d : Nat} {hi : Nat → Nat → Int32} {hl : Nat → Nat → Int64} {X : lm_X} {hi0 : Nat → Nat → Int32} {hl0 : Nat → Nat → Int64} {C n ts : Nat} {T : lm_T} {R : Nat → Int32} {KO : ab_K} {V : ab_V} {tl F : Nat → Int32} (P : cP hi0 hl0 hi hl X C T n R KO V ts tl F) {u : Nat} (hu : u ≤ 255) (hC : C + 25 < 2147483648) : lm_w (d + 30) 94 [.ref 64, .int (nI u)] (hi, hl, X) (cQ hi0 hl0 X (C + 25) (.int (R 11)) T n (lm_u1 R 11 (nI u)) KO V ts tl F) := by
  obtain ⟨S, O, H, HR, FO, HV, HT, HF, HK, E0, EL0⟩ := id P
  refine lm_w_in (Nat.le_of_ble_eq_true rfl) ?_
  show lm_wp (d + 30) 94 0 [.ref 64, .int (nI u), lm_jk] [] (hi, hl, X) _
  refine w_N 3 5 [.ref 64, .int (nI u), lm_jk] [.int 255, .int 0, .int (nI u)] rfl ?_
  refine w_cc rfl (x_within1 (wi_t (n := 255) hu (by decide))) ?_
  show lm_wp _ 94 8 [.ref 64, .int (nI u), lm_jk] [.int 1] (hi, hl, X) _
  refine w_if_ne_t (t := 18) rfl rfl (by decide) ?_
  refine w_N 1 19 [.ref 64, .int (nI u), lm_jk] [.ref 64] rfl ?_
  refine w_gr 65 rfl rfl rfl (A_k S 64 (by decide)) (A_r S 64 0 (by decide)) ?_
  refine w_gi (v := R 11) rfl rfl rfl (T_kd (A_T65 S)) (HR.2.1) ?_
  refine w_N 2 27 [.ref 64, .int (nI u), .int (R 11)] [.ref 64] rfl ?_
  refine w_gr 65 rfl rfl rfl (A_k S 64 (by decide)) (A_r S 64 0 (by decide)) ?_
  refine w_N 1 31 [.ref 64, .int (nI u), .int (R 11)] [.int (nI u), .ref 65] rfl ?_
  refine w_pi rfl rfl rfl rfl (T_kd (A_T65 S)) (T_64 (A_T65 S)) ?_
  refine w_N 1 35 [.ref 64, .int (nI u), .int (R 11)] [.int (R 11)] rfl ?_
  refine w_ri rfl rfl ?_
  exact cq_ (cP_R (k := 11) (by decide) P) (by omega) hC
theorem y_hide {d : Nat} {hi : Nat → Nat → Int32} {hl : Nat → Nat → Int64} {X : lm_X} {hi0 : Nat → Nat → Int32} {hl0 : Nat → Nat → Int64} {X0 : lm_X} {n ts : Nat} {T : lm_T} {R : Nat → Int32} {KO : ab_K} {V : ab_V} {tl F : Nat → Int32} (P : mP hi0 hl0 X0 hi hl X T n R KO V ts tl F) {u : Nat} (hu : u ≤ 255) : lm_w (d + 30) 154 [.ref 123, .int (nI u)] (hi, hl, X) (mQ hi0 hl0 X0 (.int (R 11)) T n (lm_u1 R 11 (nI u)) KO V ts tl F) := by
  obtain ⟨SR, O, H, HR, HV, HT, HF, HK, E0, EL0, EX0⟩ := id P
  have S := SR.1
  refine lm_w_in (Nat.le_of_ble_eq_true rfl) ?_
  show lm_wp (d + 30) 154 0 [.ref 123, .int (nI u), lm_jk] [] (hi, hl, X) _
  refine w_N 4 6 [.ref 123, .int (nI u), lm_jk] [.long 255, .long 0, .long ((nI u).toInt64)] rfl ?_
  refine w_cc rfl (lm_c_1 (m_in (x := nI u) (lo := 0) (up := 255) rfl (by decide) (by decide)) (wi_t (n := 255) hu (by decide))) ?_
  show lm_wp _ 154 9 [.ref 123, .int (nI u), lm_jk] [.int 1] (hi, hl, X) _
  refine w_if_ne_t (t := 19) rfl rfl (by decide) ?_
  refine w_N 1 20 [.ref 123, .int (nI u), lm_jk] [.ref 123] rfl ?_
  refine w_gi (v := R 11) rfl rfl rfl (M_kd S) (HR.2.1) ?_
  refine w_N 3 26 [.ref 123, .int (nI u), .int (R 11)] [.int (nI u), .ref 123] rfl ?_
  refine w_pi rfl rfl rfl rfl (M_kd S) (M_64 S) ?_
  refine w_N 1 30 [.ref 123, .int (nI u), .int (R 11)] [.int (R 11)] rfl ?_
  refine w_ri rfl rfl ?_
  refine mq_ (mP_town P ⟨fun a ha => lm_up_rw (by omega), lm_up_nk (by decide)⟩ ⟨fun k hk a ha => ?_, fun h hh w hw => ?_, ?_, rTle H⟩ ?_)
  · rw [lm_up_na (by omega)]; exact H.1 k hk a ha
  · rw [lm_up_na (by omega)]; exact H.2.1 h hh w hw
  · rw [lm_up_nk (by decide)]; exact H.2.2.1
  · obtain ⟨r1, r2, r3, r4, r5, r6, r7, r8⟩ := HR
    exact ⟨⟨(lm_up_nk (by decide)).trans r1.1, fun c hc => (lm_up_na (by decide)).trans (r1.2 c hc)⟩, lm_up_eq, (lm_up_nk (by decide)).trans r3, (lm_up_nk (by decide)).trans r4, fun z => ⟨(lm_up_nk (by decide)).trans (r5 z).1, fun c hc => (lm_up_na (by decide)).trans ((r5 z).2 c hc)⟩, (lm_up_nk (by decide)).trans r6, (lm_up_na (by decide)).trans r7, (lm_up_na (by decide)).trans r8⟩
theorem st_hide {B D : Nat} {n ts : Nat} {T : lm_T} {R : Nat → Int32} {KO : ab_K} {V : ab_V} {tl F : Nat → Int32} {u : Int32} (Z : okZ B D T n R KO V ts tl) (hB : B + 20 < 2000000) : STEP B 94 154 [.int u] T n R KO V ts tl F := by
  obtain ⟨hT, hO, hV, hts, htl, hDB, hB0, hKO⟩ := id Z
  cases hb : wi u 0 255
  · exact ⟨_, D, _, _, _, _, _, _, _, _, okZ_up Z hB, fun _ _ _ _ _ _ P hC => x_hide_b (d := 10) P hb hC, fun _ _ _ _ _ _ P => y_hide_b (d := 10) P hb⟩
  · obtain ⟨u, rfl, hu⟩ := wi_e (n := 255) hb (by decide)
    exact ⟨_, D, _, _, _, _, _, _, _, _, okZ_T (R' := lm_u1 R 11 (nI u)) Z hB hT ⟨hO.1, ⟨u, by omega, rfl⟩, hO.2.2.1, hO.2.2.2.1, hO.2.2.2.2.1, hO.2.2.2.2.2⟩, fun _ _ _ _ _ _ P hC => x_hide (d := 10) P hu hC, fun _ _ _ _ _ _ P => y_hide (d := 10) P hu⟩
theorem x_feed_b {d : Nat} {hi : Nat → Nat → Int32} {hl : Nat → Nat → Int64} {X : lm_X} {hi0 : Nat → Nat → Int32} {hl0 : Nat → Nat → Int64} {C n ts : Nat} {T : lm_T} {R : Nat → Int32} {KO : ab_K} {V : ab_V} {tl F : Nat → Int32} (P : cP hi0 hl0 hi hl X C T n R KO V ts tl F) {x : Int32}  (hb : (wi x 0 255) = false) (hC : C + 25 < 2147483648) : lm_w (d + 30) 95 [.ref 64, .int x] (hi, hl, X) (cQ hi0 hl0 X (C + 25) (.int (-2)) T n R KO V ts tl (rfU F (-2))) := by
  obtain ⟨S, O, H, HR, FO, HV, HT, HF, HK, E0, EL0⟩ := id P
  refine lm_w_in (Nat.le_of_ble_eq_true rfl) ?_
  show lm_wp (d + 30) 95 0 [.ref 64, .int x] [] (hi, hl, X) _
  refine w_N 3 5 [.ref 64, .int x] [.int 255, .int 0, .int x] rfl ?_
  refine w_cc rfl x_within ?_
  show lm_wp _ 95 8 [.ref 64, .int x] [.int (bz (wi x 0 255))] (hi, hl, X) _
  refine w_zne (t := 18) rfl rfl (fun c1 => ?_) (fun c1 => ?_)
  · exact absurd hb (by simp [c1])
  · refine w_N 2 14 [.ref 64, .int x] [.int (-2), .ref 64] rfl ?_
    refine w_ca (w_vst rfl rfl rfl (Nat.le_of_ble_eq_true rfl) (Nat.le_of_ble_eq_true rfl) (A_k S 64 (by decide))) (x_refuse P (by unfold isW; decide)) ?_
    rintro _ _ ⟨rfl, hi9, rfl, P9⟩
    show lm_wp _ 95 17 [.ref 64, .int x] [.int (-2)] (hi9, hl, X) _
    refine w_ri rfl rfl ?_
    exact cq_ P9 (by omega) hC
theorem y_feed_b {d : Nat} {hi : Nat → Nat → Int32} {hl : Nat → Nat → Int64} {X : lm_X} {hi0 : Nat → Nat → Int32} {hl0 : Nat → Nat → Int64} {X0 : lm_X} {n ts : Nat} {T : lm_T} {R : Nat → Int32} {KO : ab_K} {V : ab_V} {tl F : Nat → Int32} (P : mP hi0 hl0 X0 hi hl X T n R KO V ts tl F) {x : Int32}  (hb : (wi x 0 255) = false) : lm_w (d + 30) 155 [.ref 123, .int x] (hi, hl, X) (mQ hi0 hl0 X0 (.int (-2)) T n R KO V ts tl (rfU F (-2))) := by
  obtain ⟨SR, O, H, HR, HV, HT, HF, HK, E0, EL0, EX0⟩ := id P
  have S := SR.1
  refine lm_w_in (Nat.le_of_ble_eq_true rfl) ?_
  show lm_wp (d + 30) 155 0 [.ref 123, .int x] [] (hi, hl, X) _
  refine w_N 4 6 [.ref 123, .int x] [.long 255, .long 0, .long x.toInt64] rfl ?_
  refine w_cc rfl (m_in (x := x) (lo := 0) (up := 255) rfl (by decide) (by decide)) ?_
  show lm_wp _ 155 9 [.ref 123, .int x] [.int (bz (wi x 0 255))] (hi, hl, X) _
  refine w_zne (t := 19) rfl rfl (fun c1 => ?_) (fun c1 => ?_)
  · exact absurd hb (by simp [c1])
  · refine w_N 2 15 [.ref 123, .int x] [.int (-2), .ref 123] rfl ?_
    refine w_ca (w_vst rfl rfl rfl (Nat.le_of_ble_eq_true rfl) (Nat.le_of_ble_eq_true rfl) (M_kd S)) (m_refuse P (by unfold isW; decide)) ?_
    rintro _ _ ⟨rfl, hi9, rfl, P9⟩
    show lm_wp _ 155 18 [.ref 123, .int x] [.int (-2)] (hi9, hl, X) _
    refine w_ri rfl rfl ?_
    exact mq_ P9
theorem x_tadd {d : Nat} {hi : Nat → Nat → Int32} {hl : Nat → Nat → Int64} {X : lm_X} {ts : Nat} {x : Int32} (S : sh_A X) (h1 : hi 95 1 = nI ts) (ht : ts < 250) : lm_c d 37 [.ref 95, .int x] (hi, hl, X) (none, (lm_up (lm_up hi 96 ts x) 95 1 (nI ts + 1), hl, X)) := by
  refine lm_c_of (lm_w_in (Nat.le_of_ble_eq_true rfl) ?_)
  show lm_wp d 37 0 [.ref 95, .int x] [] (hi, hl, X) _
  refine w_N 1 1 [.ref 95, .int x] [.ref 95] rfl ?_
  refine w_gr 96 rfl rfl rfl (A_k S 95 (by decide)) (A_r S 95 0 (by decide)) ?_
  refine w_N 1 5 [.ref 95, .int x] [.ref 95, .ref 96] rfl ?_
  refine w_gi (v := nI ts) rfl rfl rfl (A_k S 95 (by decide)) (h1) ?_
  refine w_N 1 9 [.ref 95, .int x] [.int x, .int (nI ts), .ref 96] rfl ?_
  refine w_is ts rfl (A_k S 96 (by decide)) (by decide) (show X.2.2.1 96 = 250 from A_l S 96 (by decide)) rfl ht (by decide) ?_
  refine w_N 2 12 [.ref 95, .int x] [.ref 95, .ref 95] rfl ?_
  refine w_gi (v := nI ts) rfl rfl rfl (A_k S 95 (by decide)) ((lm_up_na (by decide)).trans (h1)) ?_
  refine w_N 2 17 [.ref 95, .int x] [.int ((nI ts) + 1), .ref 95] rfl ?_
  refine w_pi rfl rfl rfl rfl (A_k S 95 (by decide)) (by decide) ?_
  refine w_rv rfl rfl ?_
  rfl
theorem x_feed_f {d : Nat} {hi : Nat → Nat → Int32} {hl : Nat → Nat → Int64} {X : lm_X} {hi0 : Nat → Nat → Int32} {hl0 : Nat → Nat → Int64} {C n ts : Nat} {T : lm_T} {R : Nat → Int32} {KO : ab_K} {V : ab_V} {tl F : Nat → Int32} (P : cP hi0 hl0 hi hl X C T n R KO V ts tl F) {u : Nat} (hu : u ≤ 255) (ht : ts = 250) (hC : C + 25 < 2147483648) : lm_w (d + 30) 95 [.ref 64, .int (nI u)] (hi, hl, X) (cQ hi0 hl0 X (C + 25) (.int (-6)) T n R KO V ts tl (rfU F (-6))) := by
  obtain ⟨S, O, H, HR, FO, HV, HT, HF, HK, E0, EL0⟩ := id P
  refine lm_w_in (Nat.le_of_ble_eq_true rfl) ?_
  show lm_wp (d + 30) 95 0 [.ref 64, .int (nI u)] [] (hi, hl, X) _
  refine w_N 3 5 [.ref 64, .int (nI u)] [.int 255, .int 0, .int (nI u)] rfl ?_
  refine w_cc rfl (x_within1 (wi_t (n := 255) hu (by decide))) ?_
  show lm_wp _ 95 8 [.ref 64, .int (nI u)] [.int 1] (hi, hl, X) _
  refine w_if_ne_t (t := 18) rfl rfl (by decide) ?_
  refine w_N 1 19 [.ref 64, .int (nI u)] [.ref 64] rfl ?_
  refine w_gr 95 rfl rfl rfl (A_k S 64 (by decide)) (A_r S 64 4 (by decide)) ?_
  refine w_gi (v := nI ts) rfl rfl rfl (A_k S 95 (by decide)) (HT.1) ?_
  refine w_N 1 28 [.ref 64, .int (nI u)] [.int 250, .int (nI ts)] rfl ?_
  refine w_icmp_lt_f (t := 38) rfl rfl (by rw [ht]; decide) ?_
  refine w_N 2 34 [.ref 64, .int (nI u)] [.int (-6), .ref 64] rfl ?_
  refine w_ca (w_vst rfl rfl rfl (Nat.le_of_ble_eq_true rfl) (Nat.le_of_ble_eq_true rfl) (A_k S 64 (by decide))) (x_refuse P (by unfold isW; decide)) ?_
  rintro _ _ ⟨rfl, hi9, rfl, P9⟩
  show lm_wp _ 95 37 [.ref 64, .int (nI u)] [.int (-6)] (hi9, hl, X) _
  refine w_ri rfl rfl ?_
  exact cq_ P9 (by omega) hC
theorem y_feed_f {d : Nat} {hi : Nat → Nat → Int32} {hl : Nat → Nat → Int64} {X : lm_X} {hi0 : Nat → Nat → Int32} {hl0 : Nat → Nat → Int64} {X0 : lm_X} {n ts : Nat} {T : lm_T} {R : Nat → Int32} {KO : ab_K} {V : ab_V} {tl F : Nat → Int32} (P : mP hi0 hl0 X0 hi hl X T n R KO V ts tl F) {u : Nat} (hu : u ≤ 255) (ht : ts = 250) : lm_w (d + 30) 155 [.ref 123, .int (nI u)] (hi, hl, X) (mQ hi0 hl0 X0 (.int (-6)) T n R KO V ts tl (rfU F (-6))) := by
  obtain ⟨SR, O, H, HR, HV, HT, HF, HK, E0, EL0, EX0⟩ := id P
  have S := SR.1
  refine lm_w_in (Nat.le_of_ble_eq_true rfl) ?_
  show lm_wp (d + 30) 155 0 [.ref 123, .int (nI u)] [] (hi, hl, X) _
  refine w_N 4 6 [.ref 123, .int (nI u)] [.long 255, .long 0, .long ((nI u).toInt64)] rfl ?_
  refine w_cc rfl (lm_c_1 (m_in (x := nI u) (lo := 0) (up := 255) rfl (by decide) (by decide)) (wi_t (n := 255) hu (by decide))) ?_
  show lm_wp _ 155 9 [.ref 123, .int (nI u)] [.int 1] (hi, hl, X) _
  refine w_if_ne_t (t := 19) rfl rfl (by decide) ?_
  refine w_N 1 20 [.ref 123, .int (nI u)] [.ref 123] rfl ?_
  refine w_gi (v := nI ts) rfl rfl rfl (M_kd S) (HT.1) ?_
  refine w_N 1 26 [.ref 123, .int (nI u)] [.int 250, .int (nI ts)] rfl ?_
  refine w_icmp_ne_f (t := 36) rfl rfl (by rw [ht]; rfl) ?_
  refine w_N 2 32 [.ref 123, .int (nI u)] [.int (-6), .ref 123] rfl ?_
  refine w_ca (w_vst rfl rfl rfl (Nat.le_of_ble_eq_true rfl) (Nat.le_of_ble_eq_true rfl) (M_kd S)) (m_refuse P (by unfold isW; decide)) ?_
  rintro _ _ ⟨rfl, hi9, rfl, P9⟩
  show lm_wp _ 155 35 [.ref 123, .int (nI u)] [.int (-6)] (hi9, hl, X) _
  refine w_ri rfl rfl ?_
  exact mq_ P9
theorem x_feed {d : Nat} {hi : Nat → Nat → Int32} {hl : Nat → Nat → Int64} {X : lm_X} {hi0 : Nat → Nat → Int32} {hl0 : Nat → Nat → Int64} {C n ts : Nat} {T : lm_T} {R : Nat → Int32} {KO : ab_K} {V : ab_V} {tl F : Nat → Int32} (P : cP hi0 hl0 hi hl X C T n R KO V ts tl F) {u : Nat} (hu : u ≤ 255) (ht : ts < 250) (hC : C + 25 < 2147483648) : lm_w (d + 30) 95 [.ref 64, .int (nI u)] (hi, hl, X) (cQ hi0 hl0 X (C + 25) (.int (nI ts + 1)) T n R KO V (ts + 1) (lm_u1 tl ts (nI u)) F) := by
  obtain ⟨S, O, H, HR, FO, HV, HT, HF, HK, E0, EL0⟩ := id P
  refine lm_w_in (Nat.le_of_ble_eq_true rfl) ?_
  show lm_wp (d + 30) 95 0 [.ref 64, .int (nI u)] [] (hi, hl, X) _
  refine w_N 3 5 [.ref 64, .int (nI u)] [.int 255, .int 0, .int (nI u)] rfl ?_
  refine w_cc rfl (x_within1 (wi_t (n := 255) hu (by decide))) ?_
  show lm_wp _ 95 8 [.ref 64, .int (nI u)] [.int 1] (hi, hl, X) _
  refine w_if_ne_t (t := 18) rfl rfl (by decide) ?_
  refine w_N 1 19 [.ref 64, .int (nI u)] [.ref 64] rfl ?_
  refine w_gr 95 rfl rfl rfl (A_k S 64 (by decide)) (A_r S 64 4 (by decide)) ?_
  refine w_gi (v := nI ts) rfl rfl rfl (A_k S 95 (by decide)) (HT.1) ?_
  refine w_N 1 28 [.ref 64, .int (nI u)] [.int 250, .int (nI ts)] rfl ?_
  refine w_icmp_lt_t (t := 38) rfl rfl (nI_lt (b := 250) ht (by decide)) ?_
  refine w_N 1 39 [.ref 64, .int (nI u)] [.ref 64] rfl ?_
  refine w_gr 95 rfl rfl rfl (A_k S 64 (by decide)) (A_r S 64 4 (by decide)) ?_
  refine w_N 1 43 [.ref 64, .int (nI u)] [.int (nI u), .ref 95] rfl ?_
  refine w_cc (w_vst rfl rfl rfl (Nat.le_of_ble_eq_true rfl) (Nat.le_of_ble_eq_true rfl) (A_k S 95 (by decide))) (x_tadd S HT.1 ht) ?_
  show lm_wp _ 95 46 [.ref 64, .int (nI u)] [] (lm_up (lm_up hi 96 ts (nI u)) 95 1 (nI ts + 1), hl, X) _
  refine w_N 1 47 [.ref 64, .int (nI u)] [.ref 64] rfl ?_
  refine w_gr 95 rfl rfl rfl (A_k S 64 (by decide)) (A_r S 64 4 (by decide)) ?_
  refine w_gi (v := nI ts + 1) rfl rfl rfl (A_k S 95 (by decide)) (lm_up_eq) ?_
  refine w_ri rfl rfl ?_
  refine cq_ (cP_tape P (fr_up (fr_up fr_rfl (by decide)) (by decide)) ⟨lm_up_eq.trans (nI_succ ts).symm, fun i hj => ?_⟩) (by omega) hC
  unfold lm_u1
  by_cases e : i = ts
  · subst e; rw [if_pos rfl, lm_up_na (by decide), lm_up_eq]
  · rw [if_neg e, lm_up_na (by decide), lm_up_nk e]; exact HT.2 i (by omega)
theorem y_feed {d : Nat} {hi : Nat → Nat → Int32} {hl : Nat → Nat → Int64} {X : lm_X} {hi0 : Nat → Nat → Int32} {hl0 : Nat → Nat → Int64} {X0 : lm_X} {n ts : Nat} {T : lm_T} {R : Nat → Int32} {KO : ab_K} {V : ab_V} {tl F : Nat → Int32} (P : mP hi0 hl0 X0 hi hl X T n R KO V ts tl F) {u : Nat} (hu : u ≤ 255) (ht : ts < 250) : lm_w (d + 30) 155 [.ref 123, .int (nI u)] (hi, hl, X) (mQ hi0 hl0 X0 (.int (nI ts + 1)) T n R KO V (ts + 1) (lm_u1 tl ts (nI u)) F) := by
  obtain ⟨SR, O, H, HR, HV, HT, HF, HK, E0, EL0, EX0⟩ := id P
  have S := SR.1
  refine lm_w_in (Nat.le_of_ble_eq_true rfl) ?_
  show lm_wp (d + 30) 155 0 [.ref 123, .int (nI u)] [] (hi, hl, X) _
  refine w_N 4 6 [.ref 123, .int (nI u)] [.long 255, .long 0, .long ((nI u).toInt64)] rfl ?_
  refine w_cc rfl (lm_c_1 (m_in (x := nI u) (lo := 0) (up := 255) rfl (by decide) (by decide)) (wi_t (n := 255) hu (by decide))) ?_
  show lm_wp _ 155 9 [.ref 123, .int (nI u)] [.int 1] (hi, hl, X) _
  refine w_if_ne_t (t := 19) rfl rfl (by decide) ?_
  refine w_N 1 20 [.ref 123, .int (nI u)] [.ref 123] rfl ?_
  refine w_gi (v := nI ts) rfl rfl rfl (M_kd S) (HT.1) ?_
  refine w_N 1 26 [.ref 123, .int (nI u)] [.int 250, .int (nI ts)] rfl ?_
  refine w_icmp_ne_t (t := 36) rfl rfl (fun z => by have := (nI_inj (a := ts) (b := 250) (by omega) (by decide)).mp z; omega) ?_
  refine w_N 1 37 [.ref 123, .int (nI u)] [.ref 123] rfl ?_
  refine w_gr 139 rfl rfl rfl (M_kd S) (M_r S (k := 7) (o := 16) rfl) ?_
  refine w_N 2 42 [.ref 123, .int (nI u)] [.ref 123, .ref 123, .ref 139] rfl ?_
  refine w_gi (v := nI ts) rfl rfl rfl (M_kd S) (HT.1) ?_
  refine w_N 3 48 [.ref 123, .int (nI u)] [.int ((nI ts) + 1), .ref 123, .int (nI ts), .ref 139] rfl ?_
  refine w_pi rfl rfl rfl rfl (M_kd S) (M_64 S) ?_
  refine w_N 1 52 [.ref 123, .int (nI u)] [.int (nI u), .int (nI ts), .ref 139] rfl ?_
  refine w_is ts rfl (show X.2.1 (139) = 1 from M_k S 16 (by decide)) (by decide) (show X.2.2.1 (139) = 250 from M_l S 16 (by decide)) rfl ht (by decide) ?_
  refine w_N 1 54 [.ref 123, .int (nI u)] [.ref 123] rfl ?_
  refine w_gi (v := (nI ts) + 1) rfl rfl rfl (M_kd S) ((lm_up_na (by decide)).trans (lm_up_eq)) ?_
  refine w_ri rfl rfl ?_
  refine mq_ (mP_tape P (fun a h1 h2 => by rw [lm_up_rw h2, lm_up_rw h1]) (fun k hk => by rw [lm_up_na (by decide), lm_up_nk hk]) ⟨?_, fun i hj => ?_⟩)
  · rw [lm_up_na (by decide), lm_up_eq, nI_succ]
  · unfold lm_u1
    by_cases e : i = ts
    · subst e; rw [if_pos rfl, lm_up_eq]
    · rw [if_neg e, lm_up_nk e, lm_up_na (by decide)]; exact HT.2 i (by omega)
theorem st_feed {B D : Nat} {n ts : Nat} {T : lm_T} {R : Nat → Int32} {KO : ab_K} {V : ab_V} {tl F : Nat → Int32} {x : Int32} (Z : okZ B D T n R KO V ts tl) (hB : B + 20 < 2000000) : STEP B 95 155 [.int x] T n R KO V ts tl F := by
  obtain ⟨hT, hO, hV, hts, htl, hDB, hB0, hKO⟩ := id Z
  cases hb : wi x 0 255
  · exact ⟨_, D, _, _, _, _, _, _, _, _, okZ_up Z hB, fun _ _ _ _ _ _ P hC => x_feed_b (d := 10) P hb hC, fun _ _ _ _ _ _ P => y_feed_b (d := 10) P hb⟩
  · obtain ⟨u, rfl, hu⟩ := wi_e (n := 255) hb (by decide)
    by_cases ht : ts = 250
    · exact ⟨_, D, _, _, _, _, _, _, _, _, okZ_up Z hB, fun _ _ _ _ _ _ P hC => x_feed_f (d := 10) P hu ht hC, fun _ _ _ _ _ _ P => y_feed_f (d := 10) P hu ht⟩
    · refine ⟨_, D, _, _, _, _, _, _, _, _, ?_, fun _ _ _ _ _ _ P hC => x_feed (d := 10) P hu (by omega) hC, fun _ _ _ _ _ _ P => y_feed (d := 10) P hu (by omega)⟩
      obtain ⟨z1, z2, z3, z4, z5, z6, z7, z8⟩ := okZ_up Z hB
      refine ⟨z1, z2, z3, by omega, fun i hj => ?_, z6, z7, z8⟩
      unfold lm_u1
      by_cases e : i = ts
      · rw [if_pos e]; exact ⟨u, by omega, rfl⟩
      · rw [if_neg e]; exact z5 i (by omega)
theorem x_wipe {d : Nat} {hi : Nat → Nat → Int32} {hl : Nat → Nat → Int64} {X : lm_X} {hi0 : Nat → Nat → Int32} {hl0 : Nat → Nat → Int64} {C n ts : Nat} {T : lm_T} {R : Nat → Int32} {KO : ab_K} {V : ab_V} {tl F : Nat → Int32} (P : cP hi0 hl0 hi hl X C T n R KO V ts tl F) (hC : C + 25 < 2147483648) : lm_w (d + 30) 96 [.ref 64] (hi, hl, X) (cQ hi0 hl0 X (C + 25) (.int (nI ts)) T n R KO V 0 tl F) := by
  obtain ⟨S, O, H, HR, FO, HV, HT, HF, HK, E0, EL0⟩ := id P
  refine lm_w_in (Nat.le_of_ble_eq_true rfl) ?_
  show lm_wp (d + 30) 96 0 [.ref 64, lm_jk] [] (hi, hl, X) _
  refine w_N 1 1 [.ref 64, lm_jk] [.ref 64] rfl ?_
  refine w_gr 95 rfl rfl rfl (A_k S 64 (by decide)) (A_r S 64 4 (by decide)) ?_
  refine w_gi (v := nI ts) rfl rfl rfl (A_k S 95 (by decide)) (HT.1) ?_
  refine w_N 2 9 [.ref 64, .int (nI ts)] [.ref 64] rfl ?_
  refine w_gr 95 rfl rfl rfl (A_k S 64 (by decide)) (A_r S 64 4 (by decide)) ?_
  refine w_N 1 13 [.ref 64, .int (nI ts)] [.int 0, .ref 95] rfl ?_
  refine w_pi rfl rfl rfl rfl (A_k S 95 (by decide)) (by decide) ?_
  refine w_N 1 17 [.ref 64, .int (nI ts)] [.int (nI ts)] rfl ?_
  refine w_ri rfl rfl ?_
  exact cq_ (cP_tape P (fr_up fr_rfl (by decide)) ⟨lm_up_eq, fun i hj => by omega⟩) (by omega) hC
theorem y_wipe {d : Nat} {hi : Nat → Nat → Int32} {hl : Nat → Nat → Int64} {X : lm_X} {hi0 : Nat → Nat → Int32} {hl0 : Nat → Nat → Int64} {X0 : lm_X} {n ts : Nat} {T : lm_T} {R : Nat → Int32} {KO : ab_K} {V : ab_V} {tl F : Nat → Int32} (P : mP hi0 hl0 X0 hi hl X T n R KO V ts tl F) : lm_w (d + 30) 156 [.ref 123] (hi, hl, X) (mQ hi0 hl0 X0 (.int (nI ts)) T n R KO V 0 tl F) := by
  obtain ⟨SR, O, H, HR, HV, HT, HF, HK, E0, EL0, EX0⟩ := id P
  have S := SR.1
  refine lm_w_in (Nat.le_of_ble_eq_true rfl) ?_
  show lm_wp (d + 30) 156 0 [.ref 123, lm_jk] [] (hi, hl, X) _
  refine w_N 1 1 [.ref 123, lm_jk] [.ref 123] rfl ?_
  refine w_gi (v := nI ts) rfl rfl rfl (M_kd S) (HT.1) ?_
  refine w_N 3 7 [.ref 123, .int (nI ts)] [.int 0, .ref 123] rfl ?_
  refine w_pi rfl rfl rfl rfl (M_kd S) (M_64 S) ?_
  refine w_N 1 11 [.ref 123, .int (nI ts)] [.int (nI ts)] rfl ?_
  refine w_ri rfl rfl ?_
  exact mq_ (mP_tape P (fun a h1 h2 => lm_up_rw h1) (fun k hk => lm_up_nk hk) ⟨lm_up_eq, fun i hj => by omega⟩)
theorem st_wipe {B D : Nat} {n ts : Nat} {T : lm_T} {R : Nat → Int32} {KO : ab_K} {V : ab_V} {tl F : Nat → Int32}  (Z : okZ B D T n R KO V ts tl) (hB : B + 20 < 2000000) : STEP B 96 156 [] T n R KO V ts tl F := by
  obtain ⟨hT, hO, hV, hts, htl, hDB, hB0, hKO⟩ := id Z
  refine ⟨_, D, _, _, _, _, _, _, _, _, ?_, fun _ _ _ _ _ _ P hC => x_wipe (d := 10) P hC, fun _ _ _ _ _ _ P => y_wipe (d := 10) P⟩
  obtain ⟨z1, z2, z3, z4, z5, z6, z7, z8⟩ := okZ_up Z hB
  exact ⟨z1, z2, z3, by omega, fun i hj => by omega, z6, z7, z8⟩
theorem x_actOf_b {d : Nat} {hi : Nat → Nat → Int32} {hl : Nat → Nat → Int64} {X : lm_X} {hi0 : Nat → Nat → Int32} {hl0 : Nat → Nat → Int64} {C n ts : Nat} {T : lm_T} {R : Nat → Int32} {KO : ab_K} {V : ab_V} {tl F : Nat → Int32} (P : cP hi0 hl0 hi hl X C T n R KO V ts tl F) {a w : Int32}  (hb : (wi a 0 (nI n - 1) && wi w 0 6) = false) (hC : C + 25 < 2147483648) : lm_w (d + 30) 98 [.ref 64, .int a, .int w] (hi, hl, X) (cQ hi0 hl0 X (C + 25) (.int (-2)) T n R KO V ts tl (rfU F (-2))) := by
  obtain ⟨S, O, H, HR, FO, HV, HT, HF, HK, E0, EL0⟩ := id P
  refine lm_w_in (Nat.le_of_ble_eq_true rfl) ?_
  show lm_wp (d + 30) 98 0 [.ref 64, .int a, .int w] [] (hi, hl, X) _
  refine w_N 2 2 [.ref 64, .int a, .int w] [.int a, .ref 64] rfl ?_
  refine w_cc (w_vst rfl rfl rfl (Nat.le_of_ble_eq_true rfl) (Nat.le_of_ble_eq_true rfl) (A_k S 64 (by decide))) (x_isAct S H) ?_
  show lm_wp _ 98 5 [.ref 64, .int a, .int w] [.int (bz (wi a 0 (nI n - 1)))] (hi, hl, X) _
  refine w_zeq (t := 18) rfl rfl (fun c1 => ?_) (fun c1 => ?_)
  · refine w_N 2 21 [.ref 64, .int a, .int w] [.int (-2), .ref 64] rfl ?_
    refine w_ca (w_vst rfl rfl rfl (Nat.le_of_ble_eq_true rfl) (Nat.le_of_ble_eq_true rfl) (A_k S 64 (by decide))) (x_refuse P (by unfold isW; decide)) ?_
    rintro _ _ ⟨rfl, hi9, rfl, P9⟩
    show lm_wp _ 98 24 [.ref 64, .int a, .int w] [.int (-2)] (hi9, hl, X) _
    refine w_ri rfl rfl ?_
    exact cq_ P9 (by omega) hC
  · refine w_N 3 12 [.ref 64, .int a, .int w] [.int 6, .int 0, .int w] rfl ?_
    refine w_cc rfl x_within ?_
    show lm_wp _ 98 15 [.ref 64, .int a, .int w] [.int (bz (wi w 0 6))] (hi, hl, X) _
    refine w_zne (t := 25) rfl rfl (fun c2 => ?_) (fun c2 => ?_)
    · exact absurd hb (by simp [c1, c2])
    · refine w_N 2 21 [.ref 64, .int a, .int w] [.int (-2), .ref 64] rfl ?_
      refine w_ca (w_vst rfl rfl rfl (Nat.le_of_ble_eq_true rfl) (Nat.le_of_ble_eq_true rfl) (A_k S 64 (by decide))) (x_refuse P (by unfold isW; decide)) ?_
      rintro _ _ ⟨rfl, hi9, rfl, P9⟩
      show lm_wp _ 98 24 [.ref 64, .int a, .int w] [.int (-2)] (hi9, hl, X) _
      refine w_ri rfl rfl ?_
      exact cq_ P9 (by omega) hC
theorem y_actOf_b {d : Nat} {hi : Nat → Nat → Int32} {hl : Nat → Nat → Int64} {X : lm_X} {hi0 : Nat → Nat → Int32} {hl0 : Nat → Nat → Int64} {X0 : lm_X} {n ts : Nat} {T : lm_T} {R : Nat → Int32} {KO : ab_K} {V : ab_V} {tl F : Nat → Int32} (P : mP hi0 hl0 X0 hi hl X T n R KO V ts tl F) {a w : Int32}  (hb : (wi a 0 (nI n - 1) && wi w 0 6) = false) : lm_w (d + 30) 169 [.ref 123, .int a, .int w] (hi, hl, X) (mQ hi0 hl0 X0 (.int (-2)) T n R KO V ts tl (rfU F (-2))) := by
  obtain ⟨SR, O, H, HR, HV, HT, HF, HK, E0, EL0, EX0⟩ := id P
  have S := SR.1
  refine lm_w_in (Nat.le_of_ble_eq_true rfl) ?_
  show lm_wp (d + 30) 169 0 [.ref 123, .int a, .int w] [] (hi, hl, X) _
  refine w_N 3 3 [.ref 123, .int a, .int w] [.long a.toInt64, .ref 123] rfl ?_
  refine w_cc (w_vst rfl rfl rfl (Nat.le_of_ble_eq_true rfl) (Nat.le_of_ble_eq_true rfl) (M_kd S)) (m_isAct (x := a) S H rfl) ?_
  show lm_wp _ 169 6 [.ref 123, .int a, .int w] [.int (bz (wi a 0 (nI n - 1)))] (hi, hl, X) _
  refine w_zeq (t := 32) rfl rfl (fun c1 => ?_) (fun c1 => ?_)
  · refine w_N 2 35 [.ref 123, .int a, .int w] [.int (-2), .ref 123] rfl ?_
    refine w_ca (w_vst rfl rfl rfl (Nat.le_of_ble_eq_true rfl) (Nat.le_of_ble_eq_true rfl) (M_kd S)) (m_refuse P (by unfold isW; decide)) ?_
    rintro _ _ ⟨rfl, hi9, rfl, P9⟩
    show lm_wp _ 169 38 [.ref 123, .int a, .int w] [.int (-2)] (hi9, hl, X) _
    refine w_ri rfl rfl ?_
    exact mq_ P9
  · refine w_N 4 15 [.ref 123, .int a, .int w] [.long 6, .long 0, .long w.toInt64] rfl ?_
    refine w_cc rfl (m_in (x := w) (lo := 0) (up := 6) rfl (by decide) (by decide)) ?_
    show lm_wp _ 169 18 [.ref 123, .int a, .int w] [.int (bz (wi w 0 6))] (hi, hl, X) _
    refine w_zeq (t := 32) rfl rfl (fun c2 => ?_) (fun c2 => ?_)
    · refine w_N 2 35 [.ref 123, .int a, .int w] [.int (-2), .ref 123] rfl ?_
      refine w_ca (w_vst rfl rfl rfl (Nat.le_of_ble_eq_true rfl) (Nat.le_of_ble_eq_true rfl) (M_kd S)) (m_refuse P (by unfold isW; decide)) ?_
      rintro _ _ ⟨rfl, hi9, rfl, P9⟩
      show lm_wp _ 169 38 [.ref 123, .int a, .int w] [.int (-2)] (hi9, hl, X) _
      refine w_ri rfl rfl ?_
      exact mq_ P9
    · exact absurd hb (by simp [c1, c2])
theorem x_actOf0 {d : Nat} {hi : Nat → Nat → Int32} {hl : Nat → Nat → Int64} {X : lm_X} {hi0 : Nat → Nat → Int32} {hl0 : Nat → Nat → Int64} {C n ts : Nat} {T : lm_T} {R : Nat → Int32} {KO : ab_K} {V : ab_V} {tl F : Nat → Int32} (P : cP hi0 hl0 hi hl X C T n R KO V ts tl F) {a : Nat} (ha : a < n) (hC : C + 25 < 2147483648) : lm_w (d + 30) 98 [.ref 64, .int (nI a), .int 0] (hi, hl, X) (cQ hi0 hl0 X (C + 25) (.int (T 0 a)) T n R KO V ts tl F) := by
  obtain ⟨S, O, H, HR, FO, HV, HT, HF, HK, E0, EL0⟩ := id P
  have hn10 := isTle H
  refine lm_w_in (Nat.le_of_ble_eq_true rfl) ?_
  show lm_wp (d + 30) 98 0 [.ref 64, .int (nI a), .int 0] [] (hi, hl, X) _
  refine w_N 2 2 [.ref 64, .int (nI a), .int 0] [.int (nI a), .ref 64] rfl ?_
  refine w_cc (w_vst rfl rfl rfl (Nat.le_of_ble_eq_true rfl) (Nat.le_of_ble_eq_true rfl) (A_k S 64 (by decide))) (x_isAct1 S H ((wi_p (x := nI a) (n := n) (by have := isTle H; omega)).mpr ⟨a, rfl, ha⟩)) ?_
  show lm_wp _ 98 5 [.ref 64, .int (nI a), .int 0] [.int 1] (hi, hl, X) _
  refine w_if_eq_f (t := 18) rfl rfl (by decide) ?_
  refine w_N 3 12 [.ref 64, .int (nI a), .int 0] [.int 6, .int 0, .int 0] rfl ?_
  refine w_cc rfl (x_within1 (by decide)) ?_
  show lm_wp _ 98 15 [.ref 64, .int (nI a), .int 0] [.int 1] (hi, hl, X) _
  refine w_if_ne_t (t := 25) rfl rfl (by decide) ?_
  refine w_N 1 26 [.ref 64, .int (nI a), .int 0] [.int 0] rfl ?_
  refine w_ts (t := 64) rfl (by decide) rfl ?_
  refine w_N 1 65 [.ref 64, .int (nI a), .int 0] [.ref 64] rfl ?_
  refine w_gr 65 rfl rfl rfl (A_k S 64 (by decide)) (A_r S 64 0 (by decide)) ?_
  refine w_gr 66 rfl rfl rfl (T_kd (A_T65 S)) (T_r0 (A_T65 S)) ?_
  refine w_N 1 72 [.ref 64, .int (nI a), .int 0] [.int (nI a), .ref 66] rfl ?_
  refine w_ia a (v := T 0 a) rfl (T_k0 (A_T65 S)) (T_l0 (A_T65 S)) rfl (by omega) (by decide) (isT0 H (by omega)) ?_
  refine w_ri rfl rfl ?_
  exact cq_ P (by omega) hC
theorem y_actOf0 {d : Nat} {hi : Nat → Nat → Int32} {hl : Nat → Nat → Int64} {X : lm_X} {hi0 : Nat → Nat → Int32} {hl0 : Nat → Nat → Int64} {X0 : lm_X} {n ts : Nat} {T : lm_T} {R : Nat → Int32} {KO : ab_K} {V : ab_V} {tl F : Nat → Int32} (P : mP hi0 hl0 X0 hi hl X T n R KO V ts tl F) {a : Nat} (ha : a < n) : lm_w (d + 30) 169 [.ref 123, .int (nI a), .int 0] (hi, hl, X) (mQ hi0 hl0 X0 (.int (T 0 a)) T n R KO V ts tl F) := by
  obtain ⟨SR, O, H, HR, HV, HT, HF, HK, E0, EL0, EX0⟩ := id P
  have S := SR.1
  have hn10 := rTle H
  refine lm_w_in (Nat.le_of_ble_eq_true rfl) ?_
  show lm_wp (d + 30) 169 0 [.ref 123, .int (nI a), .int 0] [] (hi, hl, X) _
  refine w_N 3 3 [.ref 123, .int (nI a), .int 0] [.long ((nI a).toInt64), .ref 123] rfl ?_
  refine w_cc (w_vst rfl rfl rfl (Nat.le_of_ble_eq_true rfl) (Nat.le_of_ble_eq_true rfl) (M_kd S)) (lm_c_1 (m_isAct (x := nI a) S H rfl) ((wi_p (x := nI a) (n := n) (by have := rTle H; omega)).mpr ⟨a, rfl, ha⟩)) ?_
  show lm_wp _ 169 6 [.ref 123, .int (nI a), .int 0] [.int 1] (hi, hl, X) _
  refine w_if_eq_f (t := 32) rfl rfl (by decide) ?_
  refine w_N 4 15 [.ref 123, .int (nI a), .int 0] [.long 6, .long 0, .long 0] rfl ?_
  refine w_cc rfl (lm_c_1 (m_in (x := 0) (lo := 0) (up := 6) (by decide) (by decide) (by decide)) (by decide)) ?_
  show lm_wp _ 169 18 [.ref 123, .int (nI a), .int 0] [.int 1] (hi, hl, X) _
  refine w_if_eq_f (t := 32) rfl rfl (by decide) ?_
  refine w_N 1 22 [.ref 123, .int (nI a), .int 0] [.ref 123] rfl ?_
  refine w_gr 141 rfl rfl rfl (M_kd S) (M_r S (k := 11) (o := 18) rfl) ?_
  refine w_N 1 26 [.ref 123, .int (nI a), .int 0] [.int (nI a), .ref 141] rfl ?_
  refine w_aa a (123 + (19 + a)) rfl (M_kk S (o := 18) (by decide)) (show X.2.2.1 (141) = 10 from M_l S 18 (by decide)) rfl (by omega) (by decide) (M_acr S (by omega)) ?_
  refine w_N 1 28 [.ref 123, .int (nI a), .int 0] [.int 0, .ref (123 + (19 + a))] rfl ?_
  refine w_ia 0 (v := T 0 a) rfl (M_ack S (by omega)) (M_acl S (by omega)) rfl (by decide) (by decide) (rTa H (by decide) ha) ?_
  refine w_N 1 38 [.ref 123, .int (nI a), .int 0] [.int (T 0 a)] rfl ?_
  refine w_ri rfl rfl ?_
  exact mq_ P
theorem x_actOf1 {d : Nat} {hi : Nat → Nat → Int32} {hl : Nat → Nat → Int64} {X : lm_X} {hi0 : Nat → Nat → Int32} {hl0 : Nat → Nat → Int64} {C n ts : Nat} {T : lm_T} {R : Nat → Int32} {KO : ab_K} {V : ab_V} {tl F : Nat → Int32} (P : cP hi0 hl0 hi hl X C T n R KO V ts tl F) {a : Nat} (ha : a < n) (hC : C + 25 < 2147483648) : lm_w (d + 30) 98 [.ref 64, .int (nI a), .int 1] (hi, hl, X) (cQ hi0 hl0 X (C + 25) (.int (T 1 a)) T n R KO V ts tl F) := by
  obtain ⟨S, O, H, HR, FO, HV, HT, HF, HK, E0, EL0⟩ := id P
  have hn10 := isTle H
  refine lm_w_in (Nat.le_of_ble_eq_true rfl) ?_
  show lm_wp (d + 30) 98 0 [.ref 64, .int (nI a), .int 1] [] (hi, hl, X) _
  refine w_N 2 2 [.ref 64, .int (nI a), .int 1] [.int (nI a), .ref 64] rfl ?_
  refine w_cc (w_vst rfl rfl rfl (Nat.le_of_ble_eq_true rfl) (Nat.le_of_ble_eq_true rfl) (A_k S 64 (by decide))) (x_isAct1 S H ((wi_p (x := nI a) (n := n) (by have := isTle H; omega)).mpr ⟨a, rfl, ha⟩)) ?_
  show lm_wp _ 98 5 [.ref 64, .int (nI a), .int 1] [.int 1] (hi, hl, X) _
  refine w_if_eq_f (t := 18) rfl rfl (by decide) ?_
  refine w_N 3 12 [.ref 64, .int (nI a), .int 1] [.int 6, .int 0, .int 1] rfl ?_
  refine w_cc rfl (x_within1 (by decide)) ?_
  show lm_wp _ 98 15 [.ref 64, .int (nI a), .int 1] [.int 1] (hi, hl, X) _
  refine w_if_ne_t (t := 25) rfl rfl (by decide) ?_
  refine w_N 1 26 [.ref 64, .int (nI a), .int 1] [.int 1] rfl ?_
  refine w_ts (t := 74) rfl (by decide) rfl ?_
  refine w_N 1 75 [.ref 64, .int (nI a), .int 1] [.ref 64] rfl ?_
  refine w_gr 65 rfl rfl rfl (A_k S 64 (by decide)) (A_r S 64 0 (by decide)) ?_
  refine w_gr 67 rfl rfl rfl (T_kd (A_T65 S)) (T_r1 (A_T65 S)) ?_
  refine w_N 1 82 [.ref 64, .int (nI a), .int 1] [.int (nI a), .ref 67] rfl ?_
  refine w_ia a (v := T 1 a) rfl (T_k1 (A_T65 S)) (T_l1 (A_T65 S)) rfl (by omega) (by decide) (isT1 H (by omega)) ?_
  refine w_ri rfl rfl ?_
  exact cq_ P (by omega) hC
theorem y_actOf1 {d : Nat} {hi : Nat → Nat → Int32} {hl : Nat → Nat → Int64} {X : lm_X} {hi0 : Nat → Nat → Int32} {hl0 : Nat → Nat → Int64} {X0 : lm_X} {n ts : Nat} {T : lm_T} {R : Nat → Int32} {KO : ab_K} {V : ab_V} {tl F : Nat → Int32} (P : mP hi0 hl0 X0 hi hl X T n R KO V ts tl F) {a : Nat} (ha : a < n) : lm_w (d + 30) 169 [.ref 123, .int (nI a), .int 1] (hi, hl, X) (mQ hi0 hl0 X0 (.int (T 1 a)) T n R KO V ts tl F) := by
  obtain ⟨SR, O, H, HR, HV, HT, HF, HK, E0, EL0, EX0⟩ := id P
  have S := SR.1
  have hn10 := rTle H
  refine lm_w_in (Nat.le_of_ble_eq_true rfl) ?_
  show lm_wp (d + 30) 169 0 [.ref 123, .int (nI a), .int 1] [] (hi, hl, X) _
  refine w_N 3 3 [.ref 123, .int (nI a), .int 1] [.long ((nI a).toInt64), .ref 123] rfl ?_
  refine w_cc (w_vst rfl rfl rfl (Nat.le_of_ble_eq_true rfl) (Nat.le_of_ble_eq_true rfl) (M_kd S)) (lm_c_1 (m_isAct (x := nI a) S H rfl) ((wi_p (x := nI a) (n := n) (by have := rTle H; omega)).mpr ⟨a, rfl, ha⟩)) ?_
  show lm_wp _ 169 6 [.ref 123, .int (nI a), .int 1] [.int 1] (hi, hl, X) _
  refine w_if_eq_f (t := 32) rfl rfl (by decide) ?_
  refine w_N 4 15 [.ref 123, .int (nI a), .int 1] [.long 6, .long 0, .long 1] rfl ?_
  refine w_cc rfl (lm_c_1 (m_in (x := 1) (lo := 0) (up := 6) (by decide) (by decide) (by decide)) (by decide)) ?_
  show lm_wp _ 169 18 [.ref 123, .int (nI a), .int 1] [.int 1] (hi, hl, X) _
  refine w_if_eq_f (t := 32) rfl rfl (by decide) ?_
  refine w_N 1 22 [.ref 123, .int (nI a), .int 1] [.ref 123] rfl ?_
  refine w_gr 141 rfl rfl rfl (M_kd S) (M_r S (k := 11) (o := 18) rfl) ?_
  refine w_N 1 26 [.ref 123, .int (nI a), .int 1] [.int (nI a), .ref 141] rfl ?_
  refine w_aa a (123 + (19 + a)) rfl (M_kk S (o := 18) (by decide)) (show X.2.2.1 (141) = 10 from M_l S 18 (by decide)) rfl (by omega) (by decide) (M_acr S (by omega)) ?_
  refine w_N 1 28 [.ref 123, .int (nI a), .int 1] [.int 1, .ref (123 + (19 + a))] rfl ?_
  refine w_ia 1 (v := T 1 a) rfl (M_ack S (by omega)) (M_acl S (by omega)) rfl (by decide) (by decide) (rTa H (by decide) ha) ?_
  refine w_N 1 38 [.ref 123, .int (nI a), .int 1] [.int (T 1 a)] rfl ?_
  refine w_ri rfl rfl ?_
  exact mq_ P
theorem x_actOf2 {d : Nat} {hi : Nat → Nat → Int32} {hl : Nat → Nat → Int64} {X : lm_X} {hi0 : Nat → Nat → Int32} {hl0 : Nat → Nat → Int64} {C n ts : Nat} {T : lm_T} {R : Nat → Int32} {KO : ab_K} {V : ab_V} {tl F : Nat → Int32} (P : cP hi0 hl0 hi hl X C T n R KO V ts tl F) {a : Nat} (ha : a < n) (hC : C + 25 < 2147483648) : lm_w (d + 30) 98 [.ref 64, .int (nI a), .int 2] (hi, hl, X) (cQ hi0 hl0 X (C + 25) (.int (T 2 a)) T n R KO V ts tl F) := by
  obtain ⟨S, O, H, HR, FO, HV, HT, HF, HK, E0, EL0⟩ := id P
  have hn10 := isTle H
  refine lm_w_in (Nat.le_of_ble_eq_true rfl) ?_
  show lm_wp (d + 30) 98 0 [.ref 64, .int (nI a), .int 2] [] (hi, hl, X) _
  refine w_N 2 2 [.ref 64, .int (nI a), .int 2] [.int (nI a), .ref 64] rfl ?_
  refine w_cc (w_vst rfl rfl rfl (Nat.le_of_ble_eq_true rfl) (Nat.le_of_ble_eq_true rfl) (A_k S 64 (by decide))) (x_isAct1 S H ((wi_p (x := nI a) (n := n) (by have := isTle H; omega)).mpr ⟨a, rfl, ha⟩)) ?_
  show lm_wp _ 98 5 [.ref 64, .int (nI a), .int 2] [.int 1] (hi, hl, X) _
  refine w_if_eq_f (t := 18) rfl rfl (by decide) ?_
  refine w_N 3 12 [.ref 64, .int (nI a), .int 2] [.int 6, .int 0, .int 2] rfl ?_
  refine w_cc rfl (x_within1 (by decide)) ?_
  show lm_wp _ 98 15 [.ref 64, .int (nI a), .int 2] [.int 1] (hi, hl, X) _
  refine w_if_ne_t (t := 25) rfl rfl (by decide) ?_
  refine w_N 1 26 [.ref 64, .int (nI a), .int 2] [.int 2] rfl ?_
  refine w_ts (t := 84) rfl (by decide) rfl ?_
  refine w_N 1 85 [.ref 64, .int (nI a), .int 2] [.ref 64] rfl ?_
  refine w_gr 65 rfl rfl rfl (A_k S 64 (by decide)) (A_r S 64 0 (by decide)) ?_
  refine w_gr 68 rfl rfl rfl (T_kd (A_T65 S)) (T_r2 (A_T65 S)) ?_
  refine w_N 1 92 [.ref 64, .int (nI a), .int 2] [.int (nI a), .ref 68] rfl ?_
  refine w_ia a (v := T 2 a) rfl (T_k2 (A_T65 S)) (T_l2 (A_T65 S)) rfl (by omega) (by decide) (isT2 H (by omega)) ?_
  refine w_ri rfl rfl ?_
  exact cq_ P (by omega) hC
theorem y_actOf2 {d : Nat} {hi : Nat → Nat → Int32} {hl : Nat → Nat → Int64} {X : lm_X} {hi0 : Nat → Nat → Int32} {hl0 : Nat → Nat → Int64} {X0 : lm_X} {n ts : Nat} {T : lm_T} {R : Nat → Int32} {KO : ab_K} {V : ab_V} {tl F : Nat → Int32} (P : mP hi0 hl0 X0 hi hl X T n R KO V ts tl F) {a : Nat} (ha : a < n) : lm_w (d + 30) 169 [.ref 123, .int (nI a), .int 2] (hi, hl, X) (mQ hi0 hl0 X0 (.int (T 2 a)) T n R KO V ts tl F) := by
  obtain ⟨SR, O, H, HR, HV, HT, HF, HK, E0, EL0, EX0⟩ := id P
  have S := SR.1
  have hn10 := rTle H
  refine lm_w_in (Nat.le_of_ble_eq_true rfl) ?_
  show lm_wp (d + 30) 169 0 [.ref 123, .int (nI a), .int 2] [] (hi, hl, X) _
  refine w_N 3 3 [.ref 123, .int (nI a), .int 2] [.long ((nI a).toInt64), .ref 123] rfl ?_
  refine w_cc (w_vst rfl rfl rfl (Nat.le_of_ble_eq_true rfl) (Nat.le_of_ble_eq_true rfl) (M_kd S)) (lm_c_1 (m_isAct (x := nI a) S H rfl) ((wi_p (x := nI a) (n := n) (by have := rTle H; omega)).mpr ⟨a, rfl, ha⟩)) ?_
  show lm_wp _ 169 6 [.ref 123, .int (nI a), .int 2] [.int 1] (hi, hl, X) _
  refine w_if_eq_f (t := 32) rfl rfl (by decide) ?_
  refine w_N 4 15 [.ref 123, .int (nI a), .int 2] [.long 6, .long 0, .long 2] rfl ?_
  refine w_cc rfl (lm_c_1 (m_in (x := 2) (lo := 0) (up := 6) (by decide) (by decide) (by decide)) (by decide)) ?_
  show lm_wp _ 169 18 [.ref 123, .int (nI a), .int 2] [.int 1] (hi, hl, X) _
  refine w_if_eq_f (t := 32) rfl rfl (by decide) ?_
  refine w_N 1 22 [.ref 123, .int (nI a), .int 2] [.ref 123] rfl ?_
  refine w_gr 141 rfl rfl rfl (M_kd S) (M_r S (k := 11) (o := 18) rfl) ?_
  refine w_N 1 26 [.ref 123, .int (nI a), .int 2] [.int (nI a), .ref 141] rfl ?_
  refine w_aa a (123 + (19 + a)) rfl (M_kk S (o := 18) (by decide)) (show X.2.2.1 (141) = 10 from M_l S 18 (by decide)) rfl (by omega) (by decide) (M_acr S (by omega)) ?_
  refine w_N 1 28 [.ref 123, .int (nI a), .int 2] [.int 2, .ref (123 + (19 + a))] rfl ?_
  refine w_ia 2 (v := T 2 a) rfl (M_ack S (by omega)) (M_acl S (by omega)) rfl (by decide) (by decide) (rTa H (by decide) ha) ?_
  refine w_N 1 38 [.ref 123, .int (nI a), .int 2] [.int (T 2 a)] rfl ?_
  refine w_ri rfl rfl ?_
  exact mq_ P
theorem x_actOf3 {d : Nat} {hi : Nat → Nat → Int32} {hl : Nat → Nat → Int64} {X : lm_X} {hi0 : Nat → Nat → Int32} {hl0 : Nat → Nat → Int64} {C n ts : Nat} {T : lm_T} {R : Nat → Int32} {KO : ab_K} {V : ab_V} {tl F : Nat → Int32} (P : cP hi0 hl0 hi hl X C T n R KO V ts tl F) {a : Nat} (ha : a < n) (hC : C + 25 < 2147483648) : lm_w (d + 30) 98 [.ref 64, .int (nI a), .int 3] (hi, hl, X) (cQ hi0 hl0 X (C + 25) (.int (T 3 a)) T n R KO V ts tl F) := by
  obtain ⟨S, O, H, HR, FO, HV, HT, HF, HK, E0, EL0⟩ := id P
  have hn10 := isTle H
  refine lm_w_in (Nat.le_of_ble_eq_true rfl) ?_
  show lm_wp (d + 30) 98 0 [.ref 64, .int (nI a), .int 3] [] (hi, hl, X) _
  refine w_N 2 2 [.ref 64, .int (nI a), .int 3] [.int (nI a), .ref 64] rfl ?_
  refine w_cc (w_vst rfl rfl rfl (Nat.le_of_ble_eq_true rfl) (Nat.le_of_ble_eq_true rfl) (A_k S 64 (by decide))) (x_isAct1 S H ((wi_p (x := nI a) (n := n) (by have := isTle H; omega)).mpr ⟨a, rfl, ha⟩)) ?_
  show lm_wp _ 98 5 [.ref 64, .int (nI a), .int 3] [.int 1] (hi, hl, X) _
  refine w_if_eq_f (t := 18) rfl rfl (by decide) ?_
  refine w_N 3 12 [.ref 64, .int (nI a), .int 3] [.int 6, .int 0, .int 3] rfl ?_
  refine w_cc rfl (x_within1 (by decide)) ?_
  show lm_wp _ 98 15 [.ref 64, .int (nI a), .int 3] [.int 1] (hi, hl, X) _
  refine w_if_ne_t (t := 25) rfl rfl (by decide) ?_
  refine w_N 1 26 [.ref 64, .int (nI a), .int 3] [.int 3] rfl ?_
  refine w_ts (t := 94) rfl (by decide) rfl ?_
  refine w_N 1 95 [.ref 64, .int (nI a), .int 3] [.ref 64] rfl ?_
  refine w_gr 65 rfl rfl rfl (A_k S 64 (by decide)) (A_r S 64 0 (by decide)) ?_
  refine w_gr 69 rfl rfl rfl (T_kd (A_T65 S)) (T_r3 (A_T65 S)) ?_
  refine w_N 1 102 [.ref 64, .int (nI a), .int 3] [.int (nI a), .ref 69] rfl ?_
  refine w_ia a (v := T 3 a) rfl (T_k3 (A_T65 S)) (T_l3 (A_T65 S)) rfl (by omega) (by decide) (isT3 H (by omega)) ?_
  refine w_ri rfl rfl ?_
  exact cq_ P (by omega) hC
theorem y_actOf3 {d : Nat} {hi : Nat → Nat → Int32} {hl : Nat → Nat → Int64} {X : lm_X} {hi0 : Nat → Nat → Int32} {hl0 : Nat → Nat → Int64} {X0 : lm_X} {n ts : Nat} {T : lm_T} {R : Nat → Int32} {KO : ab_K} {V : ab_V} {tl F : Nat → Int32} (P : mP hi0 hl0 X0 hi hl X T n R KO V ts tl F) {a : Nat} (ha : a < n) : lm_w (d + 30) 169 [.ref 123, .int (nI a), .int 3] (hi, hl, X) (mQ hi0 hl0 X0 (.int (T 3 a)) T n R KO V ts tl F) := by
  obtain ⟨SR, O, H, HR, HV, HT, HF, HK, E0, EL0, EX0⟩ := id P
  have S := SR.1
  have hn10 := rTle H
  refine lm_w_in (Nat.le_of_ble_eq_true rfl) ?_
  show lm_wp (d + 30) 169 0 [.ref 123, .int (nI a), .int 3] [] (hi, hl, X) _
  refine w_N 3 3 [.ref 123, .int (nI a), .int 3] [.long ((nI a).toInt64), .ref 123] rfl ?_
  refine w_cc (w_vst rfl rfl rfl (Nat.le_of_ble_eq_true rfl) (Nat.le_of_ble_eq_true rfl) (M_kd S)) (lm_c_1 (m_isAct (x := nI a) S H rfl) ((wi_p (x := nI a) (n := n) (by have := rTle H; omega)).mpr ⟨a, rfl, ha⟩)) ?_
  show lm_wp _ 169 6 [.ref 123, .int (nI a), .int 3] [.int 1] (hi, hl, X) _
  refine w_if_eq_f (t := 32) rfl rfl (by decide) ?_
  refine w_N 4 15 [.ref 123, .int (nI a), .int 3] [.long 6, .long 0, .long 3] rfl ?_
  refine w_cc rfl (lm_c_1 (m_in (x := 3) (lo := 0) (up := 6) (by decide) (by decide) (by decide)) (by decide)) ?_
  show lm_wp _ 169 18 [.ref 123, .int (nI a), .int 3] [.int 1] (hi, hl, X) _
  refine w_if_eq_f (t := 32) rfl rfl (by decide) ?_
  refine w_N 1 22 [.ref 123, .int (nI a), .int 3] [.ref 123] rfl ?_
  refine w_gr 141 rfl rfl rfl (M_kd S) (M_r S (k := 11) (o := 18) rfl) ?_
  refine w_N 1 26 [.ref 123, .int (nI a), .int 3] [.int (nI a), .ref 141] rfl ?_
  refine w_aa a (123 + (19 + a)) rfl (M_kk S (o := 18) (by decide)) (show X.2.2.1 (141) = 10 from M_l S 18 (by decide)) rfl (by omega) (by decide) (M_acr S (by omega)) ?_
  refine w_N 1 28 [.ref 123, .int (nI a), .int 3] [.int 3, .ref (123 + (19 + a))] rfl ?_
  refine w_ia 3 (v := T 3 a) rfl (M_ack S (by omega)) (M_acl S (by omega)) rfl (by decide) (by decide) (rTa H (by decide) ha) ?_
  refine w_N 1 38 [.ref 123, .int (nI a), .int 3] [.int (T 3 a)] rfl ?_
  refine w_ri rfl rfl ?_
  exact mq_ P
theorem x_actOf4 {d : Nat} {hi : Nat → Nat → Int32} {hl : Nat → Nat → Int64} {X : lm_X} {hi0 : Nat → Nat → Int32} {hl0 : Nat → Nat → Int64} {C n ts : Nat} {T : lm_T} {R : Nat → Int32} {KO : ab_K} {V : ab_V} {tl F : Nat → Int32} (P : cP hi0 hl0 hi hl X C T n R KO V ts tl F) {a : Nat} (ha : a < n) (hC : C + 25 < 2147483648) : lm_w (d + 30) 98 [.ref 64, .int (nI a), .int 4] (hi, hl, X) (cQ hi0 hl0 X (C + 25) (.int (T 4 a)) T n R KO V ts tl F) := by
  obtain ⟨S, O, H, HR, FO, HV, HT, HF, HK, E0, EL0⟩ := id P
  have hn10 := isTle H
  refine lm_w_in (Nat.le_of_ble_eq_true rfl) ?_
  show lm_wp (d + 30) 98 0 [.ref 64, .int (nI a), .int 4] [] (hi, hl, X) _
  refine w_N 2 2 [.ref 64, .int (nI a), .int 4] [.int (nI a), .ref 64] rfl ?_
  refine w_cc (w_vst rfl rfl rfl (Nat.le_of_ble_eq_true rfl) (Nat.le_of_ble_eq_true rfl) (A_k S 64 (by decide))) (x_isAct1 S H ((wi_p (x := nI a) (n := n) (by have := isTle H; omega)).mpr ⟨a, rfl, ha⟩)) ?_
  show lm_wp _ 98 5 [.ref 64, .int (nI a), .int 4] [.int 1] (hi, hl, X) _
  refine w_if_eq_f (t := 18) rfl rfl (by decide) ?_
  refine w_N 3 12 [.ref 64, .int (nI a), .int 4] [.int 6, .int 0, .int 4] rfl ?_
  refine w_cc rfl (x_within1 (by decide)) ?_
  show lm_wp _ 98 15 [.ref 64, .int (nI a), .int 4] [.int 1] (hi, hl, X) _
  refine w_if_ne_t (t := 25) rfl rfl (by decide) ?_
  refine w_N 1 26 [.ref 64, .int (nI a), .int 4] [.int 4] rfl ?_
  refine w_ts (t := 104) rfl (by decide) rfl ?_
  refine w_N 1 105 [.ref 64, .int (nI a), .int 4] [.ref 64] rfl ?_
  refine w_gr 65 rfl rfl rfl (A_k S 64 (by decide)) (A_r S 64 0 (by decide)) ?_
  refine w_gr 70 rfl rfl rfl (T_kd (A_T65 S)) (T_r4 (A_T65 S)) ?_
  refine w_N 1 112 [.ref 64, .int (nI a), .int 4] [.int (nI a), .ref 70] rfl ?_
  refine w_ia a (v := T 4 a) rfl (T_k4 (A_T65 S)) (T_l4 (A_T65 S)) rfl (by omega) (by decide) (isT4 H (by omega)) ?_
  refine w_ri rfl rfl ?_
  exact cq_ P (by omega) hC
theorem y_actOf4 {d : Nat} {hi : Nat → Nat → Int32} {hl : Nat → Nat → Int64} {X : lm_X} {hi0 : Nat → Nat → Int32} {hl0 : Nat → Nat → Int64} {X0 : lm_X} {n ts : Nat} {T : lm_T} {R : Nat → Int32} {KO : ab_K} {V : ab_V} {tl F : Nat → Int32} (P : mP hi0 hl0 X0 hi hl X T n R KO V ts tl F) {a : Nat} (ha : a < n) : lm_w (d + 30) 169 [.ref 123, .int (nI a), .int 4] (hi, hl, X) (mQ hi0 hl0 X0 (.int (T 4 a)) T n R KO V ts tl F) := by
  obtain ⟨SR, O, H, HR, HV, HT, HF, HK, E0, EL0, EX0⟩ := id P
  have S := SR.1
  have hn10 := rTle H
  refine lm_w_in (Nat.le_of_ble_eq_true rfl) ?_
  show lm_wp (d + 30) 169 0 [.ref 123, .int (nI a), .int 4] [] (hi, hl, X) _
  refine w_N 3 3 [.ref 123, .int (nI a), .int 4] [.long ((nI a).toInt64), .ref 123] rfl ?_
  refine w_cc (w_vst rfl rfl rfl (Nat.le_of_ble_eq_true rfl) (Nat.le_of_ble_eq_true rfl) (M_kd S)) (lm_c_1 (m_isAct (x := nI a) S H rfl) ((wi_p (x := nI a) (n := n) (by have := rTle H; omega)).mpr ⟨a, rfl, ha⟩)) ?_
  show lm_wp _ 169 6 [.ref 123, .int (nI a), .int 4] [.int 1] (hi, hl, X) _
  refine w_if_eq_f (t := 32) rfl rfl (by decide) ?_
  refine w_N 4 15 [.ref 123, .int (nI a), .int 4] [.long 6, .long 0, .long 4] rfl ?_
  refine w_cc rfl (lm_c_1 (m_in (x := 4) (lo := 0) (up := 6) (by decide) (by decide) (by decide)) (by decide)) ?_
  show lm_wp _ 169 18 [.ref 123, .int (nI a), .int 4] [.int 1] (hi, hl, X) _
  refine w_if_eq_f (t := 32) rfl rfl (by decide) ?_
  refine w_N 1 22 [.ref 123, .int (nI a), .int 4] [.ref 123] rfl ?_
  refine w_gr 141 rfl rfl rfl (M_kd S) (M_r S (k := 11) (o := 18) rfl) ?_
  refine w_N 1 26 [.ref 123, .int (nI a), .int 4] [.int (nI a), .ref 141] rfl ?_
  refine w_aa a (123 + (19 + a)) rfl (M_kk S (o := 18) (by decide)) (show X.2.2.1 (141) = 10 from M_l S 18 (by decide)) rfl (by omega) (by decide) (M_acr S (by omega)) ?_
  refine w_N 1 28 [.ref 123, .int (nI a), .int 4] [.int 4, .ref (123 + (19 + a))] rfl ?_
  refine w_ia 4 (v := T 4 a) rfl (M_ack S (by omega)) (M_acl S (by omega)) rfl (by decide) (by decide) (rTa H (by decide) ha) ?_
  refine w_N 1 38 [.ref 123, .int (nI a), .int 4] [.int (T 4 a)] rfl ?_
  refine w_ri rfl rfl ?_
  exact mq_ P
theorem x_actOf5 {d : Nat} {hi : Nat → Nat → Int32} {hl : Nat → Nat → Int64} {X : lm_X} {hi0 : Nat → Nat → Int32} {hl0 : Nat → Nat → Int64} {C n ts : Nat} {T : lm_T} {R : Nat → Int32} {KO : ab_K} {V : ab_V} {tl F : Nat → Int32} (P : cP hi0 hl0 hi hl X C T n R KO V ts tl F) {a : Nat} (ha : a < n) (hC : C + 25 < 2147483648) : lm_w (d + 30) 98 [.ref 64, .int (nI a), .int 5] (hi, hl, X) (cQ hi0 hl0 X (C + 25) (.int (T 5 a)) T n R KO V ts tl F) := by
  obtain ⟨S, O, H, HR, FO, HV, HT, HF, HK, E0, EL0⟩ := id P
  have hn10 := isTle H
  refine lm_w_in (Nat.le_of_ble_eq_true rfl) ?_
  show lm_wp (d + 30) 98 0 [.ref 64, .int (nI a), .int 5] [] (hi, hl, X) _
  refine w_N 2 2 [.ref 64, .int (nI a), .int 5] [.int (nI a), .ref 64] rfl ?_
  refine w_cc (w_vst rfl rfl rfl (Nat.le_of_ble_eq_true rfl) (Nat.le_of_ble_eq_true rfl) (A_k S 64 (by decide))) (x_isAct1 S H ((wi_p (x := nI a) (n := n) (by have := isTle H; omega)).mpr ⟨a, rfl, ha⟩)) ?_
  show lm_wp _ 98 5 [.ref 64, .int (nI a), .int 5] [.int 1] (hi, hl, X) _
  refine w_if_eq_f (t := 18) rfl rfl (by decide) ?_
  refine w_N 3 12 [.ref 64, .int (nI a), .int 5] [.int 6, .int 0, .int 5] rfl ?_
  refine w_cc rfl (x_within1 (by decide)) ?_
  show lm_wp _ 98 15 [.ref 64, .int (nI a), .int 5] [.int 1] (hi, hl, X) _
  refine w_if_ne_t (t := 25) rfl rfl (by decide) ?_
  refine w_N 1 26 [.ref 64, .int (nI a), .int 5] [.int 5] rfl ?_
  refine w_ts (t := 114) rfl (by decide) rfl ?_
  refine w_N 1 115 [.ref 64, .int (nI a), .int 5] [.ref 64] rfl ?_
  refine w_gr 65 rfl rfl rfl (A_k S 64 (by decide)) (A_r S 64 0 (by decide)) ?_
  refine w_gr 71 rfl rfl rfl (T_kd (A_T65 S)) (T_r5 (A_T65 S)) ?_
  refine w_N 1 122 [.ref 64, .int (nI a), .int 5] [.int (nI a), .ref 71] rfl ?_
  refine w_ia a (v := T 5 a) rfl (T_k5 (A_T65 S)) (T_l5 (A_T65 S)) rfl (by omega) (by decide) (isT5 H (by omega)) ?_
  refine w_ri rfl rfl ?_
  exact cq_ P (by omega) hC
theorem y_actOf5 {d : Nat} {hi : Nat → Nat → Int32} {hl : Nat → Nat → Int64} {X : lm_X} {hi0 : Nat → Nat → Int32} {hl0 : Nat → Nat → Int64} {X0 : lm_X} {n ts : Nat} {T : lm_T} {R : Nat → Int32} {KO : ab_K} {V : ab_V} {tl F : Nat → Int32} (P : mP hi0 hl0 X0 hi hl X T n R KO V ts tl F) {a : Nat} (ha : a < n) : lm_w (d + 30) 169 [.ref 123, .int (nI a), .int 5] (hi, hl, X) (mQ hi0 hl0 X0 (.int (T 5 a)) T n R KO V ts tl F) := by
  obtain ⟨SR, O, H, HR, HV, HT, HF, HK, E0, EL0, EX0⟩ := id P
  have S := SR.1
  have hn10 := rTle H
  refine lm_w_in (Nat.le_of_ble_eq_true rfl) ?_
  show lm_wp (d + 30) 169 0 [.ref 123, .int (nI a), .int 5] [] (hi, hl, X) _
  refine w_N 3 3 [.ref 123, .int (nI a), .int 5] [.long ((nI a).toInt64), .ref 123] rfl ?_
  refine w_cc (w_vst rfl rfl rfl (Nat.le_of_ble_eq_true rfl) (Nat.le_of_ble_eq_true rfl) (M_kd S)) (lm_c_1 (m_isAct (x := nI a) S H rfl) ((wi_p (x := nI a) (n := n) (by have := rTle H; omega)).mpr ⟨a, rfl, ha⟩)) ?_
  show lm_wp _ 169 6 [.ref 123, .int (nI a), .int 5] [.int 1] (hi, hl, X) _
  refine w_if_eq_f (t := 32) rfl rfl (by decide) ?_
  refine w_N 4 15 [.ref 123, .int (nI a), .int 5] [.long 6, .long 0, .long 5] rfl ?_
  refine w_cc rfl (lm_c_1 (m_in (x := 5) (lo := 0) (up := 6) (by decide) (by decide) (by decide)) (by decide)) ?_
  show lm_wp _ 169 18 [.ref 123, .int (nI a), .int 5] [.int 1] (hi, hl, X) _
  refine w_if_eq_f (t := 32) rfl rfl (by decide) ?_
  refine w_N 1 22 [.ref 123, .int (nI a), .int 5] [.ref 123] rfl ?_
  refine w_gr 141 rfl rfl rfl (M_kd S) (M_r S (k := 11) (o := 18) rfl) ?_
  refine w_N 1 26 [.ref 123, .int (nI a), .int 5] [.int (nI a), .ref 141] rfl ?_
  refine w_aa a (123 + (19 + a)) rfl (M_kk S (o := 18) (by decide)) (show X.2.2.1 (141) = 10 from M_l S 18 (by decide)) rfl (by omega) (by decide) (M_acr S (by omega)) ?_
  refine w_N 1 28 [.ref 123, .int (nI a), .int 5] [.int 5, .ref (123 + (19 + a))] rfl ?_
  refine w_ia 5 (v := T 5 a) rfl (M_ack S (by omega)) (M_acl S (by omega)) rfl (by decide) (by decide) (rTa H (by decide) ha) ?_
  refine w_N 1 38 [.ref 123, .int (nI a), .int 5] [.int (T 5 a)] rfl ?_
  refine w_ri rfl rfl ?_
  exact mq_ P
theorem x_actOf6 {d : Nat} {hi : Nat → Nat → Int32} {hl : Nat → Nat → Int64} {X : lm_X} {hi0 : Nat → Nat → Int32} {hl0 : Nat → Nat → Int64} {C n ts : Nat} {T : lm_T} {R : Nat → Int32} {KO : ab_K} {V : ab_V} {tl F : Nat → Int32} (P : cP hi0 hl0 hi hl X C T n R KO V ts tl F) {a : Nat} (ha : a < n) (hC : C + 25 < 2147483648) : lm_w (d + 30) 98 [.ref 64, .int (nI a), .int 6] (hi, hl, X) (cQ hi0 hl0 X (C + 25) (.int (T 6 a)) T n R KO V ts tl F) := by
  obtain ⟨S, O, H, HR, FO, HV, HT, HF, HK, E0, EL0⟩ := id P
  have hn10 := isTle H
  refine lm_w_in (Nat.le_of_ble_eq_true rfl) ?_
  show lm_wp (d + 30) 98 0 [.ref 64, .int (nI a), .int 6] [] (hi, hl, X) _
  refine w_N 2 2 [.ref 64, .int (nI a), .int 6] [.int (nI a), .ref 64] rfl ?_
  refine w_cc (w_vst rfl rfl rfl (Nat.le_of_ble_eq_true rfl) (Nat.le_of_ble_eq_true rfl) (A_k S 64 (by decide))) (x_isAct1 S H ((wi_p (x := nI a) (n := n) (by have := isTle H; omega)).mpr ⟨a, rfl, ha⟩)) ?_
  show lm_wp _ 98 5 [.ref 64, .int (nI a), .int 6] [.int 1] (hi, hl, X) _
  refine w_if_eq_f (t := 18) rfl rfl (by decide) ?_
  refine w_N 3 12 [.ref 64, .int (nI a), .int 6] [.int 6, .int 0, .int 6] rfl ?_
  refine w_cc rfl (x_within1 (by decide)) ?_
  show lm_wp _ 98 15 [.ref 64, .int (nI a), .int 6] [.int 1] (hi, hl, X) _
  refine w_if_ne_t (t := 25) rfl rfl (by decide) ?_
  refine w_N 1 26 [.ref 64, .int (nI a), .int 6] [.int 6] rfl ?_
  refine w_ts (t := 124) rfl (by decide) rfl ?_
  refine w_N 1 125 [.ref 64, .int (nI a), .int 6] [.ref 64] rfl ?_
  refine w_gr 65 rfl rfl rfl (A_k S 64 (by decide)) (A_r S 64 0 (by decide)) ?_
  refine w_gr 72 rfl rfl rfl (T_kd (A_T65 S)) (T_r6 (A_T65 S)) ?_
  refine w_N 1 132 [.ref 64, .int (nI a), .int 6] [.int (nI a), .ref 72] rfl ?_
  refine w_ia a (v := T 6 a) rfl (T_k6 (A_T65 S)) (T_l6 (A_T65 S)) rfl (by omega) (by decide) (isT6 H (by omega)) ?_
  refine w_ri rfl rfl ?_
  exact cq_ P (by omega) hC
theorem y_actOf6 {d : Nat} {hi : Nat → Nat → Int32} {hl : Nat → Nat → Int64} {X : lm_X} {hi0 : Nat → Nat → Int32} {hl0 : Nat → Nat → Int64} {X0 : lm_X} {n ts : Nat} {T : lm_T} {R : Nat → Int32} {KO : ab_K} {V : ab_V} {tl F : Nat → Int32} (P : mP hi0 hl0 X0 hi hl X T n R KO V ts tl F) {a : Nat} (ha : a < n) : lm_w (d + 30) 169 [.ref 123, .int (nI a), .int 6] (hi, hl, X) (mQ hi0 hl0 X0 (.int (T 6 a)) T n R KO V ts tl F) := by
  obtain ⟨SR, O, H, HR, HV, HT, HF, HK, E0, EL0, EX0⟩ := id P
  have S := SR.1
  have hn10 := rTle H
  refine lm_w_in (Nat.le_of_ble_eq_true rfl) ?_
  show lm_wp (d + 30) 169 0 [.ref 123, .int (nI a), .int 6] [] (hi, hl, X) _
  refine w_N 3 3 [.ref 123, .int (nI a), .int 6] [.long ((nI a).toInt64), .ref 123] rfl ?_
  refine w_cc (w_vst rfl rfl rfl (Nat.le_of_ble_eq_true rfl) (Nat.le_of_ble_eq_true rfl) (M_kd S)) (lm_c_1 (m_isAct (x := nI a) S H rfl) ((wi_p (x := nI a) (n := n) (by have := rTle H; omega)).mpr ⟨a, rfl, ha⟩)) ?_
  show lm_wp _ 169 6 [.ref 123, .int (nI a), .int 6] [.int 1] (hi, hl, X) _
  refine w_if_eq_f (t := 32) rfl rfl (by decide) ?_
  refine w_N 4 15 [.ref 123, .int (nI a), .int 6] [.long 6, .long 0, .long 6] rfl ?_
  refine w_cc rfl (lm_c_1 (m_in (x := 6) (lo := 0) (up := 6) (by decide) (by decide) (by decide)) (by decide)) ?_
  show lm_wp _ 169 18 [.ref 123, .int (nI a), .int 6] [.int 1] (hi, hl, X) _
  refine w_if_eq_f (t := 32) rfl rfl (by decide) ?_
  refine w_N 1 22 [.ref 123, .int (nI a), .int 6] [.ref 123] rfl ?_
  refine w_gr 141 rfl rfl rfl (M_kd S) (M_r S (k := 11) (o := 18) rfl) ?_
  refine w_N 1 26 [.ref 123, .int (nI a), .int 6] [.int (nI a), .ref 141] rfl ?_
  refine w_aa a (123 + (19 + a)) rfl (M_kk S (o := 18) (by decide)) (show X.2.2.1 (141) = 10 from M_l S 18 (by decide)) rfl (by omega) (by decide) (M_acr S (by omega)) ?_
  refine w_N 1 28 [.ref 123, .int (nI a), .int 6] [.int 6, .ref (123 + (19 + a))] rfl ?_
  refine w_ia 6 (v := T 6 a) rfl (M_ack S (by omega)) (M_acl S (by omega)) rfl (by decide) (by decide) (rTa H (by decide) ha) ?_
  refine w_N 1 38 [.ref 123, .int (nI a), .int 6] [.int (T 6 a)] rfl ?_
  refine w_ri rfl rfl ?_
  exact mq_ P
theorem st_actOf {B D : Nat} {n ts : Nat} {T : lm_T} {R : Nat → Int32} {KO : ab_K} {V : ab_V} {tl F : Nat → Int32} {a w : Int32} (Z : okZ B D T n R KO V ts tl) (hB : B + 20 < 2000000) : STEP B 98 169 [.int a, .int w] T n R KO V ts tl F := by
  obtain ⟨hT, hO, hV, hts, htl, hDB, hB0, hKO⟩ := id Z
  by_cases hn : n < 2147483648
  · by_cases hb : (wi a 0 (nI n - 1) && wi w 0 6) = false
    · exact ⟨_, D, _, _, _, _, _, _, _, _, okZ_up Z hB, fun _ _ _ _ _ _ P hC => x_actOf_b (d := 10) P hb hC, fun _ _ _ _ _ _ P => y_actOf_b (d := 10) P hb⟩
    · obtain ⟨h1, h2⟩ := and2_t hb
      obtain ⟨a, rfl, ha⟩ := (wi_p hn).mp h1
      obtain ⟨w, rfl, hw⟩ := wi_e (n := 6) h2 (by decide)
      rcases (by omega : w = 0 ∨ w = 1 ∨ w = 2 ∨ w = 3 ∨ w = 4 ∨ w = 5 ∨ w = 6) with rfl | rfl | rfl | rfl | rfl | rfl | rfl
      · exact ⟨_, D, _, _, _, _, _, _, _, _, okZ_up Z hB, fun _ _ _ _ _ _ P hC => x_actOf0 (d := 10) P ha hC, fun _ _ _ _ _ _ P => y_actOf0 (d := 10) P ha⟩
      · exact ⟨_, D, _, _, _, _, _, _, _, _, okZ_up Z hB, fun _ _ _ _ _ _ P hC => x_actOf1 (d := 10) P ha hC, fun _ _ _ _ _ _ P => y_actOf1 (d := 10) P ha⟩
      · exact ⟨_, D, _, _, _, _, _, _, _, _, okZ_up Z hB, fun _ _ _ _ _ _ P hC => x_actOf2 (d := 10) P ha hC, fun _ _ _ _ _ _ P => y_actOf2 (d := 10) P ha⟩
      · exact ⟨_, D, _, _, _, _, _, _, _, _, okZ_up Z hB, fun _ _ _ _ _ _ P hC => x_actOf3 (d := 10) P ha hC, fun _ _ _ _ _ _ P => y_actOf3 (d := 10) P ha⟩
      · exact ⟨_, D, _, _, _, _, _, _, _, _, okZ_up Z hB, fun _ _ _ _ _ _ P hC => x_actOf4 (d := 10) P ha hC, fun _ _ _ _ _ _ P => y_actOf4 (d := 10) P ha⟩
      · exact ⟨_, D, _, _, _, _, _, _, _, _, okZ_up Z hB, fun _ _ _ _ _ _ P hC => x_actOf5 (d := 10) P ha hC, fun _ _ _ _ _ _ P => y_actOf5 (d := 10) P ha⟩
      · exact ⟨_, D, _, _, _, _, _, _, _, _, okZ_up Z hB, fun _ _ _ _ _ _ P hC => x_actOf6 (d := 10) P ha hC, fun _ _ _ _ _ _ P => y_actOf6 (d := 10) P ha⟩
  · exact ⟨0, D, T, n, R, KO, V, ts, tl, F, okZ_up Z hB, fun _ _ _ _ _ _ P hC => absurd (isTle P.2.2.1) (by omega), fun _ _ _ _ _ _ P => absurd (rTle P.2.2.1) (by omega)⟩
theorem x_worthOf_b {d : Nat} {hi : Nat → Nat → Int32} {hl : Nat → Nat → Int64} {X : lm_X} {hi0 : Nat → Nat → Int32} {hl0 : Nat → Nat → Int64} {C n ts : Nat} {T : lm_T} {R : Nat → Int32} {KO : ab_K} {V : ab_V} {tl F : Nat → Int32} (P : cP hi0 hl0 hi hl X C T n R KO V ts tl F) {hf w : Int32}  (hb : (wi hf 0 1 && wi w 0 11) = false) (hC : C + 25 < 2147483648) : lm_w (d + 30) 99 [.ref 64, .int hf, .int w] (hi, hl, X) (cQ hi0 hl0 X (C + 25) (.int (-1000002)) T n R KO V ts tl (rfU F (-2))) := by
  obtain ⟨S, O, H, HR, FO, HV, HT, HF, HK, E0, EL0⟩ := id P
  refine lm_w_in (Nat.le_of_ble_eq_true rfl) ?_
  show lm_wp (d + 30) 99 0 [.ref 64, .int hf, .int w] [] (hi, hl, X) _
  refine w_N 1 1 [.ref 64, .int hf, .int w] [.int hf] rfl ?_
  refine w_cc rfl x_isHalf ?_
  show lm_wp _ 99 4 [.ref 64, .int hf, .int w] [.int (bz (wi hf 0 1))] (hi, hl, X) _
  refine w_zeq (t := 17) rfl rfl (fun c1 => ?_) (fun c1 => ?_)
  · refine w_N 2 20 [.ref 64, .int hf, .int w] [.int (-2), .ref 64] rfl ?_
    refine w_ca (w_vst rfl rfl rfl (Nat.le_of_ble_eq_true rfl) (Nat.le_of_ble_eq_true rfl) (A_k S 64 (by decide))) (x_refuseGain P (by unfold isW; decide)) ?_
    rintro _ _ ⟨rfl, hi9, rfl, P9⟩
    show lm_wp _ 99 23 [.ref 64, .int hf, .int w] [.int (-1000002)] (hi9, hl, X) _
    refine w_ri rfl rfl ?_
    exact cq_ P9 (by omega) hC
  · refine w_N 3 11 [.ref 64, .int hf, .int w] [.int 11, .int 0, .int w] rfl ?_
    refine w_cc rfl x_within ?_
    show lm_wp _ 99 14 [.ref 64, .int hf, .int w] [.int (bz (wi w 0 11))] (hi, hl, X) _
    refine w_zne (t := 24) rfl rfl (fun c2 => ?_) (fun c2 => ?_)
    · exact absurd hb (by simp [c1, c2])
    · refine w_N 2 20 [.ref 64, .int hf, .int w] [.int (-2), .ref 64] rfl ?_
      refine w_ca (w_vst rfl rfl rfl (Nat.le_of_ble_eq_true rfl) (Nat.le_of_ble_eq_true rfl) (A_k S 64 (by decide))) (x_refuseGain P (by unfold isW; decide)) ?_
      rintro _ _ ⟨rfl, hi9, rfl, P9⟩
      show lm_wp _ 99 23 [.ref 64, .int hf, .int w] [.int (-1000002)] (hi9, hl, X) _
      refine w_ri rfl rfl ?_
      exact cq_ P9 (by omega) hC
theorem y_worthOf_b {d : Nat} {hi : Nat → Nat → Int32} {hl : Nat → Nat → Int64} {X : lm_X} {hi0 : Nat → Nat → Int32} {hl0 : Nat → Nat → Int64} {X0 : lm_X} {n ts : Nat} {T : lm_T} {R : Nat → Int32} {KO : ab_K} {V : ab_V} {tl F : Nat → Int32} (P : mP hi0 hl0 X0 hi hl X T n R KO V ts tl F) {hf w : Int32}  (hb : (wi hf 0 1 && wi w 0 11) = false) : lm_w (d + 30) 170 [.ref 123, .int hf, .int w] (hi, hl, X) (mQ hi0 hl0 X0 (.int (-1000002)) T n R KO V ts tl (rfU F (-2))) := by
  obtain ⟨SR, O, H, HR, HV, HT, HF, HK, E0, EL0, EX0⟩ := id P
  have S := SR.1
  refine lm_w_in (Nat.le_of_ble_eq_true rfl) ?_
  show lm_wp (d + 30) 170 0 [.ref 123, .int hf, .int w] [] (hi, hl, X) _
  refine w_N 4 4 [.ref 123, .int hf, .int w] [.long 1, .long 0, .long hf.toInt64] rfl ?_
  refine w_cc rfl (m_in (x := hf) (lo := 0) (up := 1) rfl (by decide) (by decide)) ?_
  show lm_wp _ 170 7 [.ref 123, .int hf, .int w] [.int (bz (wi hf 0 1))] (hi, hl, X) _
  refine w_zeq (t := 33) rfl rfl (fun c1 => ?_) (fun c1 => ?_)
  · refine w_N 3 38 [.ref 123, .int hf, .int w] [.int (-2), .ref 123, .int (-1000000)] rfl ?_
    refine w_ca (w_vst rfl rfl rfl (Nat.le_of_ble_eq_true rfl) (Nat.le_of_ble_eq_true rfl) (M_kd S)) (m_refuse P (by unfold isW; decide)) ?_
    rintro _ _ ⟨rfl, hi9, rfl, P9⟩
    show lm_wp _ 170 41 [.ref 123, .int hf, .int w] [.int (-2), .int (-1000000)] (hi9, hl, X) _
    refine w_N 1 42 [.ref 123, .int hf, .int w] [.int (-1000002)] rfl ?_
    refine w_ri rfl rfl ?_
    exact mq_ P9
  · refine w_N 4 16 [.ref 123, .int hf, .int w] [.long 11, .long 0, .long w.toInt64] rfl ?_
    refine w_cc rfl (m_in (x := w) (lo := 0) (up := 11) rfl (by decide) (by decide)) ?_
    show lm_wp _ 170 19 [.ref 123, .int hf, .int w] [.int (bz (wi w 0 11))] (hi, hl, X) _
    refine w_zeq (t := 33) rfl rfl (fun c2 => ?_) (fun c2 => ?_)
    · refine w_N 3 38 [.ref 123, .int hf, .int w] [.int (-2), .ref 123, .int (-1000000)] rfl ?_
      refine w_ca (w_vst rfl rfl rfl (Nat.le_of_ble_eq_true rfl) (Nat.le_of_ble_eq_true rfl) (M_kd S)) (m_refuse P (by unfold isW; decide)) ?_
      rintro _ _ ⟨rfl, hi9, rfl, P9⟩
      show lm_wp _ 170 41 [.ref 123, .int hf, .int w] [.int (-2), .int (-1000000)] (hi9, hl, X) _
      refine w_N 1 42 [.ref 123, .int hf, .int w] [.int (-1000002)] rfl ?_
      refine w_ri rfl rfl ?_
      exact mq_ P9
    · exact absurd hb (by simp [c1, c2])
theorem x_worthOf {d : Nat} {hi : Nat → Nat → Int32} {hl : Nat → Nat → Int64} {X : lm_X} {hi0 : Nat → Nat → Int32} {hl0 : Nat → Nat → Int64} {C n ts : Nat} {T : lm_T} {R : Nat → Int32} {KO : ab_K} {V : ab_V} {tl F : Nat → Int32} (P : cP hi0 hl0 hi hl X C T n R KO V ts tl F) {h w : Nat} (hh : h < 2) (hw : w < 12) (hC : C + 25 < 2147483648) : lm_w (d + 30) 99 [.ref 64, .int (nI h), .int (nI w)] (hi, hl, X) (cQ hi0 hl0 X (C + 25) (.int (T 7 (12 * h + w))) T n R KO V ts tl F) := by
  obtain ⟨S, O, H, HR, FO, HV, HT, HF, HK, E0, EL0⟩ := id P
  refine lm_w_in (Nat.le_of_ble_eq_true rfl) ?_
  show lm_wp (d + 30) 99 0 [.ref 64, .int (nI h), .int (nI w)] [] (hi, hl, X) _
  refine w_N 1 1 [.ref 64, .int (nI h), .int (nI w)] [.int (nI h)] rfl ?_
  refine w_cc rfl (x_isHalf1 (wi_t (n := 1) (Nat.le_of_lt_succ hh) (by decide))) ?_
  show lm_wp _ 99 4 [.ref 64, .int (nI h), .int (nI w)] [.int 1] (hi, hl, X) _
  refine w_if_eq_f (t := 17) rfl rfl (by decide) ?_
  refine w_N 3 11 [.ref 64, .int (nI h), .int (nI w)] [.int 11, .int 0, .int (nI w)] rfl ?_
  refine w_cc rfl (x_within1 (wi_t (n := 11) (Nat.le_of_lt_succ hw) (by decide))) ?_
  show lm_wp _ 99 14 [.ref 64, .int (nI h), .int (nI w)] [.int 1] (hi, hl, X) _
  refine w_if_ne_t (t := 24) rfl rfl (by decide) ?_
  refine w_N 1 25 [.ref 64, .int (nI h), .int (nI w)] [.ref 64] rfl ?_
  refine w_gr 65 rfl rfl rfl (A_k S 64 (by decide)) (A_r S 64 0 (by decide)) ?_
  refine w_gr 73 rfl rfl rfl (T_kd (A_T65 S)) (T_r7 (A_T65 S)) ?_
  refine w_N 5 37 [.ref 64, .int (nI h), .int (nI w)] [.int (((nI h) * 12) + (nI w)), .ref 73] rfl ?_
  refine w_ia (12 * h + w) (v := T 7 (12 * h + w)) rfl (T_k7 (A_T65 S)) (T_l7 (A_T65 S)) (by rw [show (12 : Int32) = nI 12 from rfl, nI_mul', nI_add']; congr 1; omega) (by omega) (by decide) (isT7 H (by omega)) ?_
  refine w_ri rfl rfl ?_
  exact cq_ P (by omega) hC
theorem y_worthOf {d : Nat} {hi : Nat → Nat → Int32} {hl : Nat → Nat → Int64} {X : lm_X} {hi0 : Nat → Nat → Int32} {hl0 : Nat → Nat → Int64} {X0 : lm_X} {n ts : Nat} {T : lm_T} {R : Nat → Int32} {KO : ab_K} {V : ab_V} {tl F : Nat → Int32} (P : mP hi0 hl0 X0 hi hl X T n R KO V ts tl F) {h w : Nat} (hh : h < 2) (hw : w < 12) : lm_w (d + 30) 170 [.ref 123, .int (nI h), .int (nI w)] (hi, hl, X) (mQ hi0 hl0 X0 (.int (T 7 (12 * h + w))) T n R KO V ts tl F) := by
  obtain ⟨SR, O, H, HR, HV, HT, HF, HK, E0, EL0, EX0⟩ := id P
  have S := SR.1
  refine lm_w_in (Nat.le_of_ble_eq_true rfl) ?_
  show lm_wp (d + 30) 170 0 [.ref 123, .int (nI h), .int (nI w)] [] (hi, hl, X) _
  refine w_N 4 4 [.ref 123, .int (nI h), .int (nI w)] [.long 1, .long 0, .long ((nI h).toInt64)] rfl ?_
  refine w_cc rfl (lm_c_1 (m_in (x := nI h) (lo := 0) (up := 1) rfl (by decide) (by decide)) (wi_t (n := 1) (Nat.le_of_lt_succ hh) (by decide))) ?_
  show lm_wp _ 170 7 [.ref 123, .int (nI h), .int (nI w)] [.int 1] (hi, hl, X) _
  refine w_if_eq_f (t := 33) rfl rfl (by decide) ?_
  refine w_N 4 16 [.ref 123, .int (nI h), .int (nI w)] [.long 11, .long 0, .long ((nI w).toInt64)] rfl ?_
  refine w_cc rfl (lm_c_1 (m_in (x := nI w) (lo := 0) (up := 11) rfl (by decide) (by decide)) (wi_t (n := 11) (Nat.le_of_lt_succ hw) (by decide))) ?_
  show lm_wp _ 170 19 [.ref 123, .int (nI h), .int (nI w)] [.int 1] (hi, hl, X) _
  refine w_if_eq_f (t := 33) rfl rfl (by decide) ?_
  refine w_N 1 23 [.ref 123, .int (nI h), .int (nI w)] [.ref 123] rfl ?_
  refine w_gr 153 rfl rfl rfl (M_kd S) (M_r S (k := 16) (o := 30) rfl) ?_
  refine w_N 1 27 [.ref 123, .int (nI h), .int (nI w)] [.int (nI h), .ref 153] rfl ?_
  refine w_aa h (123 + (31 + h)) rfl (M_kk S (o := 30) (by decide)) (show X.2.2.1 (153) = 2 from M_l S 30 (by decide)) rfl hh (by decide) (M_wor S hh) ?_
  refine w_N 1 29 [.ref 123, .int (nI h), .int (nI w)] [.int (nI w), .ref (123 + (31 + h))] rfl ?_
  refine w_ia w (v := T 7 (12 * h + w)) rfl (M_wok S hh) (M_wol S hh) rfl hw (by decide) (rTw H (by omega) (by omega)) ?_
  refine w_N 1 42 [.ref 123, .int (nI h), .int (nI w)] [.int (T 7 (12 * h + w))] rfl ?_
  refine w_ri rfl rfl ?_
  exact mq_ P
theorem st_worthOf {B D : Nat} {n ts : Nat} {T : lm_T} {R : Nat → Int32} {KO : ab_K} {V : ab_V} {tl F : Nat → Int32} {hf w : Int32} (Z : okZ B D T n R KO V ts tl) (hB : B + 20 < 2000000) : STEP B 99 170 [.int hf, .int w] T n R KO V ts tl F := by
  obtain ⟨hT, hO, hV, hts, htl, hDB, hB0, hKO⟩ := id Z
  by_cases hb : (wi hf 0 1 && wi w 0 11) = false
  · exact ⟨_, D, _, _, _, _, _, _, _, _, okZ_up Z hB, fun _ _ _ _ _ _ P hC => x_worthOf_b (d := 10) P hb hC, fun _ _ _ _ _ _ P => y_worthOf_b (d := 10) P hb⟩
  · obtain ⟨h1, h2⟩ := and2_t hb
    obtain ⟨h, rfl, hh⟩ := wi_e (n := 1) h1 (by decide)
    obtain ⟨w, rfl, hw⟩ := wi_e (n := 11) h2 (by decide)
    exact ⟨_, D, _, _, _, _, _, _, _, _, okZ_up Z hB, fun _ _ _ _ _ _ P hC => x_worthOf (d := 10) P (by omega) (by omega) hC, fun _ _ _ _ _ _ P => y_worthOf (d := 10) P (by omega) (by omega)⟩
theorem x_stands_b {d : Nat} {hi : Nat → Nat → Int32} {hl : Nat → Nat → Int64} {X : lm_X} {hi0 : Nat → Nat → Int32} {hl0 : Nat → Nat → Int64} {C n ts : Nat} {T : lm_T} {R : Nat → Int32} {KO : ab_K} {V : ab_V} {tl F : Nat → Int32} (P : cP hi0 hl0 hi hl X C T n R KO V ts tl F) {w : Int32}  (hb : (wi w 0 6) = false) (hC : C + 25 < 2147483648) : lm_w (d + 30) 100 [.ref 64, .int w] (hi, hl, X) (cQ hi0 hl0 X (C + 25) (.int (-2)) T n R KO V ts tl (rfU F (-2))) := by
  obtain ⟨S, O, H, HR, FO, HV, HT, HF, HK, E0, EL0⟩ := id P
  refine lm_w_in (Nat.le_of_ble_eq_true rfl) ?_
  show lm_wp (d + 30) 100 0 [.ref 64, .int w] [] (hi, hl, X) _
  refine w_N 3 4 [.ref 64, .int w] [.int 6, .int 0, .int w] rfl ?_
  refine w_cc rfl x_within ?_
  show lm_wp _ 100 7 [.ref 64, .int w] [.int (bz (wi w 0 6))] (hi, hl, X) _
  refine w_zne (t := 17) rfl rfl (fun c1 => ?_) (fun c1 => ?_)
  · exact absurd hb (by simp [c1])
  · refine w_N 2 13 [.ref 64, .int w] [.int (-2), .ref 64] rfl ?_
    refine w_ca (w_vst rfl rfl rfl (Nat.le_of_ble_eq_true rfl) (Nat.le_of_ble_eq_true rfl) (A_k S 64 (by decide))) (x_refuse P (by unfold isW; decide)) ?_
    rintro _ _ ⟨rfl, hi9, rfl, P9⟩
    show lm_wp _ 100 16 [.ref 64, .int w] [.int (-2)] (hi9, hl, X) _
    refine w_ri rfl rfl ?_
    exact cq_ P9 (by omega) hC
theorem y_stands_b {d : Nat} {hi : Nat → Nat → Int32} {hl : Nat → Nat → Int64} {X : lm_X} {hi0 : Nat → Nat → Int32} {hl0 : Nat → Nat → Int64} {X0 : lm_X} {n ts : Nat} {T : lm_T} {R : Nat → Int32} {KO : ab_K} {V : ab_V} {tl F : Nat → Int32} (P : mP hi0 hl0 X0 hi hl X T n R KO V ts tl F) {w : Int32}  (hb : (wi w 0 6) = false) : lm_w (d + 30) 171 [.ref 123, .int w] (hi, hl, X) (mQ hi0 hl0 X0 (.int (-2)) T n R KO V ts tl (rfU F (-2))) := by
  obtain ⟨SR, O, H, HR, HV, HT, HF, HK, E0, EL0, EX0⟩ := id P
  have S := SR.1
  refine lm_w_in (Nat.le_of_ble_eq_true rfl) ?_
  show lm_wp (d + 30) 171 0 [.ref 123, .int w] [] (hi, hl, X) _
  refine w_N 4 6 [.ref 123, .int w] [.long 6, .long 0, .long w.toInt64] rfl ?_
  refine w_cc rfl (m_in (x := w) (lo := 0) (up := 6) rfl (by decide) (by decide)) ?_
  show lm_wp _ 171 9 [.ref 123, .int w] [.int (bz (wi w 0 6))] (hi, hl, X) _
  refine w_zne (t := 19) rfl rfl (fun c1 => ?_) (fun c1 => ?_)
  · exact absurd hb (by simp [c1])
  · refine w_N 2 15 [.ref 123, .int w] [.int (-2), .ref 123] rfl ?_
    refine w_ca (w_vst rfl rfl rfl (Nat.le_of_ble_eq_true rfl) (Nat.le_of_ble_eq_true rfl) (M_kd S)) (m_refuse P (by unfold isW; decide)) ?_
    rintro _ _ ⟨rfl, hi9, rfl, P9⟩
    show lm_wp _ 171 18 [.ref 123, .int w] [.int (-2)] (hi9, hl, X) _
    refine w_ri rfl rfl ?_
    exact mq_ P9
theorem x_stands0 {d : Nat} {hi : Nat → Nat → Int32} {hl : Nat → Nat → Int64} {X : lm_X} {hi0 : Nat → Nat → Int32} {hl0 : Nat → Nat → Int64} {C n ts : Nat} {T : lm_T} {R : Nat → Int32} {KO : ab_K} {V : ab_V} {tl F : Nat → Int32} (P : cP hi0 hl0 hi hl X C T n R KO V ts tl F) (hC : C + 25 < 2147483648) : lm_w (d + 30) 100 [.ref 64, .int 0] (hi, hl, X) (cQ hi0 hl0 X (C + 25) (.int (s_marks (R 10))) T n R KO V ts tl F) := by
  obtain ⟨S, O, H, HR, FO, HV, HT, HF, HK, E0, EL0⟩ := id P
  refine lm_w_in (Nat.le_of_ble_eq_true rfl) ?_
  show lm_wp (d + 30) 100 0 [.ref 64, .int 0] [] (hi, hl, X) _
  refine w_N 3 4 [.ref 64, .int 0] [.int 6, .int 0, .int 0] rfl ?_
  refine w_cc rfl (x_within1 (by decide)) ?_
  show lm_wp _ 100 7 [.ref 64, .int 0] [.int 1] (hi, hl, X) _
  refine w_if_ne_t (t := 17) rfl rfl (by decide) ?_
  refine w_N 1 18 [.ref 64, .int 0] [.int 0] rfl ?_
  refine w_ks (t := 52) rfl (by decide) rfl ?_
  refine w_N 1 53 [.ref 64, .int 0] [.ref 64] rfl ?_
  refine w_gr 65 rfl rfl rfl (A_k S 64 (by decide)) (A_r S 64 0 (by decide)) ?_
  refine w_gi (v := R 10) rfl rfl rfl (T_kd (A_T65 S)) (HR.1) ?_
  refine w_cc rfl c_X4_marksIn ?_
  show lm_wp _ 100 62 [.ref 64, .int 0] [.int (s_marks (R 10))] (hi, hl, X) _
  refine w_ri rfl rfl ?_
  exact cq_ P (by omega) hC
theorem y_stands0 {d : Nat} {hi : Nat → Nat → Int32} {hl : Nat → Nat → Int64} {X : lm_X} {hi0 : Nat → Nat → Int32} {hl0 : Nat → Nat → Int64} {X0 : lm_X} {n ts : Nat} {T : lm_T} {R : Nat → Int32} {KO : ab_K} {V : ab_V} {tl F : Nat → Int32} (P : mP hi0 hl0 X0 hi hl X T n R KO V ts tl F) {B D : Nat} (Z : okZ B D T n R KO V ts tl) : lm_w (d + 30) 171 [.ref 123, .int 0] (hi, hl, X) (mQ hi0 hl0 X0 (.int (s_marks (R 10))) T n R KO V ts tl F) := by
  obtain ⟨SR, O, H, HR, HV, HT, HF, HK, E0, EL0, EX0⟩ := id P
  have S := SR.1
  obtain ⟨hT, hO, hV, hts, htl, hDB, hB0, hKO⟩ := id Z
  refine lm_w_in (Nat.le_of_ble_eq_true rfl) ?_
  show lm_wp (d + 30) 171 0 [.ref 123, .int 0] [] (hi, hl, X) _
  refine w_N 4 6 [.ref 123, .int 0] [.long 6, .long 0, .long 0] rfl ?_
  refine w_cc rfl (lm_c_1 (m_in (x := 0) (lo := 0) (up := 6) (by decide) (by decide) (by decide)) (by decide)) ?_
  show lm_wp _ 171 9 [.ref 123, .int 0] [.int 1] (hi, hl, X) _
  refine w_if_ne_t (t := 19) rfl rfl (by decide) ?_
  refine w_N 1 20 [.ref 123, .int 0] [.int 0] rfl ?_
  refine w_if_ne_f (t := 30) rfl rfl (by decide) ?_
  refine w_N 1 24 [.ref 123, .int 0] [.ref 123] rfl ?_
  refine w_gi (v := s_marks (R 10)) rfl rfl rfl (M_kd S) (HR.1.1) ?_
  refine w_N 1 65 [.ref 123, .int 0] [.int (s_marks (R 10))] rfl ?_
  refine w_ri rfl rfl ?_
  exact mq_ P
theorem x_stands1 {d : Nat} {hi : Nat → Nat → Int32} {hl : Nat → Nat → Int64} {X : lm_X} {hi0 : Nat → Nat → Int32} {hl0 : Nat → Nat → Int64} {C n ts : Nat} {T : lm_T} {R : Nat → Int32} {KO : ab_K} {V : ab_V} {tl F : Nat → Int32} (P : cP hi0 hl0 hi hl X C T n R KO V ts tl F) (hC : C + 25 < 2147483648) : lm_w (d + 30) 100 [.ref 64, .int 1] (hi, hl, X) (cQ hi0 hl0 X (C + 25) (.int (R 11)) T n R KO V ts tl F) := by
  obtain ⟨S, O, H, HR, FO, HV, HT, HF, HK, E0, EL0⟩ := id P
  refine lm_w_in (Nat.le_of_ble_eq_true rfl) ?_
  show lm_wp (d + 30) 100 0 [.ref 64, .int 1] [] (hi, hl, X) _
  refine w_N 3 4 [.ref 64, .int 1] [.int 6, .int 0, .int 1] rfl ?_
  refine w_cc rfl (x_within1 (by decide)) ?_
  show lm_wp _ 100 7 [.ref 64, .int 1] [.int 1] (hi, hl, X) _
  refine w_if_ne_t (t := 17) rfl rfl (by decide) ?_
  refine w_N 1 18 [.ref 64, .int 1] [.int 1] rfl ?_
  refine w_ks (t := 63) rfl (by decide) rfl ?_
  refine w_N 1 64 [.ref 64, .int 1] [.ref 64] rfl ?_
  refine w_gr 65 rfl rfl rfl (A_k S 64 (by decide)) (A_r S 64 0 (by decide)) ?_
  refine w_gi (v := R 11) rfl rfl rfl (T_kd (A_T65 S)) (HR.2.1) ?_
  refine w_ri rfl rfl ?_
  exact cq_ P (by omega) hC
theorem y_stands1 {d : Nat} {hi : Nat → Nat → Int32} {hl : Nat → Nat → Int64} {X : lm_X} {hi0 : Nat → Nat → Int32} {hl0 : Nat → Nat → Int64} {X0 : lm_X} {n ts : Nat} {T : lm_T} {R : Nat → Int32} {KO : ab_K} {V : ab_V} {tl F : Nat → Int32} (P : mP hi0 hl0 X0 hi hl X T n R KO V ts tl F) {B D : Nat} (Z : okZ B D T n R KO V ts tl) : lm_w (d + 30) 171 [.ref 123, .int 1] (hi, hl, X) (mQ hi0 hl0 X0 (.int (R 11)) T n R KO V ts tl F) := by
  obtain ⟨SR, O, H, HR, HV, HT, HF, HK, E0, EL0, EX0⟩ := id P
  have S := SR.1
  obtain ⟨hT, hO, hV, hts, htl, hDB, hB0, hKO⟩ := id Z
  refine lm_w_in (Nat.le_of_ble_eq_true rfl) ?_
  show lm_wp (d + 30) 171 0 [.ref 123, .int 1] [] (hi, hl, X) _
  refine w_N 4 6 [.ref 123, .int 1] [.long 6, .long 0, .long 1] rfl ?_
  refine w_cc rfl (lm_c_1 (m_in (x := 1) (lo := 0) (up := 6) (by decide) (by decide) (by decide)) (by decide)) ?_
  show lm_wp _ 171 9 [.ref 123, .int 1] [.int 1] (hi, hl, X) _
  refine w_if_ne_t (t := 19) rfl rfl (by decide) ?_
  refine w_N 1 20 [.ref 123, .int 1] [.int 1] rfl ?_
  refine w_if_ne_t (t := 30) rfl rfl (by decide) ?_
  refine w_N 2 32 [.ref 123, .int 1] [.int 1, .int 1] rfl ?_
  refine w_icmp_ne_f (t := 42) rfl rfl (by decide) ?_
  refine w_N 1 36 [.ref 123, .int 1] [.ref 123] rfl ?_
  refine w_gi (v := R 11) rfl rfl rfl (M_kd S) (HR.2.1) ?_
  refine w_N 1 65 [.ref 123, .int 1] [.int (R 11)] rfl ?_
  refine w_ri rfl rfl ?_
  exact mq_ P
theorem x_stands2 {d : Nat} {hi : Nat → Nat → Int32} {hl : Nat → Nat → Int64} {X : lm_X} {hi0 : Nat → Nat → Int32} {hl0 : Nat → Nat → Int64} {C n ts : Nat} {T : lm_T} {R : Nat → Int32} {KO : ab_K} {V : ab_V} {tl F : Nat → Int32} (P : cP hi0 hl0 hi hl X C T n R KO V ts tl F) (hC : C + 25 < 2147483648) : lm_w (d + 30) 100 [.ref 64, .int 2] (hi, hl, X) (cQ hi0 hl0 X (C + 25) (.int (s_count (R 10) 0)) T n R KO V ts tl F) := by
  obtain ⟨S, O, H, HR, FO, HV, HT, HF, HK, E0, EL0⟩ := id P
  refine lm_w_in (Nat.le_of_ble_eq_true rfl) ?_
  show lm_wp (d + 30) 100 0 [.ref 64, .int 2] [] (hi, hl, X) _
  refine w_N 3 4 [.ref 64, .int 2] [.int 6, .int 0, .int 2] rfl ?_
  refine w_cc rfl (x_within1 (by decide)) ?_
  show lm_wp _ 100 7 [.ref 64, .int 2] [.int 1] (hi, hl, X) _
  refine w_if_ne_t (t := 17) rfl rfl (by decide) ?_
  refine w_N 1 18 [.ref 64, .int 2] [.int 2] rfl ?_
  refine w_ks (t := 82) rfl (by decide) rfl ?_
  refine w_N 1 83 [.ref 64, .int 2] [.ref 64] rfl ?_
  refine w_gr 65 rfl rfl rfl (A_k S 64 (by decide)) (A_r S 64 0 (by decide)) ?_
  refine w_gi (v := R 10) rfl rfl rfl (T_kd (A_T65 S)) (HR.1) ?_
  refine w_N 3 92 [.ref 64, .int 2] [.int 0, .int (R 10)] rfl ?_
  refine w_cc rfl c_X4_countIn ?_
  show lm_wp _ 100 95 [.ref 64, .int 2] [.int (s_count (R 10) 0)] (hi, hl, X) _
  refine w_ri rfl rfl ?_
  exact cq_ P (by omega) hC
theorem y_stands2 {d : Nat} {hi : Nat → Nat → Int32} {hl : Nat → Nat → Int64} {X : lm_X} {hi0 : Nat → Nat → Int32} {hl0 : Nat → Nat → Int64} {X0 : lm_X} {n ts : Nat} {T : lm_T} {R : Nat → Int32} {KO : ab_K} {V : ab_V} {tl F : Nat → Int32} (P : mP hi0 hl0 X0 hi hl X T n R KO V ts tl F) {B D : Nat} (Z : okZ B D T n R KO V ts tl) : lm_w (d + 30) 171 [.ref 123, .int 2] (hi, hl, X) (mQ hi0 hl0 X0 (.int (s_count (R 10) 0)) T n R KO V ts tl F) := by
  obtain ⟨SR, O, H, HR, HV, HT, HF, HK, E0, EL0, EX0⟩ := id P
  have S := SR.1
  obtain ⟨hT, hO, hV, hts, htl, hDB, hB0, hKO⟩ := id Z
  refine lm_w_in (Nat.le_of_ble_eq_true rfl) ?_
  show lm_wp (d + 30) 171 0 [.ref 123, .int 2] [] (hi, hl, X) _
  refine w_N 4 6 [.ref 123, .int 2] [.long 6, .long 0, .long 2] rfl ?_
  refine w_cc rfl (lm_c_1 (m_in (x := 2) (lo := 0) (up := 6) (by decide) (by decide) (by decide)) (by decide)) ?_
  show lm_wp _ 171 9 [.ref 123, .int 2] [.int 1] (hi, hl, X) _
  refine w_if_ne_t (t := 19) rfl rfl (by decide) ?_
  refine w_N 1 20 [.ref 123, .int 2] [.int 2] rfl ?_
  refine w_if_ne_t (t := 30) rfl rfl (by decide) ?_
  refine w_N 2 32 [.ref 123, .int 2] [.int 1, .int 2] rfl ?_
  refine w_icmp_ne_t (t := 42) rfl rfl (by decide) ?_
  refine w_N 2 45 [.ref 123, .int 2] [.int 6, .int 2] rfl ?_
  refine w_icmp_ne_t (t := 57) rfl rfl (by decide) ?_
  refine w_N 1 58 [.ref 123, .int 2] [.ref 123] rfl ?_
  refine w_gr 152 rfl rfl rfl (M_kd S) (M_r S (k := 13) (o := 29) rfl) ?_
  refine w_N 3 64 [.ref 123, .int 2] [.int 0, .ref 152] rfl ?_
  refine w_ia 0 (v := s_count (R 10) (nI 0)) rfl (show X.2.1 (152) = 1 from M_k S 29 (by decide)) (show X.2.2.1 (152) = 4 from M_l S 29 (by decide)) rfl (by decide) (by decide) (HR.1.2 0 (by decide)) ?_
  refine w_ri rfl rfl ?_
  exact mq_ P
theorem x_stands3 {d : Nat} {hi : Nat → Nat → Int32} {hl : Nat → Nat → Int64} {X : lm_X} {hi0 : Nat → Nat → Int32} {hl0 : Nat → Nat → Int64} {C n ts : Nat} {T : lm_T} {R : Nat → Int32} {KO : ab_K} {V : ab_V} {tl F : Nat → Int32} (P : cP hi0 hl0 hi hl X C T n R KO V ts tl F) (hC : C + 25 < 2147483648) : lm_w (d + 30) 100 [.ref 64, .int 3] (hi, hl, X) (cQ hi0 hl0 X (C + 25) (.int (s_count (R 10) 1)) T n R KO V ts tl F) := by
  obtain ⟨S, O, H, HR, FO, HV, HT, HF, HK, E0, EL0⟩ := id P
  refine lm_w_in (Nat.le_of_ble_eq_true rfl) ?_
  show lm_wp (d + 30) 100 0 [.ref 64, .int 3] [] (hi, hl, X) _
  refine w_N 3 4 [.ref 64, .int 3] [.int 6, .int 0, .int 3] rfl ?_
  refine w_cc rfl (x_within1 (by decide)) ?_
  show lm_wp _ 100 7 [.ref 64, .int 3] [.int 1] (hi, hl, X) _
  refine w_if_ne_t (t := 17) rfl rfl (by decide) ?_
  refine w_N 1 18 [.ref 64, .int 3] [.int 3] rfl ?_
  refine w_ks (t := 82) rfl (by decide) rfl ?_
  refine w_N 1 83 [.ref 64, .int 3] [.ref 64] rfl ?_
  refine w_gr 65 rfl rfl rfl (A_k S 64 (by decide)) (A_r S 64 0 (by decide)) ?_
  refine w_gi (v := R 10) rfl rfl rfl (T_kd (A_T65 S)) (HR.1) ?_
  refine w_N 3 92 [.ref 64, .int 3] [.int 1, .int (R 10)] rfl ?_
  refine w_cc rfl c_X4_countIn ?_
  show lm_wp _ 100 95 [.ref 64, .int 3] [.int (s_count (R 10) 1)] (hi, hl, X) _
  refine w_ri rfl rfl ?_
  exact cq_ P (by omega) hC
theorem y_stands3 {d : Nat} {hi : Nat → Nat → Int32} {hl : Nat → Nat → Int64} {X : lm_X} {hi0 : Nat → Nat → Int32} {hl0 : Nat → Nat → Int64} {X0 : lm_X} {n ts : Nat} {T : lm_T} {R : Nat → Int32} {KO : ab_K} {V : ab_V} {tl F : Nat → Int32} (P : mP hi0 hl0 X0 hi hl X T n R KO V ts tl F) {B D : Nat} (Z : okZ B D T n R KO V ts tl) : lm_w (d + 30) 171 [.ref 123, .int 3] (hi, hl, X) (mQ hi0 hl0 X0 (.int (s_count (R 10) 1)) T n R KO V ts tl F) := by
  obtain ⟨SR, O, H, HR, HV, HT, HF, HK, E0, EL0, EX0⟩ := id P
  have S := SR.1
  obtain ⟨hT, hO, hV, hts, htl, hDB, hB0, hKO⟩ := id Z
  refine lm_w_in (Nat.le_of_ble_eq_true rfl) ?_
  show lm_wp (d + 30) 171 0 [.ref 123, .int 3] [] (hi, hl, X) _
  refine w_N 4 6 [.ref 123, .int 3] [.long 6, .long 0, .long 3] rfl ?_
  refine w_cc rfl (lm_c_1 (m_in (x := 3) (lo := 0) (up := 6) (by decide) (by decide) (by decide)) (by decide)) ?_
  show lm_wp _ 171 9 [.ref 123, .int 3] [.int 1] (hi, hl, X) _
  refine w_if_ne_t (t := 19) rfl rfl (by decide) ?_
  refine w_N 1 20 [.ref 123, .int 3] [.int 3] rfl ?_
  refine w_if_ne_t (t := 30) rfl rfl (by decide) ?_
  refine w_N 2 32 [.ref 123, .int 3] [.int 1, .int 3] rfl ?_
  refine w_icmp_ne_t (t := 42) rfl rfl (by decide) ?_
  refine w_N 2 45 [.ref 123, .int 3] [.int 6, .int 3] rfl ?_
  refine w_icmp_ne_t (t := 57) rfl rfl (by decide) ?_
  refine w_N 1 58 [.ref 123, .int 3] [.ref 123] rfl ?_
  refine w_gr 152 rfl rfl rfl (M_kd S) (M_r S (k := 13) (o := 29) rfl) ?_
  refine w_N 3 64 [.ref 123, .int 3] [.int 1, .ref 152] rfl ?_
  refine w_ia 1 (v := s_count (R 10) (nI 1)) rfl (show X.2.1 (152) = 1 from M_k S 29 (by decide)) (show X.2.2.1 (152) = 4 from M_l S 29 (by decide)) rfl (by decide) (by decide) (HR.1.2 1 (by decide)) ?_
  refine w_ri rfl rfl ?_
  exact mq_ P
theorem x_stands4 {d : Nat} {hi : Nat → Nat → Int32} {hl : Nat → Nat → Int64} {X : lm_X} {hi0 : Nat → Nat → Int32} {hl0 : Nat → Nat → Int64} {C n ts : Nat} {T : lm_T} {R : Nat → Int32} {KO : ab_K} {V : ab_V} {tl F : Nat → Int32} (P : cP hi0 hl0 hi hl X C T n R KO V ts tl F) (hC : C + 25 < 2147483648) : lm_w (d + 30) 100 [.ref 64, .int 4] (hi, hl, X) (cQ hi0 hl0 X (C + 25) (.int (s_count (R 10) 2)) T n R KO V ts tl F) := by
  obtain ⟨S, O, H, HR, FO, HV, HT, HF, HK, E0, EL0⟩ := id P
  refine lm_w_in (Nat.le_of_ble_eq_true rfl) ?_
  show lm_wp (d + 30) 100 0 [.ref 64, .int 4] [] (hi, hl, X) _
  refine w_N 3 4 [.ref 64, .int 4] [.int 6, .int 0, .int 4] rfl ?_
  refine w_cc rfl (x_within1 (by decide)) ?_
  show lm_wp _ 100 7 [.ref 64, .int 4] [.int 1] (hi, hl, X) _
  refine w_if_ne_t (t := 17) rfl rfl (by decide) ?_
  refine w_N 1 18 [.ref 64, .int 4] [.int 4] rfl ?_
  refine w_ks (t := 82) rfl (by decide) rfl ?_
  refine w_N 1 83 [.ref 64, .int 4] [.ref 64] rfl ?_
  refine w_gr 65 rfl rfl rfl (A_k S 64 (by decide)) (A_r S 64 0 (by decide)) ?_
  refine w_gi (v := R 10) rfl rfl rfl (T_kd (A_T65 S)) (HR.1) ?_
  refine w_N 3 92 [.ref 64, .int 4] [.int 2, .int (R 10)] rfl ?_
  refine w_cc rfl c_X4_countIn ?_
  show lm_wp _ 100 95 [.ref 64, .int 4] [.int (s_count (R 10) 2)] (hi, hl, X) _
  refine w_ri rfl rfl ?_
  exact cq_ P (by omega) hC
theorem y_stands4 {d : Nat} {hi : Nat → Nat → Int32} {hl : Nat → Nat → Int64} {X : lm_X} {hi0 : Nat → Nat → Int32} {hl0 : Nat → Nat → Int64} {X0 : lm_X} {n ts : Nat} {T : lm_T} {R : Nat → Int32} {KO : ab_K} {V : ab_V} {tl F : Nat → Int32} (P : mP hi0 hl0 X0 hi hl X T n R KO V ts tl F) {B D : Nat} (Z : okZ B D T n R KO V ts tl) : lm_w (d + 30) 171 [.ref 123, .int 4] (hi, hl, X) (mQ hi0 hl0 X0 (.int (s_count (R 10) 2)) T n R KO V ts tl F) := by
  obtain ⟨SR, O, H, HR, HV, HT, HF, HK, E0, EL0, EX0⟩ := id P
  have S := SR.1
  obtain ⟨hT, hO, hV, hts, htl, hDB, hB0, hKO⟩ := id Z
  refine lm_w_in (Nat.le_of_ble_eq_true rfl) ?_
  show lm_wp (d + 30) 171 0 [.ref 123, .int 4] [] (hi, hl, X) _
  refine w_N 4 6 [.ref 123, .int 4] [.long 6, .long 0, .long 4] rfl ?_
  refine w_cc rfl (lm_c_1 (m_in (x := 4) (lo := 0) (up := 6) (by decide) (by decide) (by decide)) (by decide)) ?_
  show lm_wp _ 171 9 [.ref 123, .int 4] [.int 1] (hi, hl, X) _
  refine w_if_ne_t (t := 19) rfl rfl (by decide) ?_
  refine w_N 1 20 [.ref 123, .int 4] [.int 4] rfl ?_
  refine w_if_ne_t (t := 30) rfl rfl (by decide) ?_
  refine w_N 2 32 [.ref 123, .int 4] [.int 1, .int 4] rfl ?_
  refine w_icmp_ne_t (t := 42) rfl rfl (by decide) ?_
  refine w_N 2 45 [.ref 123, .int 4] [.int 6, .int 4] rfl ?_
  refine w_icmp_ne_t (t := 57) rfl rfl (by decide) ?_
  refine w_N 1 58 [.ref 123, .int 4] [.ref 123] rfl ?_
  refine w_gr 152 rfl rfl rfl (M_kd S) (M_r S (k := 13) (o := 29) rfl) ?_
  refine w_N 3 64 [.ref 123, .int 4] [.int 2, .ref 152] rfl ?_
  refine w_ia 2 (v := s_count (R 10) (nI 2)) rfl (show X.2.1 (152) = 1 from M_k S 29 (by decide)) (show X.2.2.1 (152) = 4 from M_l S 29 (by decide)) rfl (by decide) (by decide) (HR.1.2 2 (by decide)) ?_
  refine w_ri rfl rfl ?_
  exact mq_ P
theorem x_stands5 {d : Nat} {hi : Nat → Nat → Int32} {hl : Nat → Nat → Int64} {X : lm_X} {hi0 : Nat → Nat → Int32} {hl0 : Nat → Nat → Int64} {C n ts : Nat} {T : lm_T} {R : Nat → Int32} {KO : ab_K} {V : ab_V} {tl F : Nat → Int32} (P : cP hi0 hl0 hi hl X C T n R KO V ts tl F) (hC : C + 25 < 2147483648) : lm_w (d + 30) 100 [.ref 64, .int 5] (hi, hl, X) (cQ hi0 hl0 X (C + 25) (.int (s_count (R 10) 3)) T n R KO V ts tl F) := by
  obtain ⟨S, O, H, HR, FO, HV, HT, HF, HK, E0, EL0⟩ := id P
  refine lm_w_in (Nat.le_of_ble_eq_true rfl) ?_
  show lm_wp (d + 30) 100 0 [.ref 64, .int 5] [] (hi, hl, X) _
  refine w_N 3 4 [.ref 64, .int 5] [.int 6, .int 0, .int 5] rfl ?_
  refine w_cc rfl (x_within1 (by decide)) ?_
  show lm_wp _ 100 7 [.ref 64, .int 5] [.int 1] (hi, hl, X) _
  refine w_if_ne_t (t := 17) rfl rfl (by decide) ?_
  refine w_N 1 18 [.ref 64, .int 5] [.int 5] rfl ?_
  refine w_ks (t := 82) rfl (by decide) rfl ?_
  refine w_N 1 83 [.ref 64, .int 5] [.ref 64] rfl ?_
  refine w_gr 65 rfl rfl rfl (A_k S 64 (by decide)) (A_r S 64 0 (by decide)) ?_
  refine w_gi (v := R 10) rfl rfl rfl (T_kd (A_T65 S)) (HR.1) ?_
  refine w_N 3 92 [.ref 64, .int 5] [.int 3, .int (R 10)] rfl ?_
  refine w_cc rfl c_X4_countIn ?_
  show lm_wp _ 100 95 [.ref 64, .int 5] [.int (s_count (R 10) 3)] (hi, hl, X) _
  refine w_ri rfl rfl ?_
  exact cq_ P (by omega) hC
theorem y_stands5 {d : Nat} {hi : Nat → Nat → Int32} {hl : Nat → Nat → Int64} {X : lm_X} {hi0 : Nat → Nat → Int32} {hl0 : Nat → Nat → Int64} {X0 : lm_X} {n ts : Nat} {T : lm_T} {R : Nat → Int32} {KO : ab_K} {V : ab_V} {tl F : Nat → Int32} (P : mP hi0 hl0 X0 hi hl X T n R KO V ts tl F) {B D : Nat} (Z : okZ B D T n R KO V ts tl) : lm_w (d + 30) 171 [.ref 123, .int 5] (hi, hl, X) (mQ hi0 hl0 X0 (.int (s_count (R 10) 3)) T n R KO V ts tl F) := by
  obtain ⟨SR, O, H, HR, HV, HT, HF, HK, E0, EL0, EX0⟩ := id P
  have S := SR.1
  obtain ⟨hT, hO, hV, hts, htl, hDB, hB0, hKO⟩ := id Z
  refine lm_w_in (Nat.le_of_ble_eq_true rfl) ?_
  show lm_wp (d + 30) 171 0 [.ref 123, .int 5] [] (hi, hl, X) _
  refine w_N 4 6 [.ref 123, .int 5] [.long 6, .long 0, .long 5] rfl ?_
  refine w_cc rfl (lm_c_1 (m_in (x := 5) (lo := 0) (up := 6) (by decide) (by decide) (by decide)) (by decide)) ?_
  show lm_wp _ 171 9 [.ref 123, .int 5] [.int 1] (hi, hl, X) _
  refine w_if_ne_t (t := 19) rfl rfl (by decide) ?_
  refine w_N 1 20 [.ref 123, .int 5] [.int 5] rfl ?_
  refine w_if_ne_t (t := 30) rfl rfl (by decide) ?_
  refine w_N 2 32 [.ref 123, .int 5] [.int 1, .int 5] rfl ?_
  refine w_icmp_ne_t (t := 42) rfl rfl (by decide) ?_
  refine w_N 2 45 [.ref 123, .int 5] [.int 6, .int 5] rfl ?_
  refine w_icmp_ne_t (t := 57) rfl rfl (by decide) ?_
  refine w_N 1 58 [.ref 123, .int 5] [.ref 123] rfl ?_
  refine w_gr 152 rfl rfl rfl (M_kd S) (M_r S (k := 13) (o := 29) rfl) ?_
  refine w_N 3 64 [.ref 123, .int 5] [.int 3, .ref 152] rfl ?_
  refine w_ia 3 (v := s_count (R 10) (nI 3)) rfl (show X.2.1 (152) = 1 from M_k S 29 (by decide)) (show X.2.2.1 (152) = 4 from M_l S 29 (by decide)) rfl (by decide) (by decide) (HR.1.2 3 (by decide)) ?_
  refine w_ri rfl rfl ?_
  exact mq_ P
theorem x_stands6 {d : Nat} {hi : Nat → Nat → Int32} {hl : Nat → Nat → Int64} {X : lm_X} {hi0 : Nat → Nat → Int32} {hl0 : Nat → Nat → Int64} {C n ts : Nat} {T : lm_T} {R : Nat → Int32} {KO : ab_K} {V : ab_V} {tl F : Nat → Int32} (P : cP hi0 hl0 hi hl X C T n R KO V ts tl F) (hC : C + 25 < 2147483648) : lm_w (d + 30) 100 [.ref 64, .int 6] (hi, hl, X) (cQ hi0 hl0 X (C + 25) (.int (nI (awk (R 10)))) T n R KO V ts tl F) := by
  obtain ⟨S, O, H, HR, FO, HV, HT, HF, HK, E0, EL0⟩ := id P
  refine lm_w_in (Nat.le_of_ble_eq_true rfl) ?_
  show lm_wp (d + 30) 100 0 [.ref 64, .int 6] [] (hi, hl, X) _
  refine w_N 3 4 [.ref 64, .int 6] [.int 6, .int 0, .int 6] rfl ?_
  refine w_cc rfl (x_within1 (by decide)) ?_
  show lm_wp _ 100 7 [.ref 64, .int 6] [.int 1] (hi, hl, X) _
  refine w_if_ne_t (t := 17) rfl rfl (by decide) ?_
  refine w_N 1 18 [.ref 64, .int 6] [.int 6] rfl ?_
  refine w_ks (t := 71) rfl (by decide) rfl ?_
  refine w_N 1 72 [.ref 64, .int 6] [.ref 64] rfl ?_
  refine w_gr 65 rfl rfl rfl (A_k S 64 (by decide)) (A_r S 64 0 (by decide)) ?_
  refine w_gi (v := R 10) rfl rfl rfl (T_kd (A_T65 S)) (HR.1) ?_
  refine w_cc rfl (c_awkz rfl) ?_
  show lm_wp _ 100 81 [.ref 64, .int 6] [.int (nI (awk (R 10)))] (hi, hl, X) _
  refine w_ri rfl rfl ?_
  exact cq_ P (by omega) hC
theorem y_stands6 {d : Nat} {hi : Nat → Nat → Int32} {hl : Nat → Nat → Int64} {X : lm_X} {hi0 : Nat → Nat → Int32} {hl0 : Nat → Nat → Int64} {X0 : lm_X} {n ts : Nat} {T : lm_T} {R : Nat → Int32} {KO : ab_K} {V : ab_V} {tl F : Nat → Int32} (P : mP hi0 hl0 X0 hi hl X T n R KO V ts tl F) {B D : Nat} (Z : okZ B D T n R KO V ts tl) : lm_w (d + 30) 171 [.ref 123, .int 6] (hi, hl, X) (mQ hi0 hl0 X0 (.int (nI (awk (R 10)))) T n R KO V ts tl F) := by
  obtain ⟨SR, O, H, HR, HV, HT, HF, HK, E0, EL0, EX0⟩ := id P
  have S := SR.1
  obtain ⟨hT, hO, hV, hts, htl, hDB, hB0, hKO⟩ := id Z
  refine lm_w_in (Nat.le_of_ble_eq_true rfl) ?_
  show lm_wp (d + 30) 171 0 [.ref 123, .int 6] [] (hi, hl, X) _
  refine w_N 4 6 [.ref 123, .int 6] [.long 6, .long 0, .long 6] rfl ?_
  refine w_cc rfl (lm_c_1 (m_in (x := 6) (lo := 0) (up := 6) (by decide) (by decide) (by decide)) (by decide)) ?_
  show lm_wp _ 171 9 [.ref 123, .int 6] [.int 1] (hi, hl, X) _
  refine w_if_ne_t (t := 19) rfl rfl (by decide) ?_
  refine w_N 1 20 [.ref 123, .int 6] [.int 6] rfl ?_
  refine w_if_ne_t (t := 30) rfl rfl (by decide) ?_
  refine w_N 2 32 [.ref 123, .int 6] [.int 1, .int 6] rfl ?_
  refine w_icmp_ne_t (t := 42) rfl rfl (by decide) ?_
  refine w_N 2 45 [.ref 123, .int 6] [.int 6, .int 6] rfl ?_
  refine w_icmp_ne_f (t := 57) rfl rfl (by decide) ?_
  refine w_N 1 49 [.ref 123, .int 6] [.ref 123] rfl ?_
  refine w_gi (v := nI D) rfl rfl rfl (M_kd S) (HR.2.2.1.trans hO.2.2.1) ?_
  refine w_N 1 53 [.ref 123, .int 6] [.int 2, .int (nI D)] rfl ?_
  refine w_rem rfl (by decide) ?_
  rw [hrem (s := R 10) hO.2.2.2.1 (by omega)]
  refine w_N 1 65 [.ref 123, .int 6] [.int (nI (awk (R 10)))] rfl ?_
  refine w_ri rfl rfl ?_
  exact mq_ P
theorem st_stands {B D : Nat} {n ts : Nat} {T : lm_T} {R : Nat → Int32} {KO : ab_K} {V : ab_V} {tl F : Nat → Int32} {w : Int32} (Z : okZ B D T n R KO V ts tl) (hB : B + 20 < 2000000) : STEP B 100 171 [.int w] T n R KO V ts tl F := by
  obtain ⟨hT, hO, hV, hts, htl, hDB, hB0, hKO⟩ := id Z
  cases hb : wi w 0 6
  · exact ⟨_, D, _, _, _, _, _, _, _, _, okZ_up Z hB, fun _ _ _ _ _ _ P hC => x_stands_b (d := 10) P hb hC, fun _ _ _ _ _ _ P => y_stands_b (d := 10) P hb⟩
  · obtain ⟨w, rfl, hw⟩ := wi_e (n := 6) hb (by decide)
    rcases (by omega : w = 0 ∨ w = 1 ∨ w = 2 ∨ w = 3 ∨ w = 4 ∨ w = 5 ∨ w = 6) with rfl | rfl | rfl | rfl | rfl | rfl | rfl
    · exact ⟨_, D, _, _, _, _, _, _, _, _, okZ_up Z hB, fun _ _ _ _ _ _ P hC => x_stands0 (d := 10) P hC, fun _ _ _ _ _ _ P => y_stands0 (d := 10) P Z⟩
    · exact ⟨_, D, _, _, _, _, _, _, _, _, okZ_up Z hB, fun _ _ _ _ _ _ P hC => x_stands1 (d := 10) P hC, fun _ _ _ _ _ _ P => y_stands1 (d := 10) P Z⟩
    · exact ⟨_, D, _, _, _, _, _, _, _, _, okZ_up Z hB, fun _ _ _ _ _ _ P hC => x_stands2 (d := 10) P hC, fun _ _ _ _ _ _ P => y_stands2 (d := 10) P Z⟩
    · exact ⟨_, D, _, _, _, _, _, _, _, _, okZ_up Z hB, fun _ _ _ _ _ _ P hC => x_stands3 (d := 10) P hC, fun _ _ _ _ _ _ P => y_stands3 (d := 10) P Z⟩
    · exact ⟨_, D, _, _, _, _, _, _, _, _, okZ_up Z hB, fun _ _ _ _ _ _ P hC => x_stands4 (d := 10) P hC, fun _ _ _ _ _ _ P => y_stands4 (d := 10) P Z⟩
    · exact ⟨_, D, _, _, _, _, _, _, _, _, okZ_up Z hB, fun _ _ _ _ _ _ P hC => x_stands5 (d := 10) P hC, fun _ _ _ _ _ _ P => y_stands5 (d := 10) P Z⟩
    · exact ⟨_, D, _, _, _, _, _, _, _, _, okZ_up Z hB, fun _ _ _ _ _ _ P hC => x_stands6 (d := 10) P hC, fun _ _ _ _ _ _ P => y_stands6 (d := 10) P Z⟩
theorem x_value_b {d : Nat} {hi : Nat → Nat → Int32} {hl : Nat → Nat → Int64} {X : lm_X} {hi0 : Nat → Nat → Int32} {hl0 : Nat → Nat → Int64} {C n ts : Nat} {T : lm_T} {R : Nat → Int32} {KO : ab_K} {V : ab_V} {tl F : Nat → Int32} (P : cP hi0 hl0 hi hl X C T n R KO V ts tl F) {hf : Int32}  (hb : (wi hf 0 1) = false) (hC : C + 25 < 2147483648) : lm_w (d + 30) 102 [.ref 64, .int hf] (hi, hl, X) (cQ hi0 hl0 X (C + 25) (.int (-1000002)) T n R KO V ts tl (rfU F (-2))) := by
  obtain ⟨S, O, H, HR, FO, HV, HT, HF, HK, E0, EL0⟩ := id P
  refine lm_w_in (Nat.le_of_ble_eq_true rfl) ?_
  show lm_wp (d + 30) 102 0 [.ref 64, .int hf] [] (hi, hl, X) _
  refine w_N 1 1 [.ref 64, .int hf] [.int hf] rfl ?_
  refine w_cc rfl x_isHalf ?_
  show lm_wp _ 102 4 [.ref 64, .int hf] [.int (bz (wi hf 0 1))] (hi, hl, X) _
  refine w_zne (t := 14) rfl rfl (fun c1 => ?_) (fun c1 => ?_)
  · exact absurd hb (by simp [c1])
  · refine w_N 2 10 [.ref 64, .int hf] [.int (-2), .ref 64] rfl ?_
    refine w_ca (w_vst rfl rfl rfl (Nat.le_of_ble_eq_true rfl) (Nat.le_of_ble_eq_true rfl) (A_k S 64 (by decide))) (x_refuseGain P (by unfold isW; decide)) ?_
    rintro _ _ ⟨rfl, hi9, rfl, P9⟩
    show lm_wp _ 102 13 [.ref 64, .int hf] [.int (-1000002)] (hi9, hl, X) _
    refine w_ri rfl rfl ?_
    exact cq_ P9 (by omega) hC
theorem y_value_b {d : Nat} {hi : Nat → Nat → Int32} {hl : Nat → Nat → Int64} {X : lm_X} {hi0 : Nat → Nat → Int32} {hl0 : Nat → Nat → Int64} {X0 : lm_X} {n ts : Nat} {T : lm_T} {R : Nat → Int32} {KO : ab_K} {V : ab_V} {tl F : Nat → Int32} (P : mP hi0 hl0 X0 hi hl X T n R KO V ts tl F) {hf : Int32}  (hb : (wi hf 0 1) = false) : lm_w (d + 30) 178 [.ref 123, .int hf] (hi, hl, X) (mQ hi0 hl0 X0 (.int (-1000002)) T n R KO V ts tl (rfU F (-2))) := by
  obtain ⟨SR, O, H, HR, HV, HT, HF, HK, E0, EL0, EX0⟩ := id P
  have S := SR.1
  refine lm_w_in (Nat.le_of_ble_eq_true rfl) ?_
  show lm_wp (d + 30) 178 0 [.ref 123, .int hf] [] (hi, hl, X) _
  refine w_N 4 4 [.ref 123, .int hf] [.long 1, .long 0, .long hf.toInt64] rfl ?_
  refine w_cc rfl (m_in (x := hf) (lo := 0) (up := 1) rfl (by decide) (by decide)) ?_
  show lm_wp _ 178 7 [.ref 123, .int hf] [.int (bz (wi hf 0 1))] (hi, hl, X) _
  refine w_zeq (t := 18) rfl rfl (fun c1 => ?_) (fun c1 => ?_)
  · refine w_N 3 23 [.ref 123, .int hf] [.int (-2), .ref 123, .int (-1000000)] rfl ?_
    refine w_ca (w_vst rfl rfl rfl (Nat.le_of_ble_eq_true rfl) (Nat.le_of_ble_eq_true rfl) (M_kd S)) (m_refuse P (by unfold isW; decide)) ?_
    rintro _ _ ⟨rfl, hi9, rfl, P9⟩
    show lm_wp _ 178 26 [.ref 123, .int hf] [.int (-2), .int (-1000000)] (hi9, hl, X) _
    refine w_N 1 27 [.ref 123, .int hf] [.int (-1000002)] rfl ?_
    refine w_ri rfl rfl ?_
    exact mq_ P9
  · exact absurd hb (by simp [c1])
theorem x_value {d : Nat} {hi : Nat → Nat → Int32} {hl : Nat → Nat → Int64} {X : lm_X} {hi0 : Nat → Nat → Int32} {hl0 : Nat → Nat → Int64} {C n ts : Nat} {T : lm_T} {R : Nat → Int32} {KO : ab_K} {V : ab_V} {tl F : Nat → Int32} (P : cP hi0 hl0 hi hl X C T n R KO V ts tl F) {h : Nat} (hh : h < 2) (hC : C + 25 < 2147483648) : lm_w (d + 30) 102 [.ref 64, .int (nI h)] (hi, hl, X) (cQ hi0 hl0 X (C + 25) (.int (val T h (R 10))) T n R KO V ts tl F) := by
  obtain ⟨S, O, H, HR, FO, HV, HT, HF, HK, E0, EL0⟩ := id P
  refine lm_w_in (Nat.le_of_ble_eq_true rfl) ?_
  show lm_wp (d + 30) 102 0 [.ref 64, .int (nI h)] [] (hi, hl, X) _
  refine w_N 1 1 [.ref 64, .int (nI h)] [.int (nI h)] rfl ?_
  refine w_cc rfl (x_isHalf1 (wi_t (n := 1) (Nat.le_of_lt_succ hh) (by decide))) ?_
  show lm_wp _ 102 4 [.ref 64, .int (nI h)] [.int 1] (hi, hl, X) _
  refine w_if_ne_t (t := 14) rfl rfl (by decide) ?_
  refine w_N 1 15 [.ref 64, .int (nI h)] [.ref 64] rfl ?_
  refine w_gr 65 rfl rfl rfl (A_k S 64 (by decide)) (A_r S 64 0 (by decide)) ?_
  refine w_N 2 20 [.ref 64, .int (nI h)] [.ref 64, .int (nI h), .ref 65] rfl ?_
  refine w_gr 65 rfl rfl rfl (A_k S 64 (by decide)) (A_r S 64 0 (by decide)) ?_
  refine w_gi (v := R 10) rfl rfl rfl (T_kd (A_T65 S)) (HR.1) ?_
  refine w_cc (w_vst rfl rfl rfl (Nat.le_of_ble_eq_true rfl) (Nat.le_of_ble_eq_true rfl) (T_kd (A_T65 S))) (t_valueTo (A_T65 S) H hh) ?_
  show lm_wp _ 102 29 [.ref 64, .int (nI h)] [.int (val T h (R 10))] (hi, hl, X) _
  refine w_ri rfl rfl ?_
  exact cq_ P (by omega) hC
theorem y_value {d : Nat} {hi : Nat → Nat → Int32} {hl : Nat → Nat → Int64} {X : lm_X} {hi0 : Nat → Nat → Int32} {hl0 : Nat → Nat → Int64} {X0 : lm_X} {n ts : Nat} {T : lm_T} {R : Nat → Int32} {KO : ab_K} {V : ab_V} {tl F : Nat → Int32} (P : mP hi0 hl0 X0 hi hl X T n R KO V ts tl F) {h : Nat} (hh : h < 2) : lm_w (d + 30) 178 [.ref 123, .int (nI h)] (hi, hl, X) (mQ hi0 hl0 X0 (.int (val T h (R 10))) T n R KO V ts tl F) := by
  obtain ⟨SR, O, H, HR, HV, HT, HF, HK, E0, EL0, EX0⟩ := id P
  have S := SR.1
  refine lm_w_in (Nat.le_of_ble_eq_true rfl) ?_
  show lm_wp (d + 30) 178 0 [.ref 123, .int (nI h)] [] (hi, hl, X) _
  refine w_N 4 4 [.ref 123, .int (nI h)] [.long 1, .long 0, .long ((nI h).toInt64)] rfl ?_
  refine w_cc rfl (lm_c_1 (m_in (x := nI h) (lo := 0) (up := 1) rfl (by decide) (by decide)) (wi_t (n := 1) (Nat.le_of_lt_succ hh) (by decide))) ?_
  show lm_wp _ 178 7 [.ref 123, .int (nI h)] [.int 1] (hi, hl, X) _
  refine w_if_eq_f (t := 18) rfl rfl (by decide) ?_
  refine w_N 2 12 [.ref 123, .int (nI h)] [.int (nI h), .ref 123] rfl ?_
  refine w_cc (w_vst rfl rfl rfl (Nat.le_of_ble_eq_true rfl) (Nat.le_of_ble_eq_true rfl) (M_kd S)) (m_valueOf S H HR.1 hh) ?_
  show lm_wp _ 178 15 [.ref 123, .int (nI h)] [.int (val T h (R 10))] (hi, hl, X) _
  refine w_N 1 27 [.ref 123, .int (nI h)] [.int (val T h (R 10))] rfl ?_
  refine w_ri rfl rfl ?_
  exact mq_ P
theorem st_value {B D : Nat} {n ts : Nat} {T : lm_T} {R : Nat → Int32} {KO : ab_K} {V : ab_V} {tl F : Nat → Int32} {hf : Int32} (Z : okZ B D T n R KO V ts tl) (hB : B + 20 < 2000000) : STEP B 102 178 [.int hf] T n R KO V ts tl F := by
  obtain ⟨hT, hO, hV, hts, htl, hDB, hB0, hKO⟩ := id Z
  cases hb : wi hf 0 1
  · exact ⟨_, D, _, _, _, _, _, _, _, _, okZ_up Z hB, fun _ _ _ _ _ _ P hC => x_value_b (d := 10) P hb hC, fun _ _ _ _ _ _ P => y_value_b (d := 10) P hb⟩
  · obtain ⟨h, rfl, hh⟩ := wi_e (n := 1) hb (by decide)
    exact ⟨_, D, _, _, _, _, _, _, _, _, okZ_up Z hB, fun _ _ _ _ _ _ P hC => x_value (d := 10) P (by omega) hC, fun _ _ _ _ _ _ P => y_value (d := 10) P (by omega)⟩
theorem x_next_b {d : Nat} {hi : Nat → Nat → Int32} {hl : Nat → Nat → Int64} {X : lm_X} {hi0 : Nat → Nat → Int32} {hl0 : Nat → Nat → Int64} {C n ts : Nat} {T : lm_T} {R : Nat → Int32} {KO : ab_K} {V : ab_V} {tl F : Nat → Int32} (P : cP hi0 hl0 hi hl X C T n R KO V ts tl F) {s : Int32} (hb : wi s 0 7 = false) (hC : C + 25 < 2147483648) : lm_w (d + 30) 105 [.ref 64, .int s] (hi, hl, X) (cQ hi0 hl0 X (C + 25) (.int (-2)) T n R KO V ts tl (rfU F (-2))) := by
  obtain ⟨S, O, H, HR, FO, HV, HT, HF, HK, E0, EL0⟩ := id P
  refine lm_w_in (Nat.le_of_ble_eq_true rfl) ?_
  show lm_wp (d + 30) 105 0 [.ref 64, .int s, lm_jk] [] (hi, hl, X) _
  refine w_N 1 1 [.ref 64, .int s, lm_jk] [.int s] rfl ?_
  refine w_cc rfl x_isShelf ?_
  show lm_wp _ 105 4 [.ref 64, .int s, lm_jk] [.int (bz (wi s 0 7))] (hi, hl, X) _
  refine w_zne (t := 14) rfl rfl (fun c1 => ?_) (fun c1 => ?_)
  · exact absurd hb (by simp [c1])
  · refine w_N 2 10 [.ref 64, .int s, lm_jk] [.int (-2), .ref 64] rfl ?_
    refine w_ca (w_vst rfl rfl rfl (Nat.le_of_ble_eq_true rfl) (Nat.le_of_ble_eq_true rfl) (A_k S 64 (by decide))) (x_refuse P (by unfold isW; decide)) ?_
    rintro _ _ ⟨rfl, hi9, rfl, P9⟩
    show lm_wp _ 105 13 [.ref 64, .int s, lm_jk] [.int (-2)] (hi9, hl, X) _
    refine w_ri rfl rfl ?_
    exact cq_ P9 (by omega) hC
theorem y_next_b {d : Nat} {hi : Nat → Nat → Int32} {hl : Nat → Nat → Int64} {X : lm_X} {hi0 : Nat → Nat → Int32} {hl0 : Nat → Nat → Int64} {X0 : lm_X} {n ts : Nat} {T : lm_T} {R : Nat → Int32} {KO : ab_K} {V : ab_V} {tl F : Nat → Int32} (P : mP hi0 hl0 X0 hi hl X T n R KO V ts tl F) {s : Int32} (hb : wi s 0 7 = false) : lm_w (d + 30) 185 [.ref 123, .int s] (hi, hl, X) (mQ hi0 hl0 X0 (.int (-2)) T n R KO V ts tl (rfU F (-2))) := by
  obtain ⟨SR, O, H, HR, HV, HT, HF, HK, E0, EL0, EX0⟩ := id P
  have S := SR.1
  refine lm_w_in (Nat.le_of_ble_eq_true rfl) ?_
  show lm_wp (d + 30) 185 0 [.ref 123, .int s, lm_jk] [] (hi, hl, X) _
  refine w_N 2 2 [.ref 123, .int s, lm_jk] [.int s, .ref 123] rfl ?_
  refine w_ca (w_vst rfl rfl rfl (Nat.le_of_ble_eq_true rfl) (Nat.le_of_ble_eq_true rfl) (M_kd S)) (m_noRule_b P hb) ?_
  rintro _ _ ⟨rfl, hi9, rfl, P9⟩
  show lm_wp _ 185 5 [.ref 123, .int s, lm_jk] [.int (-2)] (hi9, hl, X) _
  refine w_N 2 7 [.ref 123, .int s, .int (-2)] [.int (-2)] rfl ?_
  refine w_if_eq_f (t := 14) rfl rfl (by decide) ?_
  refine w_N 2 30 [.ref 123, .int s, .int (-2)] [.int (-2)] rfl ?_
  refine w_ri rfl rfl ?_
  exact mq_ P9
theorem x_next_l {d : Nat} {hi : Nat → Nat → Int32} {hl : Nat → Nat → Int64} {X : lm_X} {hi0 : Nat → Nat → Int32} {hl0 : Nat → Nat → Int64} {C n ts : Nat} {T : lm_T} {R : Nat → Int32} {KO : ab_K} {V : ab_V} {tl F : Nat → Int32} (P : cP hi0 hl0 hi hl X C T n R KO V ts tl F) {j : Nat} (hj : j < 8) (h0 : ¬ lkR (V j).1 (V j).1 = 0) (hC : C + 25 < 2147483648) : lm_w (d + 30) 105 [.ref 64, .int (nI j)] (hi, hl, X) (cQ hi0 hl0 X (C + 25) (.int (lkR (V j).1 (V j).1)) T n R KO V ts tl (rfU F (lkR (V j).1 (V j).1))) := by
  obtain ⟨S, O, H, HR, FO, HV, HT, HF, HK, E0, EL0⟩ := id P
  refine lm_w_in (Nat.le_of_ble_eq_true rfl) ?_
  show lm_wp (d + 30) 105 0 [.ref 64, .int (nI j), lm_jk] [] (hi, hl, X) _
  refine w_N 1 1 [.ref 64, .int (nI j), lm_jk] [.int (nI j)] rfl ?_
  refine w_cc rfl (x_isShelf1 (wi_t (n := 7) (Nat.le_of_lt_succ hj) (by decide))) ?_
  show lm_wp _ 105 4 [.ref 64, .int (nI j), lm_jk] [.int 1] (hi, hl, X) _
  refine w_if_ne_t (t := 14) rfl rfl (by decide) ?_
  refine w_N 3 17 [.ref 64, .int (nI j), lm_jk] [.int (nI j), .int (nI j), .ref 64] rfl ?_
  refine w_cc (w_vst rfl rfl rfl (Nat.le_of_ble_eq_true rfl) (Nat.le_of_ble_eq_true rfl) (A_k S 64 (by decide))) (x_lackRules P hj hj) ?_
  show lm_wp _ 105 20 [.ref 64, .int (nI j), lm_jk] [.int (lkR (V j).1 (V j).1)] (hi, hl, X) _
  refine w_N 2 22 [.ref 64, .int (nI j), .int (lkR (V j).1 (V j).1)] [.int (lkR (V j).1 (V j).1)] rfl ?_
  refine w_if_eq_f (t := 31) rfl rfl h0 ?_
  refine w_N 2 27 [.ref 64, .int (nI j), .int (lkR (V j).1 (V j).1)] [.int (lkR (V j).1 (V j).1), .ref 64] rfl ?_
  refine w_ca (w_vst rfl rfl rfl (Nat.le_of_ble_eq_true rfl) (Nat.le_of_ble_eq_true rfl) (A_k S 64 (by decide))) (x_refuse P (lkR_W h0)) ?_
  rintro _ _ ⟨rfl, hi9, rfl, P9⟩
  show lm_wp _ 105 30 [.ref 64, .int (nI j), .int (lkR (V j).1 (V j).1)] [.int (lkR (V j).1 (V j).1)] (hi9, hl, X) _
  refine w_ri rfl rfl ?_
  exact cq_ P9 (by omega) hC
theorem y_next_l {d : Nat} {hi : Nat → Nat → Int32} {hl : Nat → Nat → Int64} {X : lm_X} {hi0 : Nat → Nat → Int32} {hl0 : Nat → Nat → Int64} {X0 : lm_X} {n ts : Nat} {T : lm_T} {R : Nat → Int32} {KO : ab_K} {V : ab_V} {tl F : Nat → Int32} (P : mP hi0 hl0 X0 hi hl X T n R KO V ts tl F) {j : Nat} (hj : j < 8) (h0 : ¬ lkR (V j).1 (V j).1 = 0) : lm_w (d + 30) 185 [.ref 123, .int (nI j)] (hi, hl, X) (mQ hi0 hl0 X0 (.int (lkR (V j).1 (V j).1)) T n R KO V ts tl (rfU F (lkR (V j).1 (V j).1))) := by
  obtain ⟨SR, O, H, HR, HV, HT, HF, HK, E0, EL0, EX0⟩ := id P
  have S := SR.1
  refine lm_w_in (Nat.le_of_ble_eq_true rfl) ?_
  show lm_wp (d + 30) 185 0 [.ref 123, .int (nI j), lm_jk] [] (hi, hl, X) _
  refine w_N 2 2 [.ref 123, .int (nI j), lm_jk] [.int (nI j), .ref 123] rfl ?_
  refine w_ca (w_vst rfl rfl rfl (Nat.le_of_ble_eq_true rfl) (Nat.le_of_ble_eq_true rfl) (M_kd S)) (m_noRule_1 P hj h0) ?_
  rintro _ _ ⟨rfl, hi9, rfl, P9⟩
  show lm_wp _ 185 5 [.ref 123, .int (nI j), lm_jk] [.int (lkR (V j).1 (V j).1)] (hi9, hl, X) _
  refine w_N 2 7 [.ref 123, .int (nI j), .int (lkR (V j).1 (V j).1)] [.int (lkR (V j).1 (V j).1)] rfl ?_
  refine w_if_eq_f (t := 14) rfl rfl h0 ?_
  refine w_N 2 30 [.ref 123, .int (nI j), .int (lkR (V j).1 (V j).1)] [.int (lkR (V j).1 (V j).1)] rfl ?_
  refine w_ri rfl rfl ?_
  exact mq_ P9
theorem x_next {d : Nat} {hi : Nat → Nat → Int32} {hl : Nat → Nat → Int64} {X : lm_X} {hi0 : Nat → Nat → Int32} {hl0 : Nat → Nat → Int64} {C n ts : Nat} {T : lm_T} {R : Nat → Int32} {KO : ab_K} {V : ab_V} {tl F : Nat → Int32} (P : cP hi0 hl0 hi hl X C T n R KO V ts tl F) {B D : Nat} (Z : okZ B D T n R KO V ts tl) {j k : Nat} (hj : j < 8) (hk1 : 1 ≤ k) (hk6 : k ≤ 6) (ek : (V j).1 = nI (10 + k)) (hC : C + 25 < 2147483648) : lm_w (d + 30) 105 [.ref 64, .int (nI j)] (hi, hl, X) (cQ hi0 hl0 X (C + 25) (.int (aI (chs T n k (V j).2.2.1 (R 10)))) T n R KO V ts tl F) := by
  obtain ⟨S, O, H, HR, FO, HV, HT, HF, HK, E0, EL0⟩ := id P
  obtain ⟨hT, hO, hV, hts, htl, hDB, hB0, hKO⟩ := id Z
  have hu := rk_u hk1 hk6 ek
  have h0 : lkR (V j).1 (V j).1 = 0 := lkR_0.mpr ⟨hu, hu⟩
  refine lm_w_in (Nat.le_of_ble_eq_true rfl) ?_
  show lm_wp (d + 30) 105 0 [.ref 64, .int (nI j), lm_jk] [] (hi, hl, X) _
  refine w_N 1 1 [.ref 64, .int (nI j), lm_jk] [.int (nI j)] rfl ?_
  refine w_cc rfl (x_isShelf1 (wi_t (n := 7) (Nat.le_of_lt_succ hj) (by decide))) ?_
  show lm_wp _ 105 4 [.ref 64, .int (nI j), lm_jk] [.int 1] (hi, hl, X) _
  refine w_if_ne_t (t := 14) rfl rfl (by decide) ?_
  refine w_N 3 17 [.ref 64, .int (nI j), lm_jk] [.int (nI j), .int (nI j), .ref 64] rfl ?_
  refine w_cc (w_vst rfl rfl rfl (Nat.le_of_ble_eq_true rfl) (Nat.le_of_ble_eq_true rfl) (A_k S 64 (by decide))) (lm_c_v (x_lackRules P hj hj) h0) ?_
  show lm_wp _ 105 20 [.ref 64, .int (nI j), lm_jk] [.int 0] (hi, hl, X) _
  refine w_N 2 22 [.ref 64, .int (nI j), .int 0] [.int 0] rfl ?_
  refine w_if_eq_t (t := 31) rfl rfl (by decide) ?_
  refine w_N 1 32 [.ref 64, .int (nI j), .int 0] [.ref 64] rfl ?_
  refine w_gr 103 rfl rfl rfl (A_k S 64 (by decide)) (A_r S 64 7 (by decide)) ?_
  refine w_N 1 36 [.ref 64, .int (nI j), .int 0] [.ref 64, .ref 103] rfl ?_
  refine w_gr 97 rfl rfl rfl (A_k S 64 (by decide)) (A_r S 64 5 (by decide)) ?_
  refine w_N 1 40 [.ref 64, .int (nI j), .int 0] [.int (nI j), .ref 97, .ref 103] rfl ?_
  refine w_aa j (107 + 2 * j) rfl ⟨by rw [A_k S 97 (by decide)]; decide, by rw [A_k S 97 (by decide)]; decide⟩ (show X.2.2.1 97 = 8 from A_l S 97 (by decide)) rfl hj (by decide) (A_sv S hj) ?_
  refine w_N 1 42 [.ref 64, .int (nI j), .int 0] [.ref 64, .ref (107 + 2 * j), .ref 103] rfl ?_
  refine w_gr 65 rfl rfl rfl (A_k S 64 (by decide)) (A_r S 64 0 (by decide)) ?_
  refine w_gi (v := R 10) rfl rfl rfl (T_kd (A_T65 S)) (HR.1) ?_
  refine w_ca (w_vst rfl rfl rfl (Nat.le_of_ble_eq_true rfl) (Nat.le_of_ble_eq_true rfl) (A_k S 103 (by decide))) (r_choose (d := d + 15) S H FO hT hO.1 (A_Sf S hj) ((HV j hj).1.trans ek) (HV j hj).2.2.1 hk1 hk6 (hV j hj).2.2) ?_
  rintro _ _ ⟨hx1, rfl, rfl, f_hx1, FO_hx1⟩
  have P := cP_fore P (fr_mono f_hx1 (by decide)) FO_hx1
  obtain ⟨S, O, H, HR, FO, HV, HT, HF, HK, E0, EL0⟩ := id P
  show lm_wp _ 105 51 [.ref 64, .int (nI j), .int 0] [.int (aI (chs T n k (V j).2.2.1 (R 10)))] (hx1, hl, X) _
  refine w_ri rfl rfl ?_
  exact cq_ P (by omega) hC
theorem y_next {d : Nat} {hi : Nat → Nat → Int32} {hl : Nat → Nat → Int64} {X : lm_X} {hi0 : Nat → Nat → Int32} {hl0 : Nat → Nat → Int64} {X0 : lm_X} {n ts : Nat} {T : lm_T} {R : Nat → Int32} {KO : ab_K} {V : ab_V} {tl F : Nat → Int32} (P : mP hi0 hl0 X0 hi hl X T n R KO V ts tl F) {B D : Nat} (Z : okZ B D T n R KO V ts tl) {j k : Nat} (hj : j < 8) (hk1 : 1 ≤ k) (hk6 : k ≤ 6) (ek : (V j).1 = nI (10 + k)) : lm_w (d + 30) 185 [.ref 123, .int (nI j)] (hi, hl, X) (mQ hi0 hl0 X0 (.int (aI (chs T n k (V j).2.2.1 (R 10)))) T n R KO V ts tl F) := by
  obtain ⟨SR, O, H, HR, HV, HT, HF, HK, E0, EL0, EX0⟩ := id P
  have S := SR.1
  obtain ⟨hT, hO, hV, hts, htl, hDB, hB0, hKO⟩ := id Z
  have hu := rk_u hk1 hk6 ek
  have h0 : lkR (V j).1 (V j).1 = 0 := lkR_0.mpr ⟨hu, hu⟩
  refine lm_w_in (Nat.le_of_ble_eq_true rfl) ?_
  show lm_wp (d + 30) 185 0 [.ref 123, .int (nI j), lm_jk] [] (hi, hl, X) _
  refine w_N 2 2 [.ref 123, .int (nI j), lm_jk] [.int (nI j), .ref 123] rfl ?_
  refine w_cc (w_vst rfl rfl rfl (Nat.le_of_ble_eq_true rfl) (Nat.le_of_ble_eq_true rfl) (M_kd S)) (m_noRule_0 P hj h0) ?_
  show lm_wp _ 185 5 [.ref 123, .int (nI j), lm_jk] [.int 0] (hi, hl, X) _
  refine w_N 2 7 [.ref 123, .int (nI j), .int 0] [.int 0] rfl ?_
  refine w_if_eq_t (t := 14) rfl rfl (by decide) ?_
  refine w_N 2 16 [.ref 123, .int (nI j), .int 0] [.ref 123, .ref 123] rfl ?_
  refine w_gr 137 rfl rfl rfl (M_kd S) (M_r S (k := 5) (o := 14) rfl) ?_
  refine w_N 1 20 [.ref 123, .int (nI j), .int 0] [.int (nI j), .ref 137, .ref 123] rfl ?_
  refine w_ia j (v := nI k) rfl (show X.2.1 (137) = 1 from M_k S 14 (by decide)) (show X.2.2.1 (137) = 8 from M_l S 14 (by decide)) rfl hj (by decide) (((HV j hj).2.2.2.1 (rk_u hk1 hk6 ek)).trans (rk_e ek)) ?_
  refine w_N 1 22 [.ref 123, .int (nI j), .int 0] [.ref 123, .int (nI k), .ref 123] rfl ?_
  refine w_gr 138 rfl rfl rfl (M_kd S) (M_r S (k := 6) (o := 15) rfl) ?_
  refine w_N 1 26 [.ref 123, .int (nI j), .int 0] [.int (nI j), .ref 138, .int (nI k), .ref 123] rfl ?_
  refine w_ia j (v := nI (V j).2.2.1) rfl (show X.2.1 (138) = 1 from M_k S 15 (by decide)) (show X.2.2.1 (138) = 8 from M_l S 15 (by decide)) rfl hj (by decide) ((HV j hj).2.2.2.2.1) ?_
  refine w_ca (w_vst rfl rfl rfl (Nat.le_of_ble_eq_true rfl) (Nat.le_of_ble_eq_true rfl) (M_kd S)) (m_chosen (d := d + 22) (kd := k) S H HR.1 hT (HR.2.2.1.trans hO.2.2.1) hO.2.2.2.1 (by omega) (hV j hj).2.2 hk1 hk6 rfl rfl) ?_
  rintro _ _ ⟨hx2, rfl, rfl, f_hx2⟩
  have P := mP_scr P f_hx2
  obtain ⟨SR, O, H, HR, HV, HT, HF, HK, E0, EL0, EX0⟩ := id P
  have S := SR.1
  show lm_wp _ 185 30 [.ref 123, .int (nI j), .int 0] [.int (aI (chs T n k (V j).2.2.1 (R 10)))] (hx2, hl, X) _
  refine w_ri rfl rfl ?_
  exact mq_ P
theorem st_next {B D : Nat} {n ts : Nat} {T : lm_T} {R : Nat → Int32} {KO : ab_K} {V : ab_V} {tl F : Nat → Int32} {s : Int32} (Z : okZ B D T n R KO V ts tl) (hB : B + 20 < 2000000) : STEP B 105 185 [.int s] T n R KO V ts tl F := by
  obtain ⟨hT, hO, hV, hts, htl, hDB, hB0, hKO⟩ := id Z
  cases hb : wi s 0 7
  · exact ⟨_, D, _, _, _, _, _, _, _, _, okZ_up Z hB, fun _ _ _ _ _ _ P hC => x_next_b (d := 10) P hb hC, fun _ _ _ _ _ _ P => y_next_b (d := 10) P hb⟩
  · obtain ⟨j, rfl, hj⟩ := wi_e (n := 7) hb (by decide)
    by_cases h0 : lkR (V j).1 (V j).1 = 0
    · obtain ⟨k, k1, k6, ek⟩ := (okC_rule (hV j (by omega)).1).mp (lkR_0.mp h0).1
      exact ⟨_, D, _, _, _, _, _, _, _, _, okZ_up Z hB, fun _ _ _ _ _ _ P hC => x_next (d := 10) P Z (by omega) k1 k6 ek hC, fun _ _ _ _ _ _ P => y_next (d := 10) P Z (by omega) k1 k6 ek⟩
    · exact ⟨_, D, _, _, _, _, _, _, _, _, okZ_up Z hB, fun _ _ _ _ _ _ P hC => x_next_l (d := 10) P (by omega) h0 hC, fun _ _ _ _ _ _ P => y_next_l (d := 10) P (by omega) h0⟩
