set_option maxRecDepth 16384
/-! calls: says, act, mark, count, likes -/
theorem rk_u {c : Int32} {k : Nat} (h1 : 1 ≤ k) (h6 : k ≤ 6) (e : c = nI (10 + k)) : 10 < c := by rw [e]; exact nI_lt (a := 10) (by omega) (by omega)
theorem rk_e {c : Int32} {k : Nat} (e : c = nI (10 + k)) : c - 10 = nI k := by rw [e, show (10 : Int32) = nI 10 from rfl, nI_sub (by omega)]; congr 1; omega
def undI (x y : Int32) : Bool := decide (y = 0) || decide (x = y) || (decide (y = 1) && (decide (x = 2) || decide (x = 4) || decide (x = 5))) || (decide (y = 2) && decide (x = 4))
theorem undI_e : ∀ k, k < 7 → ∀ b, b < 7 → undI (nI k) (nI b) = und k b := by decide
theorem bz_inj {a b : Bool} : bz a = bz b ↔ a = b := by cases a <;> cases b <;> simp [bz]
theorem m_isUnderI {d : Nat} {hi : Nat → Nat → Int32} {hl : Nat → Nat → Int64} {X : lm_X} {x y : Int32} : lm_c d 147 [.int x, .int y] (hi, hl, X) (some (.int (bz (undI x y))), (hi, hl, X)) := by
  refine lm_c_of (lm_w_in (Nat.le_of_ble_eq_true rfl) ?_)
  show lm_wp d 147 0 [.int x, .int y] [] (hi, hl, X) _
  refine w_N 1 1 [.int x, .int y] [.int y] rfl ?_
  refine w_if_eq (t := 39) rfl rfl (fun c1 => ?_) (fun c1 => ?_)
  · refine w_N 2 44 [.int x, .int y] [.int 1] rfl ?_
    refine w_rz rfl rfl (by decide) ?_
    show (some (Value.int 1), _) = _
    first | (simp [undI, bz, c1]; done) | (simp_all [undI, bz]; done)
  · refine w_N 2 6 [.int x, .int y] [.int y, .int x] rfl ?_
    refine w_icmp_eq (t := 39) rfl rfl (fun c2 => ?_) (fun c2 => ?_)
    · refine w_N 2 44 [.int x, .int y] [.int 1] rfl ?_
      refine w_rz rfl rfl (by decide) ?_
      show (some (Value.int 1), _) = _
      first | (simp [undI, bz, c1, c2]; done) | (simp_all [undI, bz]; done)
    · refine w_N 2 11 [.int x, .int y] [.int 1, .int y] rfl ?_
      refine w_icmp_ne (t := 29) rfl rfl (fun c3 => ?_) (fun c3 => ?_)
      · refine w_N 2 31 [.int x, .int y] [.int 2, .int y] rfl ?_
        refine w_icmp_ne (t := 43) rfl rfl (fun c4 => ?_) (fun c4 => ?_)
        · refine w_N 1 44 [.int x, .int y] [.int 0] rfl ?_
          refine w_rz rfl rfl (by decide) ?_
          show (some (Value.int 0), _) = _
          first | (simp [undI, bz, c1, c2, c3, c4]; done) | (simp_all [undI, bz]; done)
        · refine w_N 2 36 [.int x, .int y] [.int 4, .int x] rfl ?_
          refine w_icmp_ne (t := 43) rfl rfl (fun c5 => ?_) (fun c5 => ?_)
          · refine w_N 1 44 [.int x, .int y] [.int 0] rfl ?_
            refine w_rz rfl rfl (by decide) ?_
            show (some (Value.int 0), _) = _
            first | (simp [undI, bz, c1, c2, c3, c4, c5]; done) | (simp_all [undI, bz]; done)
          · refine w_N 2 44 [.int x, .int y] [.int 1] rfl ?_
            refine w_rz rfl rfl (by decide) ?_
            show (some (Value.int 1), _) = _
            first | (simp [undI, bz, c1, c2, c3, c4, c5]; done) | (simp_all [undI, bz]; done)
      · refine w_N 2 16 [.int x, .int y] [.int 2, .int x] rfl ?_
        refine w_icmp_eq (t := 39) rfl rfl (fun c6 => ?_) (fun c6 => ?_)
        · refine w_N 2 44 [.int x, .int y] [.int 1] rfl ?_
          refine w_rz rfl rfl (by decide) ?_
          show (some (Value.int 1), _) = _
          first | (simp [undI, bz, c1, c2, c3, c6]; done) | (simp_all [undI, bz]; done)
        · refine w_N 2 21 [.int x, .int y] [.int 4, .int x] rfl ?_
          refine w_icmp_eq (t := 39) rfl rfl (fun c7 => ?_) (fun c7 => ?_)
          · refine w_N 2 44 [.int x, .int y] [.int 1] rfl ?_
            refine w_rz rfl rfl (by decide) ?_
            show (some (Value.int 1), _) = _
            first | (simp [undI, bz, c1, c2, c3, c6, c7]; done) | (simp_all [undI, bz]; done)
          · refine w_N 2 26 [.int x, .int y] [.int 5, .int x] rfl ?_
            refine w_icmp_eq (t := 39) rfl rfl (fun c8 => ?_) (fun c8 => ?_)
            · refine w_N 2 44 [.int x, .int y] [.int 1] rfl ?_
              refine w_rz rfl rfl (by decide) ?_
              show (some (Value.int 1), _) = _
              first | (simp [undI, bz, c1, c2, c3, c6, c7, c8]; done) | (simp_all [undI, bz]; done)
            · refine w_N 2 31 [.int x, .int y] [.int 2, .int y] rfl ?_
              refine w_icmp_ne (t := 43) rfl rfl (fun c9 => ?_) (fun c9 => ?_)
              · refine w_N 1 44 [.int x, .int y] [.int 0] rfl ?_
                refine w_rz rfl rfl (by decide) ?_
                show (some (Value.int 0), _) = _
                first | (simp [undI, bz, c1, c2, c3, c6, c7, c8, c9]; done) | (simp_all [undI, bz]; done)
              · refine w_N 2 36 [.int x, .int y] [.int 4, .int x] rfl ?_
                refine w_icmp_ne (t := 43) rfl rfl (fun c10 => ?_) (fun c10 => ?_)
                · refine w_N 1 44 [.int x, .int y] [.int 0] rfl ?_
                  refine w_rz rfl rfl (by decide) ?_
                  show (some (Value.int 0), _) = _
                  first | (simp [undI, bz, c1, c2, c3, c6, c7, c8, c9, c10]; done) | (simp_all [undI, bz]; done)
                · refine w_N 2 44 [.int x, .int y] [.int 1] rfl ?_
                  refine w_rz rfl rfl (by decide) ?_
                  show (some (Value.int 1), _) = _
                  first | (simp [undI, bz, c1, c2, c3, c6, c7, c8, c9, c10]; done) | (simp_all [undI, bz]; done)
theorem m_isUnder {d : Nat} {hi : Nat → Nat → Int32} {hl : Nat → Nat → Int64} {X : lm_X} {k b : Nat} (h6 : k ≤ 6) (hb : b ≤ 6) : lm_c d 147 [.int (nI k), .int (nI b)] (hi, hl, X) (some (.int (bz (und k b))), (hi, hl, X)) := lm_c_v m_isUnderI (by rw [undI_e k (by omega) b (by omega)])
theorem x_says_b {d : Nat} {hi : Nat → Nat → Int32} {hl : Nat → Nat → Int64} {X : lm_X} {hi0 : Nat → Nat → Int32} {hl0 : Nat → Nat → Int64} {C n ts : Nat} {T : lm_T} {R : Nat → Int32} {KO : ab_K} {V : ab_V} {tl F : Nat → Int32} (P : cP hi0 hl0 hi hl X C T n R KO V ts tl F) {s kd : Int32}  (hb : (wi s 0 7 && wi kd 0 6) = false) (hC : C + 25 < 2147483648) : lm_w (d + 30) 88 [.ref 64, .int s, .int kd] (hi, hl, X) (cQ hi0 hl0 X (C + 25) (.int (-2)) T n R KO V ts tl (rfU F (-2))) := by
  obtain ⟨S, O, H, HR, FO, HV, HT, HF, HK, E0, EL0⟩ := id P
  refine lm_w_in (Nat.le_of_ble_eq_true rfl) ?_
  show lm_wp (d + 30) 88 0 [.ref 64, .int s, .int kd, lm_jk, lm_jk] [] (hi, hl, X) _
  refine w_N 1 1 [.ref 64, .int s, .int kd, lm_jk, lm_jk] [.int s] rfl ?_
  refine w_cc rfl x_isShelf ?_
  show lm_wp _ 88 4 [.ref 64, .int s, .int kd, lm_jk, lm_jk] [.int (bz (wi s 0 7))] (hi, hl, X) _
  refine w_zeq (t := 17) rfl rfl (fun c1 => ?_) (fun c1 => ?_)
  · refine w_N 2 20 [.ref 64, .int s, .int kd, lm_jk, lm_jk] [.int (-2), .ref 64] rfl ?_
    refine w_ca (w_vst rfl rfl rfl (Nat.le_of_ble_eq_true rfl) (Nat.le_of_ble_eq_true rfl) (A_k S 64 (by decide))) (x_refuse P (by unfold isW; decide)) ?_
    rintro _ _ ⟨rfl, hi9, rfl, P9⟩
    show lm_wp _ 88 23 [.ref 64, .int s, .int kd, lm_jk, lm_jk] [.int (-2)] (hi9, hl, X) _
    refine w_ri rfl rfl ?_
    exact cq_ P9 (by omega) hC
  · refine w_N 3 11 [.ref 64, .int s, .int kd, lm_jk, lm_jk] [.int 6, .int 0, .int kd] rfl ?_
    refine w_cc rfl x_within ?_
    show lm_wp _ 88 14 [.ref 64, .int s, .int kd, lm_jk, lm_jk] [.int (bz (wi kd 0 6))] (hi, hl, X) _
    refine w_zne (t := 24) rfl rfl (fun c2 => ?_) (fun c2 => ?_)
    · exact absurd hb (by simp [c1, c2])
    · refine w_N 2 20 [.ref 64, .int s, .int kd, lm_jk, lm_jk] [.int (-2), .ref 64] rfl ?_
      refine w_ca (w_vst rfl rfl rfl (Nat.le_of_ble_eq_true rfl) (Nat.le_of_ble_eq_true rfl) (A_k S 64 (by decide))) (x_refuse P (by unfold isW; decide)) ?_
      rintro _ _ ⟨rfl, hi9, rfl, P9⟩
      show lm_wp _ 88 23 [.ref 64, .int s, .int kd, lm_jk, lm_jk] [.int (-2)] (hi9, hl, X) _
      refine w_ri rfl rfl ?_
      exact cq_ P9 (by omega) hC
theorem y_says_b {d : Nat} {hi : Nat → Nat → Int32} {hl : Nat → Nat → Int64} {X : lm_X} {hi0 : Nat → Nat → Int32} {hl0 : Nat → Nat → Int64} {X0 : lm_X} {n ts : Nat} {T : lm_T} {R : Nat → Int32} {KO : ab_K} {V : ab_V} {tl F : Nat → Int32} (P : mP hi0 hl0 X0 hi hl X T n R KO V ts tl F) {s kd : Int32}  (hb : (wi s 0 7 && wi kd 0 6) = false) : lm_w (d + 30) 148 [.ref 123, .int s, .int kd] (hi, hl, X) (mQ hi0 hl0 X0 (.int (-2)) T n R KO V ts tl (rfU F (-2))) := by
  obtain ⟨SR, O, H, HR, HV, HT, HF, HK, E0, EL0, EX0⟩ := id P
  have S := SR.1
  refine lm_w_in (Nat.le_of_ble_eq_true rfl) ?_
  show lm_wp (d + 30) 148 0 [.ref 123, .int s, .int kd] [] (hi, hl, X) _
  refine w_N 4 6 [.ref 123, .int s, .int kd] [.long 7, .long 0, .long s.toInt64] rfl ?_
  refine w_cc rfl (m_in (x := s) (lo := 0) (up := 7) rfl (by decide) (by decide)) ?_
  show lm_wp _ 148 9 [.ref 123, .int s, .int kd] [.int (bz (wi s 0 7))] (hi, hl, X) _
  refine w_zeq (t := 24) rfl rfl (fun c1 => ?_) (fun c1 => ?_)
  · refine w_N 2 27 [.ref 123, .int s, .int kd] [.int (-2), .ref 123] rfl ?_
    refine w_ca (w_vst rfl rfl rfl (Nat.le_of_ble_eq_true rfl) (Nat.le_of_ble_eq_true rfl) (M_kd S)) (m_refuse P (by unfold isW; decide)) ?_
    rintro _ _ ⟨rfl, hi9, rfl, P9⟩
    show lm_wp _ 148 30 [.ref 123, .int s, .int kd] [.int (-2)] (hi9, hl, X) _
    refine w_ri rfl rfl ?_
    exact mq_ P9
  · refine w_N 4 18 [.ref 123, .int s, .int kd] [.long 6, .long 0, .long kd.toInt64] rfl ?_
    refine w_cc rfl (m_in (x := kd) (lo := 0) (up := 6) rfl (by decide) (by decide)) ?_
    show lm_wp _ 148 21 [.ref 123, .int s, .int kd] [.int (bz (wi kd 0 6))] (hi, hl, X) _
    refine w_zne (t := 31) rfl rfl (fun c2 => ?_) (fun c2 => ?_)
    · exact absurd hb (by simp [c1, c2])
    · refine w_N 2 27 [.ref 123, .int s, .int kd] [.int (-2), .ref 123] rfl ?_
      refine w_ca (w_vst rfl rfl rfl (Nat.le_of_ble_eq_true rfl) (Nat.le_of_ble_eq_true rfl) (M_kd S)) (m_refuse P (by unfold isW; decide)) ?_
      rintro _ _ ⟨rfl, hi9, rfl, P9⟩
      show lm_wp _ 148 30 [.ref 123, .int s, .int kd] [.int (-2)] (hi9, hl, X) _
      refine w_ri rfl rfl ?_
      exact mq_ P9
theorem x_says_l {d : Nat} {hi : Nat → Nat → Int32} {hl : Nat → Nat → Int64} {X : lm_X} {hi0 : Nat → Nat → Int32} {hl0 : Nat → Nat → Int64} {C n ts : Nat} {T : lm_T} {R : Nat → Int32} {KO : ab_K} {V : ab_V} {tl F : Nat → Int32} (P : cP hi0 hl0 hi hl X C T n R KO V ts tl F) {j b : Nat} (hj : j < 8) (hb6 : b ≤ 6) (h0 : ¬ lkR (V j).1 (V j).1 = 0) (hC : C + 25 < 2147483648) : lm_w (d + 30) 88 [.ref 64, .int (nI j), .int (nI b)] (hi, hl, X) (cQ hi0 hl0 X (C + 25) (.int (lkR (V j).1 (V j).1)) T n R KO V ts tl (rfU F (lkR (V j).1 (V j).1))) := by
  obtain ⟨S, O, H, HR, FO, HV, HT, HF, HK, E0, EL0⟩ := id P
  refine lm_w_in (Nat.le_of_ble_eq_true rfl) ?_
  show lm_wp (d + 30) 88 0 [.ref 64, .int (nI j), .int (nI b), lm_jk, lm_jk] [] (hi, hl, X) _
  refine w_N 1 1 [.ref 64, .int (nI j), .int (nI b), lm_jk, lm_jk] [.int (nI j)] rfl ?_
  refine w_cc rfl (x_isShelf1 (wi_t (n := 7) (Nat.le_of_lt_succ hj) (by decide))) ?_
  show lm_wp _ 88 4 [.ref 64, .int (nI j), .int (nI b), lm_jk, lm_jk] [.int 1] (hi, hl, X) _
  refine w_if_eq_f (t := 17) rfl rfl (by decide) ?_
  refine w_N 3 11 [.ref 64, .int (nI j), .int (nI b), lm_jk, lm_jk] [.int 6, .int 0, .int (nI b)] rfl ?_
  refine w_cc rfl (x_within1 (wi_t (n := 6) hb6 (by decide))) ?_
  show lm_wp _ 88 14 [.ref 64, .int (nI j), .int (nI b), lm_jk, lm_jk] [.int 1] (hi, hl, X) _
  refine w_if_ne_t (t := 24) rfl rfl (by decide) ?_
  refine w_N 3 27 [.ref 64, .int (nI j), .int (nI b), lm_jk, lm_jk] [.int (nI j), .int (nI j), .ref 64] rfl ?_
  refine w_cc (w_vst rfl rfl rfl (Nat.le_of_ble_eq_true rfl) (Nat.le_of_ble_eq_true rfl) (A_k S 64 (by decide))) (x_lackRules P hj hj) ?_
  show lm_wp _ 88 30 [.ref 64, .int (nI j), .int (nI b), lm_jk, lm_jk] [.int (lkR (V j).1 (V j).1)] (hi, hl, X) _
  refine w_N 2 32 [.ref 64, .int (nI j), .int (nI b), .int (lkR (V j).1 (V j).1), lm_jk] [.int (lkR (V j).1 (V j).1)] rfl ?_
  refine w_if_eq_f (t := 41) rfl rfl h0 ?_
  refine w_N 2 37 [.ref 64, .int (nI j), .int (nI b), .int (lkR (V j).1 (V j).1), lm_jk] [.int (lkR (V j).1 (V j).1), .ref 64] rfl ?_
  refine w_ca (w_vst rfl rfl rfl (Nat.le_of_ble_eq_true rfl) (Nat.le_of_ble_eq_true rfl) (A_k S 64 (by decide))) (x_refuse P (lkR_W h0)) ?_
  rintro _ _ ⟨rfl, hi9, rfl, P9⟩
  show lm_wp _ 88 40 [.ref 64, .int (nI j), .int (nI b), .int (lkR (V j).1 (V j).1), lm_jk] [.int (lkR (V j).1 (V j).1)] (hi9, hl, X) _
  refine w_ri rfl rfl ?_
  exact cq_ P9 (by omega) hC
theorem y_says_l {d : Nat} {hi : Nat → Nat → Int32} {hl : Nat → Nat → Int64} {X : lm_X} {hi0 : Nat → Nat → Int32} {hl0 : Nat → Nat → Int64} {X0 : lm_X} {n ts : Nat} {T : lm_T} {R : Nat → Int32} {KO : ab_K} {V : ab_V} {tl F : Nat → Int32} (P : mP hi0 hl0 X0 hi hl X T n R KO V ts tl F) {j b : Nat} (hj : j < 8) (hb6 : b ≤ 6) (h0 : ¬ lkR (V j).1 (V j).1 = 0) : lm_w (d + 30) 148 [.ref 123, .int (nI j), .int (nI b)] (hi, hl, X) (mQ hi0 hl0 X0 (.int (lkR (V j).1 (V j).1)) T n R KO V ts tl (rfU F (lkR (V j).1 (V j).1))) := by
  obtain ⟨SR, O, H, HR, HV, HT, HF, HK, E0, EL0, EX0⟩ := id P
  have S := SR.1
  refine lm_w_in (Nat.le_of_ble_eq_true rfl) ?_
  show lm_wp (d + 30) 148 0 [.ref 123, .int (nI j), .int (nI b)] [] (hi, hl, X) _
  refine w_N 4 6 [.ref 123, .int (nI j), .int (nI b)] [.long 7, .long 0, .long ((nI j).toInt64)] rfl ?_
  refine w_cc rfl (lm_c_1 (m_in (x := nI j) (lo := 0) (up := 7) rfl (by decide) (by decide)) (wi_t (n := 7) (Nat.le_of_lt_succ hj) (by decide))) ?_
  show lm_wp _ 148 9 [.ref 123, .int (nI j), .int (nI b)] [.int 1] (hi, hl, X) _
  refine w_if_eq_f (t := 24) rfl rfl (by decide) ?_
  refine w_N 4 18 [.ref 123, .int (nI j), .int (nI b)] [.long 6, .long 0, .long ((nI b).toInt64)] rfl ?_
  refine w_cc rfl (lm_c_1 (m_in (x := nI b) (lo := 0) (up := 6) rfl (by decide) (by decide)) (wi_t (n := 6) hb6 (by decide))) ?_
  show lm_wp _ 148 21 [.ref 123, .int (nI j), .int (nI b)] [.int 1] (hi, hl, X) _
  refine w_if_ne_t (t := 31) rfl rfl (by decide) ?_
  refine w_N 1 32 [.ref 123, .int (nI j), .int (nI b)] [.ref 123] rfl ?_
  refine w_gr 124 rfl rfl rfl (M_kd S) (M_r S (k := 0) (o := 1) rfl) ?_
  refine w_N 1 36 [.ref 123, .int (nI j), .int (nI b)] [.int (nI j), .ref 124] rfl ?_
  refine w_ia j (v := shK (V j).1) rfl (show X.2.1 (124) = 1 from M_k S 1 (by decide)) (show X.2.2.1 (124) = 8 from M_l S 1 (by decide)) rfl hj (by decide) ((HV j hj).1) ?_
  refine w_N 1 38 [.ref 123, .int (nI j), .int (nI b)] [.int 1, .int (shK (V j).1)] rfl ?_
  refine w_icmp_eq (t := 64) rfl rfl (fun c1 => ?_) (fun c1 => ?_)
  · refine w_N 2 67 [.ref 123, .int (nI j), .int (nI b)] [.int (-3), .ref 123] rfl ?_
    have ew : lkR (V j).1 (V j).1 = (-3) := by
      rcases shK_or (V j).1 with q | q | q <;> first | (exfalso; revert c1; simp [q]; done) | (rw [lkR_s]; simp [q]; done)
    rw [ew] at h0 ⊢
    refine w_ca (w_vst rfl rfl rfl (Nat.le_of_ble_eq_true rfl) (Nat.le_of_ble_eq_true rfl) (M_kd S)) (m_refuse P (by unfold isW; decide)) ?_
    rintro _ _ ⟨rfl, hi9, rfl, P9⟩
    show lm_wp _ 148 70 [.ref 123, .int (nI j), .int (nI b)] [.int (-3)] (hi9, hl, X) _
    refine w_ri rfl rfl ?_
    exact mq_ P9
  · refine w_N 1 42 [.ref 123, .int (nI j), .int (nI b)] [.ref 123] rfl ?_
    refine w_gr 124 rfl rfl rfl (M_kd S) (M_r S (k := 0) (o := 1) rfl) ?_
    refine w_N 1 46 [.ref 123, .int (nI j), .int (nI b)] [.int (nI j), .ref 124] rfl ?_
    refine w_ia j (v := shK (V j).1) rfl (show X.2.1 (124) = 1 from M_k S 1 (by decide)) (show X.2.2.1 (124) = 8 from M_l S 1 (by decide)) rfl hj (by decide) ((HV j hj).1) ?_
    refine w_N 1 48 [.ref 123, .int (nI j), .int (nI b)] [.int 2, .int (shK (V j).1)] rfl ?_
    refine w_icmp_ne (t := 71) rfl rfl (fun c2 => ?_) (fun c2 => ?_)
    · refine w_N 1 72 [.ref 123, .int (nI j), .int (nI b)] [.ref 123] rfl ?_
      refine w_gr 124 rfl rfl rfl (M_kd S) (M_r S (k := 0) (o := 1) rfl) ?_
      refine w_N 1 76 [.ref 123, .int (nI j), .int (nI b)] [.int (nI j), .ref 124] rfl ?_
      refine w_ia j (v := shK (V j).1) rfl (show X.2.1 (124) = 1 from M_k S 1 (by decide)) (show X.2.2.1 (124) = 8 from M_l S 1 (by decide)) rfl hj (by decide) ((HV j hj).1) ?_
      refine w_if_ne (t := 87) rfl rfl (fun c3 => ?_) (fun c3 => ?_)
      · refine absurd ?_ h0
        rcases shK_or (V j).1 with q | q | q <;> first | (exfalso; revert c1 c2 c3; simp [q]; done) | (rw [lkR_s]; simp [q]; done)
      · refine w_N 2 83 [.ref 123, .int (nI j), .int (nI b)] [.int (-4), .ref 123] rfl ?_
        have ew : lkR (V j).1 (V j).1 = (-4) := by
          rcases shK_or (V j).1 with q | q | q <;> first | (exfalso; revert c1 c2 c3; simp [q]; done) | (rw [lkR_s]; simp [q]; done)
        rw [ew] at h0 ⊢
        refine w_ca (w_vst rfl rfl rfl (Nat.le_of_ble_eq_true rfl) (Nat.le_of_ble_eq_true rfl) (M_kd S)) (m_refuse P (by unfold isW; decide)) ?_
        rintro _ _ ⟨rfl, hi9, rfl, P9⟩
        show lm_wp _ 148 86 [.ref 123, .int (nI j), .int (nI b)] [.int (-4)] (hi9, hl, X) _
        refine w_ri rfl rfl ?_
        exact mq_ P9
    · refine absurd ?_ h0
      rcases shK_or (V j).1 with q | q | q <;> first | (exfalso; revert c1 c2; simp [q]; done) | (rw [lkR_s]; simp [q]; done)
theorem x_says_u {d : Nat} {hi : Nat → Nat → Int32} {hl : Nat → Nat → Int64} {X : lm_X} {hi0 : Nat → Nat → Int32} {hl0 : Nat → Nat → Int64} {C n ts : Nat} {T : lm_T} {R : Nat → Int32} {KO : ab_K} {V : ab_V} {tl F : Nat → Int32} (P : cP hi0 hl0 hi hl X C T n R KO V ts tl F) {j b : Nat} (hj : j < 8) (hb6 : b ≤ 6) {k : Nat} (hk1 : 1 ≤ k) (hk6 : k ≤ 6) (ek : (V j).1 = nI (10 + k)) (hu0 : und k b = false) (hC : C + 25 < 2147483648) : lm_w (d + 30) 88 [.ref 64, .int (nI j), .int (nI b)] (hi, hl, X) (cQ hi0 hl0 X (C + 25) (.int (-3)) T n R KO V ts tl (rfU F (-3))) := by
  obtain ⟨S, O, H, HR, FO, HV, HT, HF, HK, E0, EL0⟩ := id P
  have hu := rk_u hk1 hk6 ek
  have h0 : lkR (V j).1 (V j).1 = 0 := lkR_0.mpr ⟨hu, hu⟩
  refine lm_w_in (Nat.le_of_ble_eq_true rfl) ?_
  show lm_wp (d + 30) 88 0 [.ref 64, .int (nI j), .int (nI b), lm_jk, lm_jk] [] (hi, hl, X) _
  refine w_N 1 1 [.ref 64, .int (nI j), .int (nI b), lm_jk, lm_jk] [.int (nI j)] rfl ?_
  refine w_cc rfl (x_isShelf1 (wi_t (n := 7) (Nat.le_of_lt_succ hj) (by decide))) ?_
  show lm_wp _ 88 4 [.ref 64, .int (nI j), .int (nI b), lm_jk, lm_jk] [.int 1] (hi, hl, X) _
  refine w_if_eq_f (t := 17) rfl rfl (by decide) ?_
  refine w_N 3 11 [.ref 64, .int (nI j), .int (nI b), lm_jk, lm_jk] [.int 6, .int 0, .int (nI b)] rfl ?_
  refine w_cc rfl (x_within1 (wi_t (n := 6) hb6 (by decide))) ?_
  show lm_wp _ 88 14 [.ref 64, .int (nI j), .int (nI b), lm_jk, lm_jk] [.int 1] (hi, hl, X) _
  refine w_if_ne_t (t := 24) rfl rfl (by decide) ?_
  refine w_N 3 27 [.ref 64, .int (nI j), .int (nI b), lm_jk, lm_jk] [.int (nI j), .int (nI j), .ref 64] rfl ?_
  refine w_cc (w_vst rfl rfl rfl (Nat.le_of_ble_eq_true rfl) (Nat.le_of_ble_eq_true rfl) (A_k S 64 (by decide))) (lm_c_v (x_lackRules P hj hj) h0) ?_
  show lm_wp _ 88 30 [.ref 64, .int (nI j), .int (nI b), lm_jk, lm_jk] [.int 0] (hi, hl, X) _
  refine w_N 2 32 [.ref 64, .int (nI j), .int (nI b), .int 0, lm_jk] [.int 0] rfl ?_
  refine w_if_eq_t (t := 41) rfl rfl (by decide) ?_
  refine w_N 1 42 [.ref 64, .int (nI j), .int (nI b), .int 0, lm_jk] [.ref 64] rfl ?_
  refine w_gr 97 rfl rfl rfl (A_k S 64 (by decide)) (A_r S 64 5 (by decide)) ?_
  refine w_N 1 46 [.ref 64, .int (nI j), .int (nI b), .int 0, lm_jk] [.int (nI j), .ref 97] rfl ?_
  refine w_aa j (107 + 2 * j) rfl ⟨by rw [A_k S 97 (by decide)]; decide, by rw [A_k S 97 (by decide)]; decide⟩ (show X.2.2.1 97 = 8 from A_l S 97 (by decide)) rfl hj (by decide) (A_sv S hj) ?_
  refine w_N 2 51 [.ref 64, .int (nI j), .int (nI b), .int 0, .ref (107 + 2 * j)] [.ref (107 + 2 * j)] rfl ?_
  refine w_cc (w_vst rfl rfl rfl (Nat.le_of_ble_eq_true rfl) (Nat.le_of_ble_eq_true rfl) (Sf_kd (A_Sf S hj))) (sf_ruleKind (A_Sf S hj) ((HV j hj).1.trans ek) hk6) ?_
  show lm_wp _ 88 54 [.ref 64, .int (nI j), .int (nI b), .int 0, .ref (107 + 2 * j)] [.int (nI k)] (hi, hl, X) _
  refine w_N 1 55 [.ref 64, .int (nI j), .int (nI b), .int 0, .ref (107 + 2 * j)] [.int (nI b), .int (nI k)] rfl ?_
  refine w_cc rfl (r_isUnder O.1 hk1 hk6 hb6) ?_
  show lm_wp _ 88 58 [.ref 64, .int (nI j), .int (nI b), .int 0, .ref (107 + 2 * j)] [.int (bz (und k b))] (hi, hl, X) _
  refine w_if_ne_f (t := 68) rfl rfl (c_eqz hu0) ?_
  refine w_N 2 64 [.ref 64, .int (nI j), .int (nI b), .int 0, .ref (107 + 2 * j)] [.int (-3), .ref 64] rfl ?_
  refine w_ca (w_vst rfl rfl rfl (Nat.le_of_ble_eq_true rfl) (Nat.le_of_ble_eq_true rfl) (A_k S 64 (by decide))) (x_refuse P (by unfold isW; decide)) ?_
  rintro _ _ ⟨rfl, hi9, rfl, P9⟩
  show lm_wp _ 88 67 [.ref 64, .int (nI j), .int (nI b), .int 0, .ref (107 + 2 * j)] [.int (-3)] (hi9, hl, X) _
  refine w_ri rfl rfl ?_
  exact cq_ P9 (by omega) hC
theorem y_says_u {d : Nat} {hi : Nat → Nat → Int32} {hl : Nat → Nat → Int64} {X : lm_X} {hi0 : Nat → Nat → Int32} {hl0 : Nat → Nat → Int64} {X0 : lm_X} {n ts : Nat} {T : lm_T} {R : Nat → Int32} {KO : ab_K} {V : ab_V} {tl F : Nat → Int32} (P : mP hi0 hl0 X0 hi hl X T n R KO V ts tl F) {j b : Nat} (hj : j < 8) (hb6 : b ≤ 6) {k : Nat} (hk1 : 1 ≤ k) (hk6 : k ≤ 6) (ek : (V j).1 = nI (10 + k)) (hu0 : und k b = false) : lm_w (d + 30) 148 [.ref 123, .int (nI j), .int (nI b)] (hi, hl, X) (mQ hi0 hl0 X0 (.int (-3)) T n R KO V ts tl (rfU F (-3))) := by
  obtain ⟨SR, O, H, HR, HV, HT, HF, HK, E0, EL0, EX0⟩ := id P
  have S := SR.1
  have hu := rk_u hk1 hk6 ek
  have h0 : lkR (V j).1 (V j).1 = 0 := lkR_0.mpr ⟨hu, hu⟩
  refine lm_w_in (Nat.le_of_ble_eq_true rfl) ?_
  show lm_wp (d + 30) 148 0 [.ref 123, .int (nI j), .int (nI b)] [] (hi, hl, X) _
  refine w_N 4 6 [.ref 123, .int (nI j), .int (nI b)] [.long 7, .long 0, .long ((nI j).toInt64)] rfl ?_
  refine w_cc rfl (lm_c_1 (m_in (x := nI j) (lo := 0) (up := 7) rfl (by decide) (by decide)) (wi_t (n := 7) (Nat.le_of_lt_succ hj) (by decide))) ?_
  show lm_wp _ 148 9 [.ref 123, .int (nI j), .int (nI b)] [.int 1] (hi, hl, X) _
  refine w_if_eq_f (t := 24) rfl rfl (by decide) ?_
  refine w_N 4 18 [.ref 123, .int (nI j), .int (nI b)] [.long 6, .long 0, .long ((nI b).toInt64)] rfl ?_
  refine w_cc rfl (lm_c_1 (m_in (x := nI b) (lo := 0) (up := 6) rfl (by decide) (by decide)) (wi_t (n := 6) hb6 (by decide))) ?_
  show lm_wp _ 148 21 [.ref 123, .int (nI j), .int (nI b)] [.int 1] (hi, hl, X) _
  refine w_if_ne_t (t := 31) rfl rfl (by decide) ?_
  refine w_N 1 32 [.ref 123, .int (nI j), .int (nI b)] [.ref 123] rfl ?_
  refine w_gr 124 rfl rfl rfl (M_kd S) (M_r S (k := 0) (o := 1) rfl) ?_
  refine w_N 1 36 [.ref 123, .int (nI j), .int (nI b)] [.int (nI j), .ref 124] rfl ?_
  refine w_ia j (v := 2) rfl (show X.2.1 (124) = 1 from M_k S 1 (by decide)) (show X.2.2.1 (124) = 8 from M_l S 1 (by decide)) rfl hj (by decide) ((HV j hj).1.trans (shK_u hu)) ?_
  refine w_N 1 38 [.ref 123, .int (nI j), .int (nI b)] [.int 1, .int 2] rfl ?_
  refine w_icmp_eq_f (t := 64) rfl rfl (by decide) ?_
  refine w_N 1 42 [.ref 123, .int (nI j), .int (nI b)] [.ref 123] rfl ?_
  refine w_gr 124 rfl rfl rfl (M_kd S) (M_r S (k := 0) (o := 1) rfl) ?_
  refine w_N 1 46 [.ref 123, .int (nI j), .int (nI b)] [.int (nI j), .ref 124] rfl ?_
  refine w_ia j (v := 2) rfl (show X.2.1 (124) = 1 from M_k S 1 (by decide)) (show X.2.2.1 (124) = 8 from M_l S 1 (by decide)) rfl hj (by decide) ((HV j hj).1.trans (shK_u hu)) ?_
  refine w_N 1 48 [.ref 123, .int (nI j), .int (nI b)] [.int 2, .int 2] rfl ?_
  refine w_icmp_ne_f (t := 71) rfl rfl (by decide) ?_
  refine w_N 1 52 [.ref 123, .int (nI j), .int (nI b)] [.ref 123] rfl ?_
  refine w_gr 137 rfl rfl rfl (M_kd S) (M_r S (k := 5) (o := 14) rfl) ?_
  refine w_N 1 56 [.ref 123, .int (nI j), .int (nI b)] [.int (nI j), .ref 137] rfl ?_
  refine w_ia j (v := nI k) rfl (show X.2.1 (137) = 1 from M_k S 14 (by decide)) (show X.2.2.1 (137) = 8 from M_l S 14 (by decide)) rfl hj (by decide) (((HV j hj).2.2.2.1 (rk_u hk1 hk6 ek)).trans (rk_e ek)) ?_
  refine w_N 1 58 [.ref 123, .int (nI j), .int (nI b)] [.int (nI b), .int (nI k)] rfl ?_
  refine w_cc rfl (m_isUnder hk6 hb6) ?_
  show lm_wp _ 148 61 [.ref 123, .int (nI j), .int (nI b)] [.int (bz (und k b))] (hi, hl, X) _
  refine w_if_ne_f (t := 71) rfl rfl (c_eqz hu0) ?_
  refine w_N 2 67 [.ref 123, .int (nI j), .int (nI b)] [.int (-3), .ref 123] rfl ?_
  refine w_ca (w_vst rfl rfl rfl (Nat.le_of_ble_eq_true rfl) (Nat.le_of_ble_eq_true rfl) (M_kd S)) (m_refuse P (by unfold isW; decide)) ?_
  rintro _ _ ⟨rfl, hi9, rfl, P9⟩
  show lm_wp _ 148 70 [.ref 123, .int (nI j), .int (nI b)] [.int (-3)] (hi9, hl, X) _
  refine w_ri rfl rfl ?_
  exact mq_ P9
theorem x_says_0 {d : Nat} {hi : Nat → Nat → Int32} {hl : Nat → Nat → Int64} {X : lm_X} {hi0 : Nat → Nat → Int32} {hl0 : Nat → Nat → Int64} {C n ts : Nat} {T : lm_T} {R : Nat → Int32} {KO : ab_K} {V : ab_V} {tl F : Nat → Int32} (P : cP hi0 hl0 hi hl X C T n R KO V ts tl F) {B D : Nat} (Z : okZ B D T n R KO V ts tl) {j b : Nat} (hj : j < 8) (hb6 : b ≤ 6) {k : Nat} (hk1 : 1 ≤ k) (hk6 : k ≤ 6) (ek : (V j).1 = nI (10 + k)) (hb0 : b = 0) (hu1 : und k b = true) (hC : C + 25 < 2147483648) : lm_w (d + 30) 88 [.ref 64, .int (nI j), .int (nI b)] (hi, hl, X) (cQ hi0 hl0 X (C + 25) (.int (nI (V j).2.2.1)) T n R KO V ts tl F) := by
  obtain ⟨S, O, H, HR, FO, HV, HT, HF, HK, E0, EL0⟩ := id P
  obtain ⟨hT, hO, hV, hts, htl, hDB, hB0, hKO⟩ := id Z
  have hu := rk_u hk1 hk6 ek
  have h0 : lkR (V j).1 (V j).1 = 0 := lkR_0.mpr ⟨hu, hu⟩
  refine lm_w_in (Nat.le_of_ble_eq_true rfl) ?_
  show lm_wp (d + 30) 88 0 [.ref 64, .int (nI j), .int (nI b), lm_jk, lm_jk] [] (hi, hl, X) _
  refine w_N 1 1 [.ref 64, .int (nI j), .int (nI b), lm_jk, lm_jk] [.int (nI j)] rfl ?_
  refine w_cc rfl (x_isShelf1 (wi_t (n := 7) (Nat.le_of_lt_succ hj) (by decide))) ?_
  show lm_wp _ 88 4 [.ref 64, .int (nI j), .int (nI b), lm_jk, lm_jk] [.int 1] (hi, hl, X) _
  refine w_if_eq_f (t := 17) rfl rfl (by decide) ?_
  refine w_N 3 11 [.ref 64, .int (nI j), .int (nI b), lm_jk, lm_jk] [.int 6, .int 0, .int (nI b)] rfl ?_
  refine w_cc rfl (x_within1 (wi_t (n := 6) hb6 (by decide))) ?_
  show lm_wp _ 88 14 [.ref 64, .int (nI j), .int (nI b), lm_jk, lm_jk] [.int 1] (hi, hl, X) _
  refine w_if_ne_t (t := 24) rfl rfl (by decide) ?_
  refine w_N 3 27 [.ref 64, .int (nI j), .int (nI b), lm_jk, lm_jk] [.int (nI j), .int (nI j), .ref 64] rfl ?_
  refine w_cc (w_vst rfl rfl rfl (Nat.le_of_ble_eq_true rfl) (Nat.le_of_ble_eq_true rfl) (A_k S 64 (by decide))) (lm_c_v (x_lackRules P hj hj) h0) ?_
  show lm_wp _ 88 30 [.ref 64, .int (nI j), .int (nI b), lm_jk, lm_jk] [.int 0] (hi, hl, X) _
  refine w_N 2 32 [.ref 64, .int (nI j), .int (nI b), .int 0, lm_jk] [.int 0] rfl ?_
  refine w_if_eq_t (t := 41) rfl rfl (by decide) ?_
  refine w_N 1 42 [.ref 64, .int (nI j), .int (nI b), .int 0, lm_jk] [.ref 64] rfl ?_
  refine w_gr 97 rfl rfl rfl (A_k S 64 (by decide)) (A_r S 64 5 (by decide)) ?_
  refine w_N 1 46 [.ref 64, .int (nI j), .int (nI b), .int 0, lm_jk] [.int (nI j), .ref 97] rfl ?_
  refine w_aa j (107 + 2 * j) rfl ⟨by rw [A_k S 97 (by decide)]; decide, by rw [A_k S 97 (by decide)]; decide⟩ (show X.2.2.1 97 = 8 from A_l S 97 (by decide)) rfl hj (by decide) (A_sv S hj) ?_
  refine w_N 2 51 [.ref 64, .int (nI j), .int (nI b), .int 0, .ref (107 + 2 * j)] [.ref (107 + 2 * j)] rfl ?_
  refine w_cc (w_vst rfl rfl rfl (Nat.le_of_ble_eq_true rfl) (Nat.le_of_ble_eq_true rfl) (Sf_kd (A_Sf S hj))) (sf_ruleKind (A_Sf S hj) ((HV j hj).1.trans ek) hk6) ?_
  show lm_wp _ 88 54 [.ref 64, .int (nI j), .int (nI b), .int 0, .ref (107 + 2 * j)] [.int (nI k)] (hi, hl, X) _
  refine w_N 1 55 [.ref 64, .int (nI j), .int (nI b), .int 0, .ref (107 + 2 * j)] [.int (nI b), .int (nI k)] rfl ?_
  refine w_cc rfl (lm_c_1 (r_isUnder O.1 hk1 hk6 hb6) hu1) ?_
  show lm_wp _ 88 58 [.ref 64, .int (nI j), .int (nI b), .int 0, .ref (107 + 2 * j)] [.int 1] (hi, hl, X) _
  refine w_if_ne_t (t := 68) rfl rfl (by decide) ?_
  refine w_N 1 69 [.ref 64, .int (nI j), .int (nI b), .int 0, .ref (107 + 2 * j)] [.int (nI b)] rfl ?_
  refine w_if_ne_f (t := 80) rfl rfl (by rw [hb0]; rfl) ?_
  refine w_N 1 74 [.ref 64, .int (nI j), .int (nI b), .int 0, .ref (107 + 2 * j)] [.ref (107 + 2 * j)] rfl ?_
  refine w_gi (v := nI (V j).2.2.1) rfl rfl rfl (Sf_kd (A_Sf S hj)) ((HV j hj).2.2.1) ?_
  refine w_N 1 96 [.ref 64, .int (nI j), .int (nI b), .int 0, .ref (107 + 2 * j)] [.int (nI (V j).2.2.1)] rfl ?_
  refine w_ri rfl rfl ?_
  exact cq_ P (by omega) hC
theorem y_says_0 {d : Nat} {hi : Nat → Nat → Int32} {hl : Nat → Nat → Int64} {X : lm_X} {hi0 : Nat → Nat → Int32} {hl0 : Nat → Nat → Int64} {X0 : lm_X} {n ts : Nat} {T : lm_T} {R : Nat → Int32} {KO : ab_K} {V : ab_V} {tl F : Nat → Int32} (P : mP hi0 hl0 X0 hi hl X T n R KO V ts tl F) {B D : Nat} (Z : okZ B D T n R KO V ts tl) {j b : Nat} (hj : j < 8) (hb6 : b ≤ 6) {k : Nat} (hk1 : 1 ≤ k) (hk6 : k ≤ 6) (ek : (V j).1 = nI (10 + k)) (hb0 : b = 0) (hu1 : und k b = true) : lm_w (d + 30) 148 [.ref 123, .int (nI j), .int (nI b)] (hi, hl, X) (mQ hi0 hl0 X0 (.int (nI (V j).2.2.1)) T n R KO V ts tl F) := by
  obtain ⟨SR, O, H, HR, HV, HT, HF, HK, E0, EL0, EX0⟩ := id P
  have S := SR.1
  obtain ⟨hT, hO, hV, hts, htl, hDB, hB0, hKO⟩ := id Z
  have hu := rk_u hk1 hk6 ek
  have h0 : lkR (V j).1 (V j).1 = 0 := lkR_0.mpr ⟨hu, hu⟩
  refine lm_w_in (Nat.le_of_ble_eq_true rfl) ?_
  show lm_wp (d + 30) 148 0 [.ref 123, .int (nI j), .int (nI b)] [] (hi, hl, X) _
  refine w_N 4 6 [.ref 123, .int (nI j), .int (nI b)] [.long 7, .long 0, .long ((nI j).toInt64)] rfl ?_
  refine w_cc rfl (lm_c_1 (m_in (x := nI j) (lo := 0) (up := 7) rfl (by decide) (by decide)) (wi_t (n := 7) (Nat.le_of_lt_succ hj) (by decide))) ?_
  show lm_wp _ 148 9 [.ref 123, .int (nI j), .int (nI b)] [.int 1] (hi, hl, X) _
  refine w_if_eq_f (t := 24) rfl rfl (by decide) ?_
  refine w_N 4 18 [.ref 123, .int (nI j), .int (nI b)] [.long 6, .long 0, .long ((nI b).toInt64)] rfl ?_
  refine w_cc rfl (lm_c_1 (m_in (x := nI b) (lo := 0) (up := 6) rfl (by decide) (by decide)) (wi_t (n := 6) hb6 (by decide))) ?_
  show lm_wp _ 148 21 [.ref 123, .int (nI j), .int (nI b)] [.int 1] (hi, hl, X) _
  refine w_if_ne_t (t := 31) rfl rfl (by decide) ?_
  refine w_N 1 32 [.ref 123, .int (nI j), .int (nI b)] [.ref 123] rfl ?_
  refine w_gr 124 rfl rfl rfl (M_kd S) (M_r S (k := 0) (o := 1) rfl) ?_
  refine w_N 1 36 [.ref 123, .int (nI j), .int (nI b)] [.int (nI j), .ref 124] rfl ?_
  refine w_ia j (v := 2) rfl (show X.2.1 (124) = 1 from M_k S 1 (by decide)) (show X.2.2.1 (124) = 8 from M_l S 1 (by decide)) rfl hj (by decide) ((HV j hj).1.trans (shK_u hu)) ?_
  refine w_N 1 38 [.ref 123, .int (nI j), .int (nI b)] [.int 1, .int 2] rfl ?_
  refine w_icmp_eq_f (t := 64) rfl rfl (by decide) ?_
  refine w_N 1 42 [.ref 123, .int (nI j), .int (nI b)] [.ref 123] rfl ?_
  refine w_gr 124 rfl rfl rfl (M_kd S) (M_r S (k := 0) (o := 1) rfl) ?_
  refine w_N 1 46 [.ref 123, .int (nI j), .int (nI b)] [.int (nI j), .ref 124] rfl ?_
  refine w_ia j (v := 2) rfl (show X.2.1 (124) = 1 from M_k S 1 (by decide)) (show X.2.2.1 (124) = 8 from M_l S 1 (by decide)) rfl hj (by decide) ((HV j hj).1.trans (shK_u hu)) ?_
  refine w_N 1 48 [.ref 123, .int (nI j), .int (nI b)] [.int 2, .int 2] rfl ?_
  refine w_icmp_ne_f (t := 71) rfl rfl (by decide) ?_
  refine w_N 1 52 [.ref 123, .int (nI j), .int (nI b)] [.ref 123] rfl ?_
  refine w_gr 137 rfl rfl rfl (M_kd S) (M_r S (k := 5) (o := 14) rfl) ?_
  refine w_N 1 56 [.ref 123, .int (nI j), .int (nI b)] [.int (nI j), .ref 137] rfl ?_
  refine w_ia j (v := nI k) rfl (show X.2.1 (137) = 1 from M_k S 14 (by decide)) (show X.2.2.1 (137) = 8 from M_l S 14 (by decide)) rfl hj (by decide) (((HV j hj).2.2.2.1 (rk_u hk1 hk6 ek)).trans (rk_e ek)) ?_
  refine w_N 1 58 [.ref 123, .int (nI j), .int (nI b)] [.int (nI b), .int (nI k)] rfl ?_
  refine w_cc rfl (lm_c_1 (m_isUnder hk6 hb6) hu1) ?_
  show lm_wp _ 148 61 [.ref 123, .int (nI j), .int (nI b)] [.int 1] (hi, hl, X) _
  refine w_if_ne_t (t := 71) rfl rfl (by decide) ?_
  refine w_N 1 72 [.ref 123, .int (nI j), .int (nI b)] [.ref 123] rfl ?_
  refine w_gr 124 rfl rfl rfl (M_kd S) (M_r S (k := 0) (o := 1) rfl) ?_
  refine w_N 1 76 [.ref 123, .int (nI j), .int (nI b)] [.int (nI j), .ref 124] rfl ?_
  refine w_ia j (v := 2) rfl (show X.2.1 (124) = 1 from M_k S 1 (by decide)) (show X.2.2.1 (124) = 8 from M_l S 1 (by decide)) rfl hj (by decide) ((HV j hj).1.trans (shK_u hu)) ?_
  refine w_if_ne_t (t := 87) rfl rfl (by decide) ?_
  refine w_N 1 88 [.ref 123, .int (nI j), .int (nI b)] [.int (nI b)] rfl ?_
  refine w_if_ne_f (t := 100) rfl rfl (by rw [hb0]; rfl) ?_
  refine w_N 1 92 [.ref 123, .int (nI j), .int (nI b)] [.ref 123] rfl ?_
  refine w_gr 138 rfl rfl rfl (M_kd S) (M_r S (k := 6) (o := 15) rfl) ?_
  refine w_N 1 96 [.ref 123, .int (nI j), .int (nI b)] [.int (nI j), .ref 138] rfl ?_
  refine w_ia j (v := nI (V j).2.2.1) rfl (show X.2.1 (138) = 1 from M_k S 15 (by decide)) (show X.2.2.1 (138) = 8 from M_l S 15 (by decide)) rfl hj (by decide) ((HV j hj).2.2.2.2.1) ?_
  refine w_N 1 116 [.ref 123, .int (nI j), .int (nI b)] [.int (nI (V j).2.2.1)] rfl ?_
  refine w_ri rfl rfl ?_
  exact mq_ P
theorem x_says {d : Nat} {hi : Nat → Nat → Int32} {hl : Nat → Nat → Int64} {X : lm_X} {hi0 : Nat → Nat → Int32} {hl0 : Nat → Nat → Int64} {C n ts : Nat} {T : lm_T} {R : Nat → Int32} {KO : ab_K} {V : ab_V} {tl F : Nat → Int32} (P : cP hi0 hl0 hi hl X C T n R KO V ts tl F) {B D : Nat} (Z : okZ B D T n R KO V ts tl) {j b : Nat} (hj : j < 8) (hb6 : b ≤ 6) {k : Nat} (hk1 : 1 ≤ k) (hk6 : k ≤ 6) (ek : (V j).1 = nI (10 + k)) (hb0 : 1 ≤ b) (hu1 : und k b = true) (hC : C + 25 < 2147483648) : lm_w (d + 30) 88 [.ref 64, .int (nI j), .int (nI b)] (hi, hl, X) (cQ hi0 hl0 X (C + 25) (.int (aI (chs T n k (V j).2.2.1 (R 10)))) T n R KO V ts tl F) := by
  obtain ⟨S, O, H, HR, FO, HV, HT, HF, HK, E0, EL0⟩ := id P
  obtain ⟨hT, hO, hV, hts, htl, hDB, hB0, hKO⟩ := id Z
  have hu := rk_u hk1 hk6 ek
  have h0 : lkR (V j).1 (V j).1 = 0 := lkR_0.mpr ⟨hu, hu⟩
  refine lm_w_in (Nat.le_of_ble_eq_true rfl) ?_
  show lm_wp (d + 30) 88 0 [.ref 64, .int (nI j), .int (nI b), lm_jk, lm_jk] [] (hi, hl, X) _
  refine w_N 1 1 [.ref 64, .int (nI j), .int (nI b), lm_jk, lm_jk] [.int (nI j)] rfl ?_
  refine w_cc rfl (x_isShelf1 (wi_t (n := 7) (Nat.le_of_lt_succ hj) (by decide))) ?_
  show lm_wp _ 88 4 [.ref 64, .int (nI j), .int (nI b), lm_jk, lm_jk] [.int 1] (hi, hl, X) _
  refine w_if_eq_f (t := 17) rfl rfl (by decide) ?_
  refine w_N 3 11 [.ref 64, .int (nI j), .int (nI b), lm_jk, lm_jk] [.int 6, .int 0, .int (nI b)] rfl ?_
  refine w_cc rfl (x_within1 (wi_t (n := 6) hb6 (by decide))) ?_
  show lm_wp _ 88 14 [.ref 64, .int (nI j), .int (nI b), lm_jk, lm_jk] [.int 1] (hi, hl, X) _
  refine w_if_ne_t (t := 24) rfl rfl (by decide) ?_
  refine w_N 3 27 [.ref 64, .int (nI j), .int (nI b), lm_jk, lm_jk] [.int (nI j), .int (nI j), .ref 64] rfl ?_
  refine w_cc (w_vst rfl rfl rfl (Nat.le_of_ble_eq_true rfl) (Nat.le_of_ble_eq_true rfl) (A_k S 64 (by decide))) (lm_c_v (x_lackRules P hj hj) h0) ?_
  show lm_wp _ 88 30 [.ref 64, .int (nI j), .int (nI b), lm_jk, lm_jk] [.int 0] (hi, hl, X) _
  refine w_N 2 32 [.ref 64, .int (nI j), .int (nI b), .int 0, lm_jk] [.int 0] rfl ?_
  refine w_if_eq_t (t := 41) rfl rfl (by decide) ?_
  refine w_N 1 42 [.ref 64, .int (nI j), .int (nI b), .int 0, lm_jk] [.ref 64] rfl ?_
  refine w_gr 97 rfl rfl rfl (A_k S 64 (by decide)) (A_r S 64 5 (by decide)) ?_
  refine w_N 1 46 [.ref 64, .int (nI j), .int (nI b), .int 0, lm_jk] [.int (nI j), .ref 97] rfl ?_
  refine w_aa j (107 + 2 * j) rfl ⟨by rw [A_k S 97 (by decide)]; decide, by rw [A_k S 97 (by decide)]; decide⟩ (show X.2.2.1 97 = 8 from A_l S 97 (by decide)) rfl hj (by decide) (A_sv S hj) ?_
  refine w_N 2 51 [.ref 64, .int (nI j), .int (nI b), .int 0, .ref (107 + 2 * j)] [.ref (107 + 2 * j)] rfl ?_
  refine w_cc (w_vst rfl rfl rfl (Nat.le_of_ble_eq_true rfl) (Nat.le_of_ble_eq_true rfl) (Sf_kd (A_Sf S hj))) (sf_ruleKind (A_Sf S hj) ((HV j hj).1.trans ek) hk6) ?_
  show lm_wp _ 88 54 [.ref 64, .int (nI j), .int (nI b), .int 0, .ref (107 + 2 * j)] [.int (nI k)] (hi, hl, X) _
  refine w_N 1 55 [.ref 64, .int (nI j), .int (nI b), .int 0, .ref (107 + 2 * j)] [.int (nI b), .int (nI k)] rfl ?_
  refine w_cc rfl (lm_c_1 (r_isUnder O.1 hk1 hk6 hb6) hu1) ?_
  show lm_wp _ 88 58 [.ref 64, .int (nI j), .int (nI b), .int 0, .ref (107 + 2 * j)] [.int 1] (hi, hl, X) _
  refine w_if_ne_t (t := 68) rfl rfl (by decide) ?_
  refine w_N 1 69 [.ref 64, .int (nI j), .int (nI b), .int 0, .ref (107 + 2 * j)] [.int (nI b)] rfl ?_
  refine w_if_ne_t (t := 80) rfl rfl (fun z => by have := (nI_inj (a := b) (b := 0) (by omega) (by decide)).mp z; omega) ?_
  refine w_N 1 81 [.ref 64, .int (nI j), .int (nI b), .int 0, .ref (107 + 2 * j)] [.ref 64] rfl ?_
  refine w_gr 103 rfl rfl rfl (A_k S 64 (by decide)) (A_r S 64 7 (by decide)) ?_
  refine w_N 2 87 [.ref 64, .int (nI j), .int (nI b), .int 0, .ref (107 + 2 * j)] [.ref 64, .ref (107 + 2 * j), .ref 103] rfl ?_
  refine w_gr 65 rfl rfl rfl (A_k S 64 (by decide)) (A_r S 64 0 (by decide)) ?_
  refine w_gi (v := R 10) rfl rfl rfl (T_kd (A_T65 S)) (HR.1) ?_
  refine w_ca (w_vst rfl rfl rfl (Nat.le_of_ble_eq_true rfl) (Nat.le_of_ble_eq_true rfl) (A_k S 103 (by decide))) (r_choose (d := d + 15) S H FO hT hO.1 (A_Sf S hj) ((HV j hj).1.trans ek) (HV j hj).2.2.1 hk1 hk6 (hV j hj).2.2) ?_
  rintro _ _ ⟨hx1, rfl, rfl, f_hx1, FO_hx1⟩
  have P := cP_fore P (fr_mono f_hx1 (by decide)) FO_hx1
  obtain ⟨S, O, H, HR, FO, HV, HT, HF, HK, E0, EL0⟩ := id P
  show lm_wp _ 88 96 [.ref 64, .int (nI j), .int (nI b), .int 0, .ref (107 + 2 * j)] [.int (aI (chs T n k (V j).2.2.1 (R 10)))] (hx1, hl, X) _
  refine w_ri rfl rfl ?_
  exact cq_ P (by omega) hC
theorem y_says {d : Nat} {hi : Nat → Nat → Int32} {hl : Nat → Nat → Int64} {X : lm_X} {hi0 : Nat → Nat → Int32} {hl0 : Nat → Nat → Int64} {X0 : lm_X} {n ts : Nat} {T : lm_T} {R : Nat → Int32} {KO : ab_K} {V : ab_V} {tl F : Nat → Int32} (P : mP hi0 hl0 X0 hi hl X T n R KO V ts tl F) {B D : Nat} (Z : okZ B D T n R KO V ts tl) {j b : Nat} (hj : j < 8) (hb6 : b ≤ 6) {k : Nat} (hk1 : 1 ≤ k) (hk6 : k ≤ 6) (ek : (V j).1 = nI (10 + k)) (hb0 : 1 ≤ b) (hu1 : und k b = true) : lm_w (d + 30) 148 [.ref 123, .int (nI j), .int (nI b)] (hi, hl, X) (mQ hi0 hl0 X0 (.int (aI (chs T n k (V j).2.2.1 (R 10)))) T n R KO V ts tl F) := by
  obtain ⟨SR, O, H, HR, HV, HT, HF, HK, E0, EL0, EX0⟩ := id P
  have S := SR.1
  obtain ⟨hT, hO, hV, hts, htl, hDB, hB0, hKO⟩ := id Z
  have hu := rk_u hk1 hk6 ek
  have h0 : lkR (V j).1 (V j).1 = 0 := lkR_0.mpr ⟨hu, hu⟩
  refine lm_w_in (Nat.le_of_ble_eq_true rfl) ?_
  show lm_wp (d + 30) 148 0 [.ref 123, .int (nI j), .int (nI b)] [] (hi, hl, X) _
  refine w_N 4 6 [.ref 123, .int (nI j), .int (nI b)] [.long 7, .long 0, .long ((nI j).toInt64)] rfl ?_
  refine w_cc rfl (lm_c_1 (m_in (x := nI j) (lo := 0) (up := 7) rfl (by decide) (by decide)) (wi_t (n := 7) (Nat.le_of_lt_succ hj) (by decide))) ?_
  show lm_wp _ 148 9 [.ref 123, .int (nI j), .int (nI b)] [.int 1] (hi, hl, X) _
  refine w_if_eq_f (t := 24) rfl rfl (by decide) ?_
  refine w_N 4 18 [.ref 123, .int (nI j), .int (nI b)] [.long 6, .long 0, .long ((nI b).toInt64)] rfl ?_
  refine w_cc rfl (lm_c_1 (m_in (x := nI b) (lo := 0) (up := 6) rfl (by decide) (by decide)) (wi_t (n := 6) hb6 (by decide))) ?_
  show lm_wp _ 148 21 [.ref 123, .int (nI j), .int (nI b)] [.int 1] (hi, hl, X) _
  refine w_if_ne_t (t := 31) rfl rfl (by decide) ?_
  refine w_N 1 32 [.ref 123, .int (nI j), .int (nI b)] [.ref 123] rfl ?_
  refine w_gr 124 rfl rfl rfl (M_kd S) (M_r S (k := 0) (o := 1) rfl) ?_
  refine w_N 1 36 [.ref 123, .int (nI j), .int (nI b)] [.int (nI j), .ref 124] rfl ?_
  refine w_ia j (v := 2) rfl (show X.2.1 (124) = 1 from M_k S 1 (by decide)) (show X.2.2.1 (124) = 8 from M_l S 1 (by decide)) rfl hj (by decide) ((HV j hj).1.trans (shK_u hu)) ?_
  refine w_N 1 38 [.ref 123, .int (nI j), .int (nI b)] [.int 1, .int 2] rfl ?_
  refine w_icmp_eq_f (t := 64) rfl rfl (by decide) ?_
  refine w_N 1 42 [.ref 123, .int (nI j), .int (nI b)] [.ref 123] rfl ?_
  refine w_gr 124 rfl rfl rfl (M_kd S) (M_r S (k := 0) (o := 1) rfl) ?_
  refine w_N 1 46 [.ref 123, .int (nI j), .int (nI b)] [.int (nI j), .ref 124] rfl ?_
  refine w_ia j (v := 2) rfl (show X.2.1 (124) = 1 from M_k S 1 (by decide)) (show X.2.2.1 (124) = 8 from M_l S 1 (by decide)) rfl hj (by decide) ((HV j hj).1.trans (shK_u hu)) ?_
  refine w_N 1 48 [.ref 123, .int (nI j), .int (nI b)] [.int 2, .int 2] rfl ?_
  refine w_icmp_ne_f (t := 71) rfl rfl (by decide) ?_
  refine w_N 1 52 [.ref 123, .int (nI j), .int (nI b)] [.ref 123] rfl ?_
  refine w_gr 137 rfl rfl rfl (M_kd S) (M_r S (k := 5) (o := 14) rfl) ?_
  refine w_N 1 56 [.ref 123, .int (nI j), .int (nI b)] [.int (nI j), .ref 137] rfl ?_
  refine w_ia j (v := nI k) rfl (show X.2.1 (137) = 1 from M_k S 14 (by decide)) (show X.2.2.1 (137) = 8 from M_l S 14 (by decide)) rfl hj (by decide) (((HV j hj).2.2.2.1 (rk_u hk1 hk6 ek)).trans (rk_e ek)) ?_
  refine w_N 1 58 [.ref 123, .int (nI j), .int (nI b)] [.int (nI b), .int (nI k)] rfl ?_
  refine w_cc rfl (lm_c_1 (m_isUnder hk6 hb6) hu1) ?_
  show lm_wp _ 148 61 [.ref 123, .int (nI j), .int (nI b)] [.int 1] (hi, hl, X) _
  refine w_if_ne_t (t := 71) rfl rfl (by decide) ?_
  refine w_N 1 72 [.ref 123, .int (nI j), .int (nI b)] [.ref 123] rfl ?_
  refine w_gr 124 rfl rfl rfl (M_kd S) (M_r S (k := 0) (o := 1) rfl) ?_
  refine w_N 1 76 [.ref 123, .int (nI j), .int (nI b)] [.int (nI j), .ref 124] rfl ?_
  refine w_ia j (v := 2) rfl (show X.2.1 (124) = 1 from M_k S 1 (by decide)) (show X.2.2.1 (124) = 8 from M_l S 1 (by decide)) rfl hj (by decide) ((HV j hj).1.trans (shK_u hu)) ?_
  refine w_if_ne_t (t := 87) rfl rfl (by decide) ?_
  refine w_N 1 88 [.ref 123, .int (nI j), .int (nI b)] [.int (nI b)] rfl ?_
  refine w_if_ne_t (t := 100) rfl rfl (fun z => by have := (nI_inj (a := b) (b := 0) (by omega) (by decide)).mp z; omega) ?_
  refine w_N 2 102 [.ref 123, .int (nI j), .int (nI b)] [.ref 123, .ref 123] rfl ?_
  refine w_gr 137 rfl rfl rfl (M_kd S) (M_r S (k := 5) (o := 14) rfl) ?_
  refine w_N 1 106 [.ref 123, .int (nI j), .int (nI b)] [.int (nI j), .ref 137, .ref 123] rfl ?_
  refine w_ia j (v := nI k) rfl (show X.2.1 (137) = 1 from M_k S 14 (by decide)) (show X.2.2.1 (137) = 8 from M_l S 14 (by decide)) rfl hj (by decide) (((HV j hj).2.2.2.1 (rk_u hk1 hk6 ek)).trans (rk_e ek)) ?_
  refine w_N 1 108 [.ref 123, .int (nI j), .int (nI b)] [.ref 123, .int (nI k), .ref 123] rfl ?_
  refine w_gr 138 rfl rfl rfl (M_kd S) (M_r S (k := 6) (o := 15) rfl) ?_
  refine w_N 1 112 [.ref 123, .int (nI j), .int (nI b)] [.int (nI j), .ref 138, .int (nI k), .ref 123] rfl ?_
  refine w_ia j (v := nI (V j).2.2.1) rfl (show X.2.1 (138) = 1 from M_k S 15 (by decide)) (show X.2.2.1 (138) = 8 from M_l S 15 (by decide)) rfl hj (by decide) ((HV j hj).2.2.2.2.1) ?_
  refine w_ca (w_vst rfl rfl rfl (Nat.le_of_ble_eq_true rfl) (Nat.le_of_ble_eq_true rfl) (M_kd S)) (m_chosen (d := d + 22) (kd := k) S H HR.1 hT (HR.2.2.1.trans hO.2.2.1) hO.2.2.2.1 (by omega) (hV j hj).2.2 hk1 hk6 rfl rfl) ?_
  rintro _ _ ⟨hx2, rfl, rfl, f_hx2⟩
  have P := mP_scr P f_hx2
  obtain ⟨SR, O, H, HR, HV, HT, HF, HK, E0, EL0, EX0⟩ := id P
  have S := SR.1
  show lm_wp _ 148 116 [.ref 123, .int (nI j), .int (nI b)] [.int (aI (chs T n k (V j).2.2.1 (R 10)))] (hx2, hl, X) _
  refine w_ri rfl rfl ?_
  exact mq_ P
theorem st_says {B D : Nat} {n ts : Nat} {T : lm_T} {R : Nat → Int32} {KO : ab_K} {V : ab_V} {tl F : Nat → Int32} {s kd : Int32} (Z : okZ B D T n R KO V ts tl) (hB : B + 20 < 2000000) : STEP B 88 148 [.int s, .int kd] T n R KO V ts tl F := by
  obtain ⟨hT, hO, hV, hts, htl, hDB, hB0, hKO⟩ := id Z
  by_cases hb : (wi s 0 7 && wi kd 0 6) = false
  · exact ⟨_, D, _, _, _, _, _, _, _, _, okZ_up Z hB, fun _ _ _ _ _ _ P hC => x_says_b (d := 10) P hb hC, fun _ _ _ _ _ _ P => y_says_b (d := 10) P hb⟩
  · obtain ⟨h1, h2⟩ := and2_t hb
    obtain ⟨j, rfl, hj⟩ := wi_e (n := 7) h1 (by decide)
    obtain ⟨b, rfl, hb6⟩ := wi_e (n := 6) h2 (by decide)
    by_cases h0 : lkR (V j).1 (V j).1 = 0
    · obtain ⟨k, k1, k6, ek⟩ := (okC_rule (hV j (by omega)).1).mp (lkR_0.mp h0).1
      cases hu : und k b
      · exact ⟨_, D, _, _, _, _, _, _, _, _, okZ_up Z hB, fun _ _ _ _ _ _ P hC => x_says_u (d := 10) P (by omega) hb6 k1 k6 ek hu hC, fun _ _ _ _ _ _ P => y_says_u (d := 10) P (by omega) hb6 k1 k6 ek hu⟩
      · by_cases hb0 : b = 0
        · exact ⟨_, D, _, _, _, _, _, _, _, _, okZ_up Z hB, fun _ _ _ _ _ _ P hC => x_says_0 (d := 10) P Z (by omega) hb6 k1 k6 ek hb0 hu hC, fun _ _ _ _ _ _ P => y_says_0 (d := 10) P Z (by omega) hb6 k1 k6 ek hb0 hu⟩
        · exact ⟨_, D, _, _, _, _, _, _, _, _, okZ_up Z hB, fun _ _ _ _ _ _ P hC => x_says (d := 10) P Z (by omega) hb6 k1 k6 ek (by omega) hu hC, fun _ _ _ _ _ _ P => y_says (d := 10) P Z (by omega) hb6 k1 k6 ek (by omega) hu⟩
    · exact ⟨_, D, _, _, _, _, _, _, _, _, okZ_up Z hB, fun _ _ _ _ _ _ P hC => x_says_l (d := 10) P (by omega) hb6 h0 hC, fun _ _ _ _ _ _ P => y_says_l (d := 10) P (by omega) hb6 h0⟩
theorem x_act_b {d : Nat} {hi : Nat → Nat → Int32} {hl : Nat → Nat → Int64} {X : lm_X} {hi0 : Nat → Nat → Int32} {hl0 : Nat → Nat → Int64} {C n ts : Nat} {T : lm_T} {R : Nat → Int32} {KO : ab_K} {V : ab_V} {tl F : Nat → Int32} (P : cP hi0 hl0 hi hl X C T n R KO V ts tl F) {x0 x1 x2 x3 x4 x5 : Int32}  (hb : (wi x0 0 5 && wi x1 0 7 && wi x2 0 3 && wi x3 1 9 && wi x4 0 255 && wi x5 0 255) = false) (hC : C + 25 < 2147483648) : lm_w (d + 30) 89 [.ref 64, .int x0, .int x1, .int x2, .int x3, .int x4, .int x5] (hi, hl, X) (cQ hi0 hl0 X (C + 25) (.int (-2)) T n R KO V ts tl (rfU F (-2))) := by
  obtain ⟨S, O, H, HR, FO, HV, HT, HF, HK, E0, EL0⟩ := id P
  refine lm_w_in (Nat.le_of_ble_eq_true rfl) ?_
  show lm_wp (d + 30) 89 0 [.ref 64, .int x0, .int x1, .int x2, .int x3, .int x4, .int x5, lm_jk, lm_jk] [] (hi, hl, X) _
  refine w_N 3 3 [.ref 64, .int x0, .int x1, .int x2, .int x3, .int x4, .int x5, lm_jk, lm_jk] [.int 5, .int 0, .int x0] rfl ?_
  refine w_cc rfl x_within ?_
  show lm_wp _ 89 6 [.ref 64, .int x0, .int x1, .int x2, .int x3, .int x4, .int x5, lm_jk, lm_jk] [.int (bz (wi x0 0 5))] (hi, hl, X) _
  refine w_zeq (t := 32) rfl rfl (fun c1 => ?_) (fun c1 => ?_)
  · refine w_N 5 41 [.ref 64, .int x0, .int x1, .int x2, .int x3, .int x4, .int x5, .int 0, lm_jk] [.int 255, .int 0, .int x4] rfl ?_
    refine w_cc rfl x_within ?_
    show lm_wp _ 89 44 [.ref 64, .int x0, .int x1, .int x2, .int x3, .int x4, .int x5, .int 0, lm_jk] [.int (bz (wi x4 0 255))] (hi, hl, X) _
    refine w_zeq (t := 63) rfl rfl (fun c2 => ?_) (fun c2 => ?_)
    · refine w_N 3 68 [.ref 64, .int x0, .int x1, .int x2, .int x3, .int x4, .int x5, .int 0, .int 0] [.int 0] rfl ?_
      refine w_if_eq_t (t := 87) rfl rfl (by decide) ?_
      refine w_N 2 90 [.ref 64, .int x0, .int x1, .int x2, .int x3, .int x4, .int x5, .int 0, .int 0] [.int (-2), .ref 64] rfl ?_
      refine w_ca (w_vst rfl rfl rfl (Nat.le_of_ble_eq_true rfl) (Nat.le_of_ble_eq_true rfl) (A_k S 64 (by decide))) (x_refuse P (by unfold isW; decide)) ?_
      rintro _ _ ⟨rfl, hi9, rfl, P9⟩
      show lm_wp _ 89 93 [.ref 64, .int x0, .int x1, .int x2, .int x3, .int x4, .int x5, .int 0, .int 0] [.int (-2)] (hi9, hl, X) _
      refine w_ri rfl rfl ?_
      exact cq_ P9 (by omega) hC
    · refine w_N 3 53 [.ref 64, .int x0, .int x1, .int x2, .int x3, .int x4, .int x5, .int 0, lm_jk] [.int 255, .int 0, .int x5] rfl ?_
      refine w_cc rfl x_within ?_
      show lm_wp _ 89 56 [.ref 64, .int x0, .int x1, .int x2, .int x3, .int x4, .int x5, .int 0, lm_jk] [.int (bz (wi x5 0 255))] (hi, hl, X) _
      refine w_zeq (t := 63) rfl rfl (fun c3 => ?_) (fun c3 => ?_)
      · refine w_N 3 68 [.ref 64, .int x0, .int x1, .int x2, .int x3, .int x4, .int x5, .int 0, .int 0] [.int 0] rfl ?_
        refine w_if_eq_t (t := 87) rfl rfl (by decide) ?_
        refine w_N 2 90 [.ref 64, .int x0, .int x1, .int x2, .int x3, .int x4, .int x5, .int 0, .int 0] [.int (-2), .ref 64] rfl ?_
        refine w_ca (w_vst rfl rfl rfl (Nat.le_of_ble_eq_true rfl) (Nat.le_of_ble_eq_true rfl) (A_k S 64 (by decide))) (x_refuse P (by unfold isW; decide)) ?_
        rintro _ _ ⟨rfl, hi9, rfl, P9⟩
        show lm_wp _ 89 93 [.ref 64, .int x0, .int x1, .int x2, .int x3, .int x4, .int x5, .int 0, .int 0] [.int (-2)] (hi9, hl, X) _
        refine w_ri rfl rfl ?_
        exact cq_ P9 (by omega) hC
      · refine w_N 4 68 [.ref 64, .int x0, .int x1, .int x2, .int x3, .int x4, .int x5, .int 0, .int 1] [.int 0] rfl ?_
        refine w_if_eq_t (t := 87) rfl rfl (by decide) ?_
        refine w_N 2 90 [.ref 64, .int x0, .int x1, .int x2, .int x3, .int x4, .int x5, .int 0, .int 1] [.int (-2), .ref 64] rfl ?_
        refine w_ca (w_vst rfl rfl rfl (Nat.le_of_ble_eq_true rfl) (Nat.le_of_ble_eq_true rfl) (A_k S 64 (by decide))) (x_refuse P (by unfold isW; decide)) ?_
        rintro _ _ ⟨rfl, hi9, rfl, P9⟩
        show lm_wp _ 89 93 [.ref 64, .int x0, .int x1, .int x2, .int x3, .int x4, .int x5, .int 0, .int 1] [.int (-2)] (hi9, hl, X) _
        refine w_ri rfl rfl ?_
        exact cq_ P9 (by omega) hC
  · refine w_N 3 13 [.ref 64, .int x0, .int x1, .int x2, .int x3, .int x4, .int x5, lm_jk, lm_jk] [.int 7, .int 0, .int x1] rfl ?_
    refine w_cc rfl x_within ?_
    show lm_wp _ 89 16 [.ref 64, .int x0, .int x1, .int x2, .int x3, .int x4, .int x5, lm_jk, lm_jk] [.int (bz (wi x1 0 7))] (hi, hl, X) _
    refine w_zeq (t := 32) rfl rfl (fun c4 => ?_) (fun c4 => ?_)
    · refine w_N 5 41 [.ref 64, .int x0, .int x1, .int x2, .int x3, .int x4, .int x5, .int 0, lm_jk] [.int 255, .int 0, .int x4] rfl ?_
      refine w_cc rfl x_within ?_
      show lm_wp _ 89 44 [.ref 64, .int x0, .int x1, .int x2, .int x3, .int x4, .int x5, .int 0, lm_jk] [.int (bz (wi x4 0 255))] (hi, hl, X) _
      refine w_zeq (t := 63) rfl rfl (fun c5 => ?_) (fun c5 => ?_)
      · refine w_N 3 68 [.ref 64, .int x0, .int x1, .int x2, .int x3, .int x4, .int x5, .int 0, .int 0] [.int 0] rfl ?_
        refine w_if_eq_t (t := 87) rfl rfl (by decide) ?_
        refine w_N 2 90 [.ref 64, .int x0, .int x1, .int x2, .int x3, .int x4, .int x5, .int 0, .int 0] [.int (-2), .ref 64] rfl ?_
        refine w_ca (w_vst rfl rfl rfl (Nat.le_of_ble_eq_true rfl) (Nat.le_of_ble_eq_true rfl) (A_k S 64 (by decide))) (x_refuse P (by unfold isW; decide)) ?_
        rintro _ _ ⟨rfl, hi9, rfl, P9⟩
        show lm_wp _ 89 93 [.ref 64, .int x0, .int x1, .int x2, .int x3, .int x4, .int x5, .int 0, .int 0] [.int (-2)] (hi9, hl, X) _
        refine w_ri rfl rfl ?_
        exact cq_ P9 (by omega) hC
      · refine w_N 3 53 [.ref 64, .int x0, .int x1, .int x2, .int x3, .int x4, .int x5, .int 0, lm_jk] [.int 255, .int 0, .int x5] rfl ?_
        refine w_cc rfl x_within ?_
        show lm_wp _ 89 56 [.ref 64, .int x0, .int x1, .int x2, .int x3, .int x4, .int x5, .int 0, lm_jk] [.int (bz (wi x5 0 255))] (hi, hl, X) _
        refine w_zeq (t := 63) rfl rfl (fun c6 => ?_) (fun c6 => ?_)
        · refine w_N 3 68 [.ref 64, .int x0, .int x1, .int x2, .int x3, .int x4, .int x5, .int 0, .int 0] [.int 0] rfl ?_
          refine w_if_eq_t (t := 87) rfl rfl (by decide) ?_
          refine w_N 2 90 [.ref 64, .int x0, .int x1, .int x2, .int x3, .int x4, .int x5, .int 0, .int 0] [.int (-2), .ref 64] rfl ?_
          refine w_ca (w_vst rfl rfl rfl (Nat.le_of_ble_eq_true rfl) (Nat.le_of_ble_eq_true rfl) (A_k S 64 (by decide))) (x_refuse P (by unfold isW; decide)) ?_
          rintro _ _ ⟨rfl, hi9, rfl, P9⟩
          show lm_wp _ 89 93 [.ref 64, .int x0, .int x1, .int x2, .int x3, .int x4, .int x5, .int 0, .int 0] [.int (-2)] (hi9, hl, X) _
          refine w_ri rfl rfl ?_
          exact cq_ P9 (by omega) hC
        · refine w_N 4 68 [.ref 64, .int x0, .int x1, .int x2, .int x3, .int x4, .int x5, .int 0, .int 1] [.int 0] rfl ?_
          refine w_if_eq_t (t := 87) rfl rfl (by decide) ?_
          refine w_N 2 90 [.ref 64, .int x0, .int x1, .int x2, .int x3, .int x4, .int x5, .int 0, .int 1] [.int (-2), .ref 64] rfl ?_
          refine w_ca (w_vst rfl rfl rfl (Nat.le_of_ble_eq_true rfl) (Nat.le_of_ble_eq_true rfl) (A_k S 64 (by decide))) (x_refuse P (by unfold isW; decide)) ?_
          rintro _ _ ⟨rfl, hi9, rfl, P9⟩
          show lm_wp _ 89 93 [.ref 64, .int x0, .int x1, .int x2, .int x3, .int x4, .int x5, .int 0, .int 1] [.int (-2)] (hi9, hl, X) _
          refine w_ri rfl rfl ?_
          exact cq_ P9 (by omega) hC
    · refine w_N 3 22 [.ref 64, .int x0, .int x1, .int x2, .int x3, .int x4, .int x5, lm_jk, lm_jk] [.int 3, .int 0, .int x2] rfl ?_
      refine w_cc rfl x_within ?_
      show lm_wp _ 89 25 [.ref 64, .int x0, .int x1, .int x2, .int x3, .int x4, .int x5, lm_jk, lm_jk] [.int (bz (wi x2 0 3))] (hi, hl, X) _
      refine w_zeq (t := 32) rfl rfl (fun c7 => ?_) (fun c7 => ?_)
      · refine w_N 5 41 [.ref 64, .int x0, .int x1, .int x2, .int x3, .int x4, .int x5, .int 0, lm_jk] [.int 255, .int 0, .int x4] rfl ?_
        refine w_cc rfl x_within ?_
        show lm_wp _ 89 44 [.ref 64, .int x0, .int x1, .int x2, .int x3, .int x4, .int x5, .int 0, lm_jk] [.int (bz (wi x4 0 255))] (hi, hl, X) _
        refine w_zeq (t := 63) rfl rfl (fun c8 => ?_) (fun c8 => ?_)
        · refine w_N 3 68 [.ref 64, .int x0, .int x1, .int x2, .int x3, .int x4, .int x5, .int 0, .int 0] [.int 0] rfl ?_
          refine w_if_eq_t (t := 87) rfl rfl (by decide) ?_
          refine w_N 2 90 [.ref 64, .int x0, .int x1, .int x2, .int x3, .int x4, .int x5, .int 0, .int 0] [.int (-2), .ref 64] rfl ?_
          refine w_ca (w_vst rfl rfl rfl (Nat.le_of_ble_eq_true rfl) (Nat.le_of_ble_eq_true rfl) (A_k S 64 (by decide))) (x_refuse P (by unfold isW; decide)) ?_
          rintro _ _ ⟨rfl, hi9, rfl, P9⟩
          show lm_wp _ 89 93 [.ref 64, .int x0, .int x1, .int x2, .int x3, .int x4, .int x5, .int 0, .int 0] [.int (-2)] (hi9, hl, X) _
          refine w_ri rfl rfl ?_
          exact cq_ P9 (by omega) hC
        · refine w_N 3 53 [.ref 64, .int x0, .int x1, .int x2, .int x3, .int x4, .int x5, .int 0, lm_jk] [.int 255, .int 0, .int x5] rfl ?_
          refine w_cc rfl x_within ?_
          show lm_wp _ 89 56 [.ref 64, .int x0, .int x1, .int x2, .int x3, .int x4, .int x5, .int 0, lm_jk] [.int (bz (wi x5 0 255))] (hi, hl, X) _
          refine w_zeq (t := 63) rfl rfl (fun c9 => ?_) (fun c9 => ?_)
          · refine w_N 3 68 [.ref 64, .int x0, .int x1, .int x2, .int x3, .int x4, .int x5, .int 0, .int 0] [.int 0] rfl ?_
            refine w_if_eq_t (t := 87) rfl rfl (by decide) ?_
            refine w_N 2 90 [.ref 64, .int x0, .int x1, .int x2, .int x3, .int x4, .int x5, .int 0, .int 0] [.int (-2), .ref 64] rfl ?_
            refine w_ca (w_vst rfl rfl rfl (Nat.le_of_ble_eq_true rfl) (Nat.le_of_ble_eq_true rfl) (A_k S 64 (by decide))) (x_refuse P (by unfold isW; decide)) ?_
            rintro _ _ ⟨rfl, hi9, rfl, P9⟩
            show lm_wp _ 89 93 [.ref 64, .int x0, .int x1, .int x2, .int x3, .int x4, .int x5, .int 0, .int 0] [.int (-2)] (hi9, hl, X) _
            refine w_ri rfl rfl ?_
            exact cq_ P9 (by omega) hC
          · refine w_N 4 68 [.ref 64, .int x0, .int x1, .int x2, .int x3, .int x4, .int x5, .int 0, .int 1] [.int 0] rfl ?_
            refine w_if_eq_t (t := 87) rfl rfl (by decide) ?_
            refine w_N 2 90 [.ref 64, .int x0, .int x1, .int x2, .int x3, .int x4, .int x5, .int 0, .int 1] [.int (-2), .ref 64] rfl ?_
            refine w_ca (w_vst rfl rfl rfl (Nat.le_of_ble_eq_true rfl) (Nat.le_of_ble_eq_true rfl) (A_k S 64 (by decide))) (x_refuse P (by unfold isW; decide)) ?_
            rintro _ _ ⟨rfl, hi9, rfl, P9⟩
            show lm_wp _ 89 93 [.ref 64, .int x0, .int x1, .int x2, .int x3, .int x4, .int x5, .int 0, .int 1] [.int (-2)] (hi9, hl, X) _
            refine w_ri rfl rfl ?_
            exact cq_ P9 (by omega) hC
      · refine w_N 6 41 [.ref 64, .int x0, .int x1, .int x2, .int x3, .int x4, .int x5, .int 1, lm_jk] [.int 255, .int 0, .int x4] rfl ?_
        refine w_cc rfl x_within ?_
        show lm_wp _ 89 44 [.ref 64, .int x0, .int x1, .int x2, .int x3, .int x4, .int x5, .int 1, lm_jk] [.int (bz (wi x4 0 255))] (hi, hl, X) _
        refine w_zeq (t := 63) rfl rfl (fun c10 => ?_) (fun c10 => ?_)
        · refine w_N 3 68 [.ref 64, .int x0, .int x1, .int x2, .int x3, .int x4, .int x5, .int 1, .int 0] [.int 1] rfl ?_
          refine w_if_eq_f (t := 87) rfl rfl (by decide) ?_
          refine w_N 3 76 [.ref 64, .int x0, .int x1, .int x2, .int x3, .int x4, .int x5, .int 1, .int 0] [.int 9, .int 1, .int x3] rfl ?_
          refine w_cc rfl x_within ?_
          show lm_wp _ 89 79 [.ref 64, .int x0, .int x1, .int x2, .int x3, .int x4, .int x5, .int 1, .int 0] [.int (bz (wi x3 1 9))] (hi, hl, X) _
          refine w_zeq (t := 87) rfl rfl (fun c11 => ?_) (fun c11 => ?_)
          · refine w_N 2 90 [.ref 64, .int x0, .int x1, .int x2, .int x3, .int x4, .int x5, .int 1, .int 0] [.int (-2), .ref 64] rfl ?_
            refine w_ca (w_vst rfl rfl rfl (Nat.le_of_ble_eq_true rfl) (Nat.le_of_ble_eq_true rfl) (A_k S 64 (by decide))) (x_refuse P (by unfold isW; decide)) ?_
            rintro _ _ ⟨rfl, hi9, rfl, P9⟩
            show lm_wp _ 89 93 [.ref 64, .int x0, .int x1, .int x2, .int x3, .int x4, .int x5, .int 1, .int 0] [.int (-2)] (hi9, hl, X) _
            refine w_ri rfl rfl ?_
            exact cq_ P9 (by omega) hC
          · refine w_N 1 84 [.ref 64, .int x0, .int x1, .int x2, .int x3, .int x4, .int x5, .int 1, .int 0] [.int 0] rfl ?_
            refine w_if_ne_f (t := 94) rfl rfl (by decide) ?_
            refine w_N 2 90 [.ref 64, .int x0, .int x1, .int x2, .int x3, .int x4, .int x5, .int 1, .int 0] [.int (-2), .ref 64] rfl ?_
            refine w_ca (w_vst rfl rfl rfl (Nat.le_of_ble_eq_true rfl) (Nat.le_of_ble_eq_true rfl) (A_k S 64 (by decide))) (x_refuse P (by unfold isW; decide)) ?_
            rintro _ _ ⟨rfl, hi9, rfl, P9⟩
            show lm_wp _ 89 93 [.ref 64, .int x0, .int x1, .int x2, .int x3, .int x4, .int x5, .int 1, .int 0] [.int (-2)] (hi9, hl, X) _
            refine w_ri rfl rfl ?_
            exact cq_ P9 (by omega) hC
        · refine w_N 3 53 [.ref 64, .int x0, .int x1, .int x2, .int x3, .int x4, .int x5, .int 1, lm_jk] [.int 255, .int 0, .int x5] rfl ?_
          refine w_cc rfl x_within ?_
          show lm_wp _ 89 56 [.ref 64, .int x0, .int x1, .int x2, .int x3, .int x4, .int x5, .int 1, lm_jk] [.int (bz (wi x5 0 255))] (hi, hl, X) _
          refine w_zeq (t := 63) rfl rfl (fun c12 => ?_) (fun c12 => ?_)
          · refine w_N 3 68 [.ref 64, .int x0, .int x1, .int x2, .int x3, .int x4, .int x5, .int 1, .int 0] [.int 1] rfl ?_
            refine w_if_eq_f (t := 87) rfl rfl (by decide) ?_
            refine w_N 3 76 [.ref 64, .int x0, .int x1, .int x2, .int x3, .int x4, .int x5, .int 1, .int 0] [.int 9, .int 1, .int x3] rfl ?_
            refine w_cc rfl x_within ?_
            show lm_wp _ 89 79 [.ref 64, .int x0, .int x1, .int x2, .int x3, .int x4, .int x5, .int 1, .int 0] [.int (bz (wi x3 1 9))] (hi, hl, X) _
            refine w_zeq (t := 87) rfl rfl (fun c13 => ?_) (fun c13 => ?_)
            · refine w_N 2 90 [.ref 64, .int x0, .int x1, .int x2, .int x3, .int x4, .int x5, .int 1, .int 0] [.int (-2), .ref 64] rfl ?_
              refine w_ca (w_vst rfl rfl rfl (Nat.le_of_ble_eq_true rfl) (Nat.le_of_ble_eq_true rfl) (A_k S 64 (by decide))) (x_refuse P (by unfold isW; decide)) ?_
              rintro _ _ ⟨rfl, hi9, rfl, P9⟩
              show lm_wp _ 89 93 [.ref 64, .int x0, .int x1, .int x2, .int x3, .int x4, .int x5, .int 1, .int 0] [.int (-2)] (hi9, hl, X) _
              refine w_ri rfl rfl ?_
              exact cq_ P9 (by omega) hC
            · refine w_N 1 84 [.ref 64, .int x0, .int x1, .int x2, .int x3, .int x4, .int x5, .int 1, .int 0] [.int 0] rfl ?_
              refine w_if_ne_f (t := 94) rfl rfl (by decide) ?_
              refine w_N 2 90 [.ref 64, .int x0, .int x1, .int x2, .int x3, .int x4, .int x5, .int 1, .int 0] [.int (-2), .ref 64] rfl ?_
              refine w_ca (w_vst rfl rfl rfl (Nat.le_of_ble_eq_true rfl) (Nat.le_of_ble_eq_true rfl) (A_k S 64 (by decide))) (x_refuse P (by unfold isW; decide)) ?_
              rintro _ _ ⟨rfl, hi9, rfl, P9⟩
              show lm_wp _ 89 93 [.ref 64, .int x0, .int x1, .int x2, .int x3, .int x4, .int x5, .int 1, .int 0] [.int (-2)] (hi9, hl, X) _
              refine w_ri rfl rfl ?_
              exact cq_ P9 (by omega) hC
          · refine w_N 4 68 [.ref 64, .int x0, .int x1, .int x2, .int x3, .int x4, .int x5, .int 1, .int 1] [.int 1] rfl ?_
            refine w_if_eq_f (t := 87) rfl rfl (by decide) ?_
            refine w_N 3 76 [.ref 64, .int x0, .int x1, .int x2, .int x3, .int x4, .int x5, .int 1, .int 1] [.int 9, .int 1, .int x3] rfl ?_
            refine w_cc rfl x_within ?_
            show lm_wp _ 89 79 [.ref 64, .int x0, .int x1, .int x2, .int x3, .int x4, .int x5, .int 1, .int 1] [.int (bz (wi x3 1 9))] (hi, hl, X) _
            refine w_zeq (t := 87) rfl rfl (fun c14 => ?_) (fun c14 => ?_)
            · refine w_N 2 90 [.ref 64, .int x0, .int x1, .int x2, .int x3, .int x4, .int x5, .int 1, .int 1] [.int (-2), .ref 64] rfl ?_
              refine w_ca (w_vst rfl rfl rfl (Nat.le_of_ble_eq_true rfl) (Nat.le_of_ble_eq_true rfl) (A_k S 64 (by decide))) (x_refuse P (by unfold isW; decide)) ?_
              rintro _ _ ⟨rfl, hi9, rfl, P9⟩
              show lm_wp _ 89 93 [.ref 64, .int x0, .int x1, .int x2, .int x3, .int x4, .int x5, .int 1, .int 1] [.int (-2)] (hi9, hl, X) _
              refine w_ri rfl rfl ?_
              exact cq_ P9 (by omega) hC
            · refine w_N 1 84 [.ref 64, .int x0, .int x1, .int x2, .int x3, .int x4, .int x5, .int 1, .int 1] [.int 1] rfl ?_
              refine w_if_ne_t (t := 94) rfl rfl (by decide) ?_
              exact absurd hb (by simp [c1, c4, c7, c10, c12, c14])
theorem y_act_b {d : Nat} {hi : Nat → Nat → Int32} {hl : Nat → Nat → Int64} {X : lm_X} {hi0 : Nat → Nat → Int32} {hl0 : Nat → Nat → Int64} {X0 : lm_X} {n ts : Nat} {T : lm_T} {R : Nat → Int32} {KO : ab_K} {V : ab_V} {tl F : Nat → Int32} (P : mP hi0 hl0 X0 hi hl X T n R KO V ts tl F) {x0 x1 x2 x3 x4 x5 : Int32}  (hb : (wi x0 0 5 && wi x1 0 7 && wi x2 0 3 && wi x3 1 9 && wi x4 0 255 && wi x5 0 255) = false) : lm_w (d + 30) 149 [.ref 123, .int x0, .int x1, .int x2, .int x3, .int x4, .int x5] (hi, hl, X) (mQ hi0 hl0 X0 (.int (-2)) T n R KO V ts tl (rfU F (-2))) := by
  obtain ⟨SR, O, H, HR, HV, HT, HF, HK, E0, EL0, EX0⟩ := id P
  have S := SR.1
  refine lm_w_in (Nat.le_of_ble_eq_true rfl) ?_
  show lm_wp (d + 30) 149 0 [.ref 123, .int x0, .int x1, .int x2, .int x3, .int x4, .int x5, lm_jk, lm_jk] [] (hi, hl, X) _
  refine w_N 4 6 [.ref 123, .int x0, .int x1, .int x2, .int x3, .int x4, .int x5, lm_jk, lm_jk] [.long 5, .long 0, .long x0.toInt64] rfl ?_
  refine w_cc rfl (m_in (x := x0) (lo := 0) (up := 5) rfl (by decide) (by decide)) ?_
  show lm_wp _ 149 9 [.ref 123, .int x0, .int x1, .int x2, .int x3, .int x4, .int x5, lm_jk, lm_jk] [.int (bz (wi x0 0 5))] (hi, hl, X) _
  refine w_zeq (t := 53) rfl rfl (fun c1 => ?_) (fun c1 => ?_)
  · refine w_N 3 58 [.ref 123, .int x0, .int x1, .int x2, .int x3, .int x4, .int x5, .int 0, lm_jk] [.int 0] rfl ?_
    refine w_if_eq_t (t := 87) rfl rfl (by decide) ?_
    refine w_N 2 90 [.ref 123, .int x0, .int x1, .int x2, .int x3, .int x4, .int x5, .int 0, lm_jk] [.int (-2), .ref 123] rfl ?_
    refine w_ca (w_vst rfl rfl rfl (Nat.le_of_ble_eq_true rfl) (Nat.le_of_ble_eq_true rfl) (M_kd S)) (m_refuse P (by unfold isW; decide)) ?_
    rintro _ _ ⟨rfl, hi9, rfl, P9⟩
    show lm_wp _ 149 93 [.ref 123, .int x0, .int x1, .int x2, .int x3, .int x4, .int x5, .int 0, lm_jk] [.int (-2)] (hi9, hl, X) _
    refine w_ri rfl rfl ?_
    exact mq_ P9
  · refine w_N 4 18 [.ref 123, .int x0, .int x1, .int x2, .int x3, .int x4, .int x5, lm_jk, lm_jk] [.long 7, .long 0, .long x1.toInt64] rfl ?_
    refine w_cc rfl (m_in (x := x1) (lo := 0) (up := 7) rfl (by decide) (by decide)) ?_
    show lm_wp _ 149 21 [.ref 123, .int x0, .int x1, .int x2, .int x3, .int x4, .int x5, lm_jk, lm_jk] [.int (bz (wi x1 0 7))] (hi, hl, X) _
    refine w_zeq (t := 53) rfl rfl (fun c2 => ?_) (fun c2 => ?_)
    · refine w_N 3 58 [.ref 123, .int x0, .int x1, .int x2, .int x3, .int x4, .int x5, .int 0, lm_jk] [.int 0] rfl ?_
      refine w_if_eq_t (t := 87) rfl rfl (by decide) ?_
      refine w_N 2 90 [.ref 123, .int x0, .int x1, .int x2, .int x3, .int x4, .int x5, .int 0, lm_jk] [.int (-2), .ref 123] rfl ?_
      refine w_ca (w_vst rfl rfl rfl (Nat.le_of_ble_eq_true rfl) (Nat.le_of_ble_eq_true rfl) (M_kd S)) (m_refuse P (by unfold isW; decide)) ?_
      rintro _ _ ⟨rfl, hi9, rfl, P9⟩
      show lm_wp _ 149 93 [.ref 123, .int x0, .int x1, .int x2, .int x3, .int x4, .int x5, .int 0, lm_jk] [.int (-2)] (hi9, hl, X) _
      refine w_ri rfl rfl ?_
      exact mq_ P9
    · refine w_N 4 30 [.ref 123, .int x0, .int x1, .int x2, .int x3, .int x4, .int x5, lm_jk, lm_jk] [.long 3, .long 0, .long x2.toInt64] rfl ?_
      refine w_cc rfl (m_in (x := x2) (lo := 0) (up := 3) rfl (by decide) (by decide)) ?_
      show lm_wp _ 149 33 [.ref 123, .int x0, .int x1, .int x2, .int x3, .int x4, .int x5, lm_jk, lm_jk] [.int (bz (wi x2 0 3))] (hi, hl, X) _
      refine w_zeq (t := 53) rfl rfl (fun c3 => ?_) (fun c3 => ?_)
      · refine w_N 3 58 [.ref 123, .int x0, .int x1, .int x2, .int x3, .int x4, .int x5, .int 0, lm_jk] [.int 0] rfl ?_
        refine w_if_eq_t (t := 87) rfl rfl (by decide) ?_
        refine w_N 2 90 [.ref 123, .int x0, .int x1, .int x2, .int x3, .int x4, .int x5, .int 0, lm_jk] [.int (-2), .ref 123] rfl ?_
        refine w_ca (w_vst rfl rfl rfl (Nat.le_of_ble_eq_true rfl) (Nat.le_of_ble_eq_true rfl) (M_kd S)) (m_refuse P (by unfold isW; decide)) ?_
        rintro _ _ ⟨rfl, hi9, rfl, P9⟩
        show lm_wp _ 149 93 [.ref 123, .int x0, .int x1, .int x2, .int x3, .int x4, .int x5, .int 0, lm_jk] [.int (-2)] (hi9, hl, X) _
        refine w_ri rfl rfl ?_
        exact mq_ P9
      · refine w_N 4 43 [.ref 123, .int x0, .int x1, .int x2, .int x3, .int x4, .int x5, lm_jk, lm_jk] [.long 9, .long 1, .long x3.toInt64] rfl ?_
        refine w_cc rfl (m_in (x := x3) (lo := 1) (up := 9) rfl (by decide) (by decide)) ?_
        show lm_wp _ 149 46 [.ref 123, .int x0, .int x1, .int x2, .int x3, .int x4, .int x5, lm_jk, lm_jk] [.int (bz (wi x3 1 9))] (hi, hl, X) _
        refine w_zeq (t := 53) rfl rfl (fun c4 => ?_) (fun c4 => ?_)
        · refine w_N 3 58 [.ref 123, .int x0, .int x1, .int x2, .int x3, .int x4, .int x5, .int 0, lm_jk] [.int 0] rfl ?_
          refine w_if_eq_t (t := 87) rfl rfl (by decide) ?_
          refine w_N 2 90 [.ref 123, .int x0, .int x1, .int x2, .int x3, .int x4, .int x5, .int 0, lm_jk] [.int (-2), .ref 123] rfl ?_
          refine w_ca (w_vst rfl rfl rfl (Nat.le_of_ble_eq_true rfl) (Nat.le_of_ble_eq_true rfl) (M_kd S)) (m_refuse P (by unfold isW; decide)) ?_
          rintro _ _ ⟨rfl, hi9, rfl, P9⟩
          show lm_wp _ 149 93 [.ref 123, .int x0, .int x1, .int x2, .int x3, .int x4, .int x5, .int 0, lm_jk] [.int (-2)] (hi9, hl, X) _
          refine w_ri rfl rfl ?_
          exact mq_ P9
        · refine w_N 4 58 [.ref 123, .int x0, .int x1, .int x2, .int x3, .int x4, .int x5, .int 1, lm_jk] [.int 1] rfl ?_
          refine w_if_eq_f (t := 87) rfl rfl (by decide) ?_
          refine w_N 4 68 [.ref 123, .int x0, .int x1, .int x2, .int x3, .int x4, .int x5, .int 1, lm_jk] [.long 255, .long 0, .long x4.toInt64] rfl ?_
          refine w_cc rfl (m_in (x := x4) (lo := 0) (up := 255) rfl (by decide) (by decide)) ?_
          show lm_wp _ 149 71 [.ref 123, .int x0, .int x1, .int x2, .int x3, .int x4, .int x5, .int 1, lm_jk] [.int (bz (wi x4 0 255))] (hi, hl, X) _
          refine w_zeq (t := 87) rfl rfl (fun c5 => ?_) (fun c5 => ?_)
          · refine w_N 2 90 [.ref 123, .int x0, .int x1, .int x2, .int x3, .int x4, .int x5, .int 1, lm_jk] [.int (-2), .ref 123] rfl ?_
            refine w_ca (w_vst rfl rfl rfl (Nat.le_of_ble_eq_true rfl) (Nat.le_of_ble_eq_true rfl) (M_kd S)) (m_refuse P (by unfold isW; decide)) ?_
            rintro _ _ ⟨rfl, hi9, rfl, P9⟩
            show lm_wp _ 149 93 [.ref 123, .int x0, .int x1, .int x2, .int x3, .int x4, .int x5, .int 1, lm_jk] [.int (-2)] (hi9, hl, X) _
            refine w_ri rfl rfl ?_
            exact mq_ P9
          · refine w_N 4 81 [.ref 123, .int x0, .int x1, .int x2, .int x3, .int x4, .int x5, .int 1, lm_jk] [.long 255, .long 0, .long x5.toInt64] rfl ?_
            refine w_cc rfl (m_in (x := x5) (lo := 0) (up := 255) rfl (by decide) (by decide)) ?_
            show lm_wp _ 149 84 [.ref 123, .int x0, .int x1, .int x2, .int x3, .int x4, .int x5, .int 1, lm_jk] [.int (bz (wi x5 0 255))] (hi, hl, X) _
            refine w_zne (t := 94) rfl rfl (fun c6 => ?_) (fun c6 => ?_)
            · exact absurd hb (by simp [c1, c2, c3, c4, c5, c6])
            · refine w_N 2 90 [.ref 123, .int x0, .int x1, .int x2, .int x3, .int x4, .int x5, .int 1, lm_jk] [.int (-2), .ref 123] rfl ?_
              refine w_ca (w_vst rfl rfl rfl (Nat.le_of_ble_eq_true rfl) (Nat.le_of_ble_eq_true rfl) (M_kd S)) (m_refuse P (by unfold isW; decide)) ?_
              rintro _ _ ⟨rfl, hi9, rfl, P9⟩
              show lm_wp _ 149 93 [.ref 123, .int x0, .int x1, .int x2, .int x3, .int x4, .int x5, .int 1, lm_jk] [.int (-2)] (hi9, hl, X) _
              refine w_ri rfl rfl ?_
              exact mq_ P9
theorem x_act_f {d : Nat} {hi : Nat → Nat → Int32} {hl : Nat → Nat → Int64} {X : lm_X} {hi0 : Nat → Nat → Int32} {hl0 : Nat → Nat → Int64} {C n ts : Nat} {T : lm_T} {R : Nat → Int32} {KO : ab_K} {V : ab_V} {tl F : Nat → Int32} (P : cP hi0 hl0 hi hl X C T n R KO V ts tl F) {a0 a1 a2 a3 a4 a5 : Nat} (h0 : a0 ≤ 5) (h1 : a1 ≤ 7) (h2 : a2 ≤ 3) (h3 : 1 ≤ a3) (h3b : a3 ≤ 9) (h4 : a4 ≤ 255) (h5 : a5 ≤ 255) (hn : n = 10) (hC : C + 25 < 2147483648) : lm_w (d + 30) 89 [.ref 64, .int (nI a0), .int (nI a1), .int (nI a2), .int (nI a3), .int (nI a4), .int (nI a5)] (hi, hl, X) (cQ hi0 hl0 X (C + 25) (.int (-6)) T n R KO V ts tl (rfU F (-6))) := by
  obtain ⟨S, O, H, HR, FO, HV, HT, HF, HK, E0, EL0⟩ := id P
  refine lm_w_in (Nat.le_of_ble_eq_true rfl) ?_
  show lm_wp (d + 30) 89 0 [.ref 64, .int (nI a0), .int (nI a1), .int (nI a2), .int (nI a3), .int (nI a4), .int (nI a5), lm_jk, lm_jk] [] (hi, hl, X) _
  refine w_N 3 3 [.ref 64, .int (nI a0), .int (nI a1), .int (nI a2), .int (nI a3), .int (nI a4), .int (nI a5), lm_jk, lm_jk] [.int 5, .int 0, .int (nI a0)] rfl ?_
  refine w_cc rfl (x_within1 (wi_t (n := 5) h0 (by decide))) ?_
  show lm_wp _ 89 6 [.ref 64, .int (nI a0), .int (nI a1), .int (nI a2), .int (nI a3), .int (nI a4), .int (nI a5), lm_jk, lm_jk] [.int 1] (hi, hl, X) _
  refine w_if_eq_f (t := 32) rfl rfl (by decide) ?_
  refine w_N 3 13 [.ref 64, .int (nI a0), .int (nI a1), .int (nI a2), .int (nI a3), .int (nI a4), .int (nI a5), lm_jk, lm_jk] [.int 7, .int 0, .int (nI a1)] rfl ?_
  refine w_cc rfl (x_within1 (wi_t (n := 7) h1 (by decide))) ?_
  show lm_wp _ 89 16 [.ref 64, .int (nI a0), .int (nI a1), .int (nI a2), .int (nI a3), .int (nI a4), .int (nI a5), lm_jk, lm_jk] [.int 1] (hi, hl, X) _
  refine w_if_eq_f (t := 32) rfl rfl (by decide) ?_
  refine w_N 3 22 [.ref 64, .int (nI a0), .int (nI a1), .int (nI a2), .int (nI a3), .int (nI a4), .int (nI a5), lm_jk, lm_jk] [.int 3, .int 0, .int (nI a2)] rfl ?_
  refine w_cc rfl (x_within1 (wi_t (n := 3) h2 (by decide))) ?_
  show lm_wp _ 89 25 [.ref 64, .int (nI a0), .int (nI a1), .int (nI a2), .int (nI a3), .int (nI a4), .int (nI a5), lm_jk, lm_jk] [.int 1] (hi, hl, X) _
  refine w_if_eq_f (t := 32) rfl rfl (by decide) ?_
  refine w_N 6 41 [.ref 64, .int (nI a0), .int (nI a1), .int (nI a2), .int (nI a3), .int (nI a4), .int (nI a5), .int 1, lm_jk] [.int 255, .int 0, .int (nI a4)] rfl ?_
  refine w_cc rfl (x_within1 (wi_t (n := 255) h4 (by decide))) ?_
  show lm_wp _ 89 44 [.ref 64, .int (nI a0), .int (nI a1), .int (nI a2), .int (nI a3), .int (nI a4), .int (nI a5), .int 1, lm_jk] [.int 1] (hi, hl, X) _
  refine w_if_eq_f (t := 63) rfl rfl (by decide) ?_
  refine w_N 3 53 [.ref 64, .int (nI a0), .int (nI a1), .int (nI a2), .int (nI a3), .int (nI a4), .int (nI a5), .int 1, lm_jk] [.int 255, .int 0, .int (nI a5)] rfl ?_
  refine w_cc rfl (x_within1 (wi_t (n := 255) h5 (by decide))) ?_
  show lm_wp _ 89 56 [.ref 64, .int (nI a0), .int (nI a1), .int (nI a2), .int (nI a3), .int (nI a4), .int (nI a5), .int 1, lm_jk] [.int 1] (hi, hl, X) _
  refine w_if_eq_f (t := 63) rfl rfl (by decide) ?_
  refine w_N 4 68 [.ref 64, .int (nI a0), .int (nI a1), .int (nI a2), .int (nI a3), .int (nI a4), .int (nI a5), .int 1, .int 1] [.int 1] rfl ?_
  refine w_if_eq_f (t := 87) rfl rfl (by decide) ?_
  refine w_N 3 76 [.ref 64, .int (nI a0), .int (nI a1), .int (nI a2), .int (nI a3), .int (nI a4), .int (nI a5), .int 1, .int 1] [.int 9, .int 1, .int (nI a3)] rfl ?_
  refine w_cc rfl (x_within1 (wi_t1 (n := 9) h3 h3b (by decide))) ?_
  show lm_wp _ 89 79 [.ref 64, .int (nI a0), .int (nI a1), .int (nI a2), .int (nI a3), .int (nI a4), .int (nI a5), .int 1, .int 1] [.int 1] (hi, hl, X) _
  refine w_if_eq_f (t := 87) rfl rfl (by decide) ?_
  refine w_N 1 84 [.ref 64, .int (nI a0), .int (nI a1), .int (nI a2), .int (nI a3), .int (nI a4), .int (nI a5), .int 1, .int 1] [.int 1] rfl ?_
  refine w_if_ne_t (t := 94) rfl rfl (by decide) ?_
  refine w_N 1 95 [.ref 64, .int (nI a0), .int (nI a1), .int (nI a2), .int (nI a3), .int (nI a4), .int (nI a5), .int 1, .int 1] [.ref 64] rfl ?_
  refine w_gr 65 rfl rfl rfl (A_k S 64 (by decide)) (A_r S 64 0 (by decide)) ?_
  refine w_cc (w_vst rfl rfl rfl (Nat.le_of_ble_eq_true rfl) (Nat.le_of_ble_eq_true rfl) (T_kd (A_T65 S))) (lm_c_1 (c_X6_isFull (A_T65 S)) (by rw [isTn H, hn]; decide)) ?_
  show lm_wp _ 89 101 [.ref 64, .int (nI a0), .int (nI a1), .int (nI a2), .int (nI a3), .int (nI a4), .int (nI a5), .int 1, .int 1] [.int 1] (hi, hl, X) _
  refine w_if_eq_f (t := 111) rfl rfl (by decide) ?_
  refine w_N 2 107 [.ref 64, .int (nI a0), .int (nI a1), .int (nI a2), .int (nI a3), .int (nI a4), .int (nI a5), .int 1, .int 1] [.int (-6), .ref 64] rfl ?_
  refine w_ca (w_vst rfl rfl rfl (Nat.le_of_ble_eq_true rfl) (Nat.le_of_ble_eq_true rfl) (A_k S 64 (by decide))) (x_refuse P (by unfold isW; decide)) ?_
  rintro _ _ ⟨rfl, hi9, rfl, P9⟩
  show lm_wp _ 89 110 [.ref 64, .int (nI a0), .int (nI a1), .int (nI a2), .int (nI a3), .int (nI a4), .int (nI a5), .int 1, .int 1] [.int (-6)] (hi9, hl, X) _
  refine w_ri rfl rfl ?_
  exact cq_ P9 (by omega) hC
theorem y_act_f {d : Nat} {hi : Nat → Nat → Int32} {hl : Nat → Nat → Int64} {X : lm_X} {hi0 : Nat → Nat → Int32} {hl0 : Nat → Nat → Int64} {X0 : lm_X} {n ts : Nat} {T : lm_T} {R : Nat → Int32} {KO : ab_K} {V : ab_V} {tl F : Nat → Int32} (P : mP hi0 hl0 X0 hi hl X T n R KO V ts tl F) {a0 a1 a2 a3 a4 a5 : Nat} (h0 : a0 ≤ 5) (h1 : a1 ≤ 7) (h2 : a2 ≤ 3) (h3 : 1 ≤ a3) (h3b : a3 ≤ 9) (h4 : a4 ≤ 255) (h5 : a5 ≤ 255) (hn : n = 10) : lm_w (d + 30) 149 [.ref 123, .int (nI a0), .int (nI a1), .int (nI a2), .int (nI a3), .int (nI a4), .int (nI a5)] (hi, hl, X) (mQ hi0 hl0 X0 (.int (-6)) T n R KO V ts tl (rfU F (-6))) := by
  obtain ⟨SR, O, H, HR, HV, HT, HF, HK, E0, EL0, EX0⟩ := id P
  have S := SR.1
  refine lm_w_in (Nat.le_of_ble_eq_true rfl) ?_
  show lm_wp (d + 30) 149 0 [.ref 123, .int (nI a0), .int (nI a1), .int (nI a2), .int (nI a3), .int (nI a4), .int (nI a5), lm_jk, lm_jk] [] (hi, hl, X) _
  refine w_N 4 6 [.ref 123, .int (nI a0), .int (nI a1), .int (nI a2), .int (nI a3), .int (nI a4), .int (nI a5), lm_jk, lm_jk] [.long 5, .long 0, .long ((nI a0).toInt64)] rfl ?_
  refine w_cc rfl (lm_c_1 (m_in (x := nI a0) (lo := 0) (up := 5) rfl (by decide) (by decide)) (wi_t (n := 5) h0 (by decide))) ?_
  show lm_wp _ 149 9 [.ref 123, .int (nI a0), .int (nI a1), .int (nI a2), .int (nI a3), .int (nI a4), .int (nI a5), lm_jk, lm_jk] [.int 1] (hi, hl, X) _
  refine w_if_eq_f (t := 53) rfl rfl (by decide) ?_
  refine w_N 4 18 [.ref 123, .int (nI a0), .int (nI a1), .int (nI a2), .int (nI a3), .int (nI a4), .int (nI a5), lm_jk, lm_jk] [.long 7, .long 0, .long ((nI a1).toInt64)] rfl ?_
  refine w_cc rfl (lm_c_1 (m_in (x := nI a1) (lo := 0) (up := 7) rfl (by decide) (by decide)) (wi_t (n := 7) h1 (by decide))) ?_
  show lm_wp _ 149 21 [.ref 123, .int (nI a0), .int (nI a1), .int (nI a2), .int (nI a3), .int (nI a4), .int (nI a5), lm_jk, lm_jk] [.int 1] (hi, hl, X) _
  refine w_if_eq_f (t := 53) rfl rfl (by decide) ?_
  refine w_N 4 30 [.ref 123, .int (nI a0), .int (nI a1), .int (nI a2), .int (nI a3), .int (nI a4), .int (nI a5), lm_jk, lm_jk] [.long 3, .long 0, .long ((nI a2).toInt64)] rfl ?_
  refine w_cc rfl (lm_c_1 (m_in (x := nI a2) (lo := 0) (up := 3) rfl (by decide) (by decide)) (wi_t (n := 3) h2 (by decide))) ?_
  show lm_wp _ 149 33 [.ref 123, .int (nI a0), .int (nI a1), .int (nI a2), .int (nI a3), .int (nI a4), .int (nI a5), lm_jk, lm_jk] [.int 1] (hi, hl, X) _
  refine w_if_eq_f (t := 53) rfl rfl (by decide) ?_
  refine w_N 4 43 [.ref 123, .int (nI a0), .int (nI a1), .int (nI a2), .int (nI a3), .int (nI a4), .int (nI a5), lm_jk, lm_jk] [.long 9, .long 1, .long ((nI a3).toInt64)] rfl ?_
  refine w_cc rfl (lm_c_1 (m_in (x := nI a3) (lo := 1) (up := 9) rfl (by decide) (by decide)) (wi_t1 (n := 9) h3 h3b (by decide))) ?_
  show lm_wp _ 149 46 [.ref 123, .int (nI a0), .int (nI a1), .int (nI a2), .int (nI a3), .int (nI a4), .int (nI a5), lm_jk, lm_jk] [.int 1] (hi, hl, X) _
  refine w_if_eq_f (t := 53) rfl rfl (by decide) ?_
  refine w_N 4 58 [.ref 123, .int (nI a0), .int (nI a1), .int (nI a2), .int (nI a3), .int (nI a4), .int (nI a5), .int 1, lm_jk] [.int 1] rfl ?_
  refine w_if_eq_f (t := 87) rfl rfl (by decide) ?_
  refine w_N 4 68 [.ref 123, .int (nI a0), .int (nI a1), .int (nI a2), .int (nI a3), .int (nI a4), .int (nI a5), .int 1, lm_jk] [.long 255, .long 0, .long ((nI a4).toInt64)] rfl ?_
  refine w_cc rfl (lm_c_1 (m_in (x := nI a4) (lo := 0) (up := 255) rfl (by decide) (by decide)) (wi_t (n := 255) h4 (by decide))) ?_
  show lm_wp _ 149 71 [.ref 123, .int (nI a0), .int (nI a1), .int (nI a2), .int (nI a3), .int (nI a4), .int (nI a5), .int 1, lm_jk] [.int 1] (hi, hl, X) _
  refine w_if_eq_f (t := 87) rfl rfl (by decide) ?_
  refine w_N 4 81 [.ref 123, .int (nI a0), .int (nI a1), .int (nI a2), .int (nI a3), .int (nI a4), .int (nI a5), .int 1, lm_jk] [.long 255, .long 0, .long ((nI a5).toInt64)] rfl ?_
  refine w_cc rfl (lm_c_1 (m_in (x := nI a5) (lo := 0) (up := 255) rfl (by decide) (by decide)) (wi_t (n := 255) h5 (by decide))) ?_
  show lm_wp _ 149 84 [.ref 123, .int (nI a0), .int (nI a1), .int (nI a2), .int (nI a3), .int (nI a4), .int (nI a5), .int 1, lm_jk] [.int 1] (hi, hl, X) _
  refine w_if_ne_t (t := 94) rfl rfl (by decide) ?_
  refine w_N 1 95 [.ref 123, .int (nI a0), .int (nI a1), .int (nI a2), .int (nI a3), .int (nI a4), .int (nI a5), .int 1, lm_jk] [.ref 123] rfl ?_
  refine w_gi (v := nI n) rfl rfl rfl (M_kd S) (rTn H) ?_
  refine w_N 1 100 [.ref 123, .int (nI a0), .int (nI a1), .int (nI a2), .int (nI a3), .int (nI a4), .int (nI a5), .int 1, lm_jk] [.int 10, .int (nI n)] rfl ?_
  refine w_icmp_ne_f (t := 110) rfl rfl (by rw [hn]; rfl) ?_
  refine w_N 2 106 [.ref 123, .int (nI a0), .int (nI a1), .int (nI a2), .int (nI a3), .int (nI a4), .int (nI a5), .int 1, lm_jk] [.int (-6), .ref 123] rfl ?_
  refine w_ca (w_vst rfl rfl rfl (Nat.le_of_ble_eq_true rfl) (Nat.le_of_ble_eq_true rfl) (M_kd S)) (m_refuse P (by unfold isW; decide)) ?_
  rintro _ _ ⟨rfl, hi9, rfl, P9⟩
  show lm_wp _ 149 109 [.ref 123, .int (nI a0), .int (nI a1), .int (nI a2), .int (nI a3), .int (nI a4), .int (nI a5), .int 1, lm_jk] [.int (-6)] (hi9, hl, X) _
  refine w_ri rfl rfl ?_
  exact mq_ P9
theorem x_act {d : Nat} {hi : Nat → Nat → Int32} {hl : Nat → Nat → Int64} {X : lm_X} {hi0 : Nat → Nat → Int32} {hl0 : Nat → Nat → Int64} {C n ts : Nat} {T : lm_T} {R : Nat → Int32} {KO : ab_K} {V : ab_V} {tl F : Nat → Int32} (P : cP hi0 hl0 hi hl X C T n R KO V ts tl F) {a0 a1 a2 a3 a4 a5 : Nat} (h0 : a0 ≤ 5) (h1 : a1 ≤ 7) (h2 : a2 ≤ 3) (h3 : 1 ≤ a3) (h3b : a3 ≤ 9) (h4 : a4 ≤ 255) (h5 : a5 ≤ 255) (hn : n < 10) (hC : C + 25 < 2147483648) : lm_w (d + 30) 89 [.ref 64, .int (nI a0), .int (nI a1), .int (nI a2), .int (nI a3), .int (nI a4), .int (nI a5)] (hi, hl, X) (cQ hi0 hl0 X (C + 25) (.int (nI n)) (adT T n (nI a0) (nI a1) (nI a2) (nI a3) (nI a4) (nI a5)) (n + 1) (lm_u1 R 15 0) KO V ts tl F) := by
  obtain ⟨S, O, H, HR, FO, HV, HT, HF, HK, E0, EL0⟩ := id P
  refine lm_w_in (Nat.le_of_ble_eq_true rfl) ?_
  show lm_wp (d + 30) 89 0 [.ref 64, .int (nI a0), .int (nI a1), .int (nI a2), .int (nI a3), .int (nI a4), .int (nI a5), lm_jk, lm_jk] [] (hi, hl, X) _
  refine w_N 3 3 [.ref 64, .int (nI a0), .int (nI a1), .int (nI a2), .int (nI a3), .int (nI a4), .int (nI a5), lm_jk, lm_jk] [.int 5, .int 0, .int (nI a0)] rfl ?_
  refine w_cc rfl (x_within1 (wi_t (n := 5) h0 (by decide))) ?_
  show lm_wp _ 89 6 [.ref 64, .int (nI a0), .int (nI a1), .int (nI a2), .int (nI a3), .int (nI a4), .int (nI a5), lm_jk, lm_jk] [.int 1] (hi, hl, X) _
  refine w_if_eq_f (t := 32) rfl rfl (by decide) ?_
  refine w_N 3 13 [.ref 64, .int (nI a0), .int (nI a1), .int (nI a2), .int (nI a3), .int (nI a4), .int (nI a5), lm_jk, lm_jk] [.int 7, .int 0, .int (nI a1)] rfl ?_
  refine w_cc rfl (x_within1 (wi_t (n := 7) h1 (by decide))) ?_
  show lm_wp _ 89 16 [.ref 64, .int (nI a0), .int (nI a1), .int (nI a2), .int (nI a3), .int (nI a4), .int (nI a5), lm_jk, lm_jk] [.int 1] (hi, hl, X) _
  refine w_if_eq_f (t := 32) rfl rfl (by decide) ?_
  refine w_N 3 22 [.ref 64, .int (nI a0), .int (nI a1), .int (nI a2), .int (nI a3), .int (nI a4), .int (nI a5), lm_jk, lm_jk] [.int 3, .int 0, .int (nI a2)] rfl ?_
  refine w_cc rfl (x_within1 (wi_t (n := 3) h2 (by decide))) ?_
  show lm_wp _ 89 25 [.ref 64, .int (nI a0), .int (nI a1), .int (nI a2), .int (nI a3), .int (nI a4), .int (nI a5), lm_jk, lm_jk] [.int 1] (hi, hl, X) _
  refine w_if_eq_f (t := 32) rfl rfl (by decide) ?_
  refine w_N 6 41 [.ref 64, .int (nI a0), .int (nI a1), .int (nI a2), .int (nI a3), .int (nI a4), .int (nI a5), .int 1, lm_jk] [.int 255, .int 0, .int (nI a4)] rfl ?_
  refine w_cc rfl (x_within1 (wi_t (n := 255) h4 (by decide))) ?_
  show lm_wp _ 89 44 [.ref 64, .int (nI a0), .int (nI a1), .int (nI a2), .int (nI a3), .int (nI a4), .int (nI a5), .int 1, lm_jk] [.int 1] (hi, hl, X) _
  refine w_if_eq_f (t := 63) rfl rfl (by decide) ?_
  refine w_N 3 53 [.ref 64, .int (nI a0), .int (nI a1), .int (nI a2), .int (nI a3), .int (nI a4), .int (nI a5), .int 1, lm_jk] [.int 255, .int 0, .int (nI a5)] rfl ?_
  refine w_cc rfl (x_within1 (wi_t (n := 255) h5 (by decide))) ?_
  show lm_wp _ 89 56 [.ref 64, .int (nI a0), .int (nI a1), .int (nI a2), .int (nI a3), .int (nI a4), .int (nI a5), .int 1, lm_jk] [.int 1] (hi, hl, X) _
  refine w_if_eq_f (t := 63) rfl rfl (by decide) ?_
  refine w_N 4 68 [.ref 64, .int (nI a0), .int (nI a1), .int (nI a2), .int (nI a3), .int (nI a4), .int (nI a5), .int 1, .int 1] [.int 1] rfl ?_
  refine w_if_eq_f (t := 87) rfl rfl (by decide) ?_
  refine w_N 3 76 [.ref 64, .int (nI a0), .int (nI a1), .int (nI a2), .int (nI a3), .int (nI a4), .int (nI a5), .int 1, .int 1] [.int 9, .int 1, .int (nI a3)] rfl ?_
  refine w_cc rfl (x_within1 (wi_t1 (n := 9) h3 h3b (by decide))) ?_
  show lm_wp _ 89 79 [.ref 64, .int (nI a0), .int (nI a1), .int (nI a2), .int (nI a3), .int (nI a4), .int (nI a5), .int 1, .int 1] [.int 1] (hi, hl, X) _
  refine w_if_eq_f (t := 87) rfl rfl (by decide) ?_
  refine w_N 1 84 [.ref 64, .int (nI a0), .int (nI a1), .int (nI a2), .int (nI a3), .int (nI a4), .int (nI a5), .int 1, .int 1] [.int 1] rfl ?_
  refine w_if_ne_t (t := 94) rfl rfl (by decide) ?_
  refine w_N 1 95 [.ref 64, .int (nI a0), .int (nI a1), .int (nI a2), .int (nI a3), .int (nI a4), .int (nI a5), .int 1, .int 1] [.ref 64] rfl ?_
  refine w_gr 65 rfl rfl rfl (A_k S 64 (by decide)) (A_r S 64 0 (by decide)) ?_
  refine w_cc (w_vst rfl rfl rfl (Nat.le_of_ble_eq_true rfl) (Nat.le_of_ble_eq_true rfl) (T_kd (A_T65 S))) (lm_c_v (c_X6_isFull (A_T65 S)) (c_eqz (by have q : nI n < 10 := nI_lt (b := 10) hn (by decide); rw [isTn H]; simp [q]))) ?_
  show lm_wp _ 89 101 [.ref 64, .int (nI a0), .int (nI a1), .int (nI a2), .int (nI a3), .int (nI a4), .int (nI a5), .int 1, .int 1] [.int 0] (hi, hl, X) _
  refine w_if_eq_t (t := 111) rfl rfl (by decide) ?_
  refine w_N 1 112 [.ref 64, .int (nI a0), .int (nI a1), .int (nI a2), .int (nI a3), .int (nI a4), .int (nI a5), .int 1, .int 1] [.ref 64] rfl ?_
  refine w_gr 65 rfl rfl rfl (A_k S 64 (by decide)) (A_r S 64 0 (by decide)) ?_
  refine w_N 1 116 [.ref 64, .int (nI a0), .int (nI a1), .int (nI a2), .int (nI a3), .int (nI a4), .int (nI a5), .int 1, .int 1] [.int 0, .ref 65] rfl ?_
  refine w_pb rfl rfl rfl rfl (T_kd (A_T65 S)) (T_64 (A_T65 S)) (by decide) ?_
  refine w_N 1 120 [.ref 64, .int (nI a0), .int (nI a1), .int (nI a2), .int (nI a3), .int (nI a4), .int (nI a5), .int 1, .int 1] [.ref 64] rfl ?_
  refine w_gr 65 rfl rfl rfl (A_k S 64 (by decide)) (A_r S 64 0 (by decide)) ?_
  refine w_N 6 132 [.ref 64, .int (nI a0), .int (nI a1), .int (nI a2), .int (nI a3), .int (nI a4), .int (nI a5), .int 1, .int 1] [.int (nI a5), .int (nI a4), .int (nI a3), .int (nI a2), .int (nI a1), .int (nI a0), .ref 65] rfl ?_
  obtain ⟨h4, e_h4⟩ : ∃ q, q = lm_up hi 65 15 0 := ⟨_, rfl⟩
  rw [← e_h4]
  have P := cP_R (k := 15) (v := 0) (by decide) P
  rw [← e_h4] at P
  obtain ⟨S, O, H, HR, FO, HV, HT, HF, HK, E0, EL0⟩ := id P
  refine w_ca (w_vst rfl rfl rfl (Nat.le_of_ble_eq_true rfl) (Nat.le_of_ble_eq_true rfl) (T_kd (A_T65 S))) (t_addAct (d := d + 29) (A_T65 S) H HR hn) ?_
  rintro _ _ ⟨h5x, rfl, rfl, H5, R5, c5, f5⟩
  have P5 := cP_town P f5 H5 R5 (fok_ch f5 c5 (by omega) FO)
  show lm_wp _ 89 135 [.ref 64, .int (nI a0), .int (nI a1), .int (nI a2), .int (nI a3), .int (nI a4), .int (nI a5), .int 1, .int 1] [.int (nI n)] (h5x, hl, X) _
  refine w_ri rfl rfl ?_
  exact cq_ P5 (by omega) hC
theorem rT_add {hi hi' : Nat → Nat → Int32} {n : Nat} {T : lm_T} {x0 x1 x2 x3 x4 x5 : Int32} (hn : n < 10) (H : rT hi 123 T n) (f : ∀ a, a ≠ 123 → a ≠ 123 + (19 + n) → hi' a = hi a) (h10 : hi' 123 10 = nI (n + 1)) (g : hi' (123 + (19 + n)) 0 = x0 ∧ hi' (123 + (19 + n)) 1 = x1 ∧ hi' (123 + (19 + n)) 2 = x2 ∧ hi' (123 + (19 + n)) 3 = x3 ∧ hi' (123 + (19 + n)) 4 = x4 ∧ hi' (123 + (19 + n)) 5 = x5 ∧ hi' (123 + (19 + n)) 6 = 0) : rT hi' 123 (adT T n x0 x1 x2 x3 x4 x5) (n + 1) := by
  obtain ⟨g0, g1, g2, g3, g4, g5, g6⟩ := g
  refine ⟨fun k hk a ha => ?_, fun h hh w hw => ?_, h10, by omega⟩
  · unfold adT
    by_cases e : a = n
    · subst e
      rw [if_pos ⟨rfl, hk⟩]
      rcases (by omega : k = 0 ∨ k = 1 ∨ k = 2 ∨ k = 3 ∨ k = 4 ∨ k = 5 ∨ k = 6) with rfl | rfl | rfl | rfl | rfl | rfl | rfl
      · exact g0
      · exact g1
      · exact g2
      · exact g3
      · exact g4
      · exact g5
      · exact g6
    · rw [if_neg (fun z => e z.1), f _ (by omega) (by omega)]; exact H.1 k hk a (by omega)
  · rw [f _ (by omega) (by omega)]
    unfold adT
    rw [if_neg (fun z => by omega)]
    exact H.2.1 h hh w hw
/-- the rest of a town once it is no more known what was before -/
theorem rR_k0 {hi hi' : Nat → Nat → Int32} {b : Nat} {R : Nat → Int32} {s' : Int32} (HR : rR hi b R) (h12 : hi' b 12 = s_marks s') (hc : ∀ c, c < 4 → hi' (b + 29) c = s_count s' (nI c)) (h18 : hi' b 18 = 0) (h14 : hi' b 14 = hi b 14) (h15 : hi' b 15 = hi b 15) (h21 : hi' b 21 = hi b 21) (h33 : hi' (b + 33) = hi (b + 33)) : rR hi' b (lm_u1 (lm_u1 R 15 0) 10 s') := by
  obtain ⟨r1, r2, r3, r4, r5, r6, r7, r8⟩ := HR
  exact ⟨⟨h12, hc⟩, h15.trans r2, h14.trans r3, h21.trans r4, fun z => absurd (show (0 : Int32) = 1 from z) (by decide), h18, by rw [h33]; exact r7, by rw [h33]; exact r8⟩
theorem rR_k1 {hi hi' : Nat → Nat → Int32} {b : Nat} {R : Nat → Int32} (HR : rR hi b R) (h12 : hi' b 12 = s_marks (R 10)) (hc : ∀ c, c < 4 → hi' (b + 29) c = s_count (R 10) (nI c)) (h18 : hi' b 18 = 0) (h14 : hi' b 14 = hi b 14) (h15 : hi' b 15 = hi b 15) (h21 : hi' b 21 = hi b 21) (h33 : hi' (b + 33) = hi (b + 33)) : rR hi' b (lm_u1 R 15 0) := by
  obtain ⟨r1, r2, r3, r4, r5, r6, r7, r8⟩ := HR
  exact ⟨⟨h12, hc⟩, h15.trans r2, h14.trans r3, h21.trans r4, fun z => absurd (show (0 : Int32) = 1 from z) (by decide), h18, by rw [h33]; exact r7, by rw [h33]; exact r8⟩
theorem okR_0 {R : Nat → Int32} {D : Nat} (h : okR R D) : okR (lm_u1 R 15 0) D := ⟨h.1, h.2.1, h.2.2.1, h.2.2.2.1, Or.inl rfl, fun z => absurd (show (0 : Int32) = 1 from z) (by decide)⟩
theorem okR_s {R : Nat → Int32} {D : Nat} {s' : Int32} (h : okR R D) (h1 : okS s') (h2 : awk s' = awk (R 10)) : okR (lm_u1 (lm_u1 R 15 0) 10 s') D := ⟨h1, h.2.1, h.2.2.1, h2.trans h.2.2.2.1, Or.inl rfl, fun z => absurd (show (0 : Int32) = 1 from z) (by decide)⟩
theorem okZ_T {B D n ts n' : Nat} {T T' : lm_T} {R R' : Nat → Int32} {KO : ab_K} {V : ab_V} {tl : Nat → Int32} (Z : okZ B D T n R KO V ts tl) (hB : B + 20 < 2000000) (h1 : okT T' n') (h2 : okR R' D) : okZ (B + 20) D T' n' R' KO V ts tl := by
  obtain ⟨z1, z2, z3, z4, z5, z6, z7, z8⟩ := okZ_up Z hB
  exact ⟨h1, h2, z3, z4, z5, z6, z7, z8⟩
theorem okT_ad {T : lm_T} {n a0 a1 a2 a3 a4 a5 : Nat} (h : okT T n) (h0 : a0 ≤ 5) (h1 : a1 ≤ 7) (h2 : a2 ≤ 3) (h3 : 1 ≤ a3) (h3b : a3 ≤ 9) (h4 : a4 ≤ 255) (h5 : a5 ≤ 255) : okT (adT T n (nI a0) (nI a1) (nI a2) (nI a3) (nI a4) (nI a5)) (n + 1) := by
  refine ⟨fun a ha => ?_, fun j hj => ?_⟩
  · by_cases e : a = n
    · subst e
      refine ⟨a0, a1, a2, a3, a4, a5, 0, ?_, h0, ?_, by omega, ?_, by omega, ?_, h3, h3b, ?_, by omega, ?_, by omega, ?_, by decide⟩ <;> (unfold adT; rw [if_pos ⟨rfl, by decide⟩]; rfl)
    · have q : ∀ k, adT T n (nI a0) (nI a1) (nI a2) (nI a3) (nI a4) (nI a5) k a = T k a := fun k => by unfold adT; rw [if_neg (fun z => e z.1)]
      simp only [q]
      exact h.1 a (by omega)
  · unfold adT
    rw [if_neg (fun z => by omega)]
    exact h.2 j hj
theorem y_act {d : Nat} {hi : Nat → Nat → Int32} {hl : Nat → Nat → Int64} {X : lm_X} {hi0 : Nat → Nat → Int32} {hl0 : Nat → Nat → Int64} {X0 : lm_X} {n ts : Nat} {T : lm_T} {R : Nat → Int32} {KO : ab_K} {V : ab_V} {tl F : Nat → Int32} (P : mP hi0 hl0 X0 hi hl X T n R KO V ts tl F) {a0 a1 a2 a3 a4 a5 : Nat} (h0 : a0 ≤ 5) (h1 : a1 ≤ 7) (h2 : a2 ≤ 3) (h3 : 1 ≤ a3) (h3b : a3 ≤ 9) (h4 : a4 ≤ 255) (h5 : a5 ≤ 255) (hn : n < 10) : lm_w (d + 30) 149 [.ref 123, .int (nI a0), .int (nI a1), .int (nI a2), .int (nI a3), .int (nI a4), .int (nI a5)] (hi, hl, X) (mQ hi0 hl0 X0 (.int (nI n)) (adT T n (nI a0) (nI a1) (nI a2) (nI a3) (nI a4) (nI a5)) (n + 1) (lm_u1 R 15 0) KO V ts tl F) := by
  obtain ⟨SR, O, H, HR, HV, HT, HF, HK, E0, EL0, EX0⟩ := id P
  have S := SR.1
  refine lm_w_in (Nat.le_of_ble_eq_true rfl) ?_
  show lm_wp (d + 30) 149 0 [.ref 123, .int (nI a0), .int (nI a1), .int (nI a2), .int (nI a3), .int (nI a4), .int (nI a5), lm_jk, lm_jk] [] (hi, hl, X) _
  refine w_N 4 6 [.ref 123, .int (nI a0), .int (nI a1), .int (nI a2), .int (nI a3), .int (nI a4), .int (nI a5), lm_jk, lm_jk] [.long 5, .long 0, .long ((nI a0).toInt64)] rfl ?_
  refine w_cc rfl (lm_c_1 (m_in (x := nI a0) (lo := 0) (up := 5) rfl (by decide) (by decide)) (wi_t (n := 5) h0 (by decide))) ?_
  show lm_wp _ 149 9 [.ref 123, .int (nI a0), .int (nI a1), .int (nI a2), .int (nI a3), .int (nI a4), .int (nI a5), lm_jk, lm_jk] [.int 1] (hi, hl, X) _
  refine w_if_eq_f (t := 53) rfl rfl (by decide) ?_
  refine w_N 4 18 [.ref 123, .int (nI a0), .int (nI a1), .int (nI a2), .int (nI a3), .int (nI a4), .int (nI a5), lm_jk, lm_jk] [.long 7, .long 0, .long ((nI a1).toInt64)] rfl ?_
  refine w_cc rfl (lm_c_1 (m_in (x := nI a1) (lo := 0) (up := 7) rfl (by decide) (by decide)) (wi_t (n := 7) h1 (by decide))) ?_
  show lm_wp _ 149 21 [.ref 123, .int (nI a0), .int (nI a1), .int (nI a2), .int (nI a3), .int (nI a4), .int (nI a5), lm_jk, lm_jk] [.int 1] (hi, hl, X) _
  refine w_if_eq_f (t := 53) rfl rfl (by decide) ?_
  refine w_N 4 30 [.ref 123, .int (nI a0), .int (nI a1), .int (nI a2), .int (nI a3), .int (nI a4), .int (nI a5), lm_jk, lm_jk] [.long 3, .long 0, .long ((nI a2).toInt64)] rfl ?_
  refine w_cc rfl (lm_c_1 (m_in (x := nI a2) (lo := 0) (up := 3) rfl (by decide) (by decide)) (wi_t (n := 3) h2 (by decide))) ?_
  show lm_wp _ 149 33 [.ref 123, .int (nI a0), .int (nI a1), .int (nI a2), .int (nI a3), .int (nI a4), .int (nI a5), lm_jk, lm_jk] [.int 1] (hi, hl, X) _
  refine w_if_eq_f (t := 53) rfl rfl (by decide) ?_
  refine w_N 4 43 [.ref 123, .int (nI a0), .int (nI a1), .int (nI a2), .int (nI a3), .int (nI a4), .int (nI a5), lm_jk, lm_jk] [.long 9, .long 1, .long ((nI a3).toInt64)] rfl ?_
  refine w_cc rfl (lm_c_1 (m_in (x := nI a3) (lo := 1) (up := 9) rfl (by decide) (by decide)) (wi_t1 (n := 9) h3 h3b (by decide))) ?_
  show lm_wp _ 149 46 [.ref 123, .int (nI a0), .int (nI a1), .int (nI a2), .int (nI a3), .int (nI a4), .int (nI a5), lm_jk, lm_jk] [.int 1] (hi, hl, X) _
  refine w_if_eq_f (t := 53) rfl rfl (by decide) ?_
  refine w_N 4 58 [.ref 123, .int (nI a0), .int (nI a1), .int (nI a2), .int (nI a3), .int (nI a4), .int (nI a5), .int 1, lm_jk] [.int 1] rfl ?_
  refine w_if_eq_f (t := 87) rfl rfl (by decide) ?_
  refine w_N 4 68 [.ref 123, .int (nI a0), .int (nI a1), .int (nI a2), .int (nI a3), .int (nI a4), .int (nI a5), .int 1, lm_jk] [.long 255, .long 0, .long ((nI a4).toInt64)] rfl ?_
  refine w_cc rfl (lm_c_1 (m_in (x := nI a4) (lo := 0) (up := 255) rfl (by decide) (by decide)) (wi_t (n := 255) h4 (by decide))) ?_
  show lm_wp _ 149 71 [.ref 123, .int (nI a0), .int (nI a1), .int (nI a2), .int (nI a3), .int (nI a4), .int (nI a5), .int 1, lm_jk] [.int 1] (hi, hl, X) _
  refine w_if_eq_f (t := 87) rfl rfl (by decide) ?_
  refine w_N 4 81 [.ref 123, .int (nI a0), .int (nI a1), .int (nI a2), .int (nI a3), .int (nI a4), .int (nI a5), .int 1, lm_jk] [.long 255, .long 0, .long ((nI a5).toInt64)] rfl ?_
  refine w_cc rfl (lm_c_1 (m_in (x := nI a5) (lo := 0) (up := 255) rfl (by decide) (by decide)) (wi_t (n := 255) h5 (by decide))) ?_
  show lm_wp _ 149 84 [.ref 123, .int (nI a0), .int (nI a1), .int (nI a2), .int (nI a3), .int (nI a4), .int (nI a5), .int 1, lm_jk] [.int 1] (hi, hl, X) _
  refine w_if_ne_t (t := 94) rfl rfl (by decide) ?_
  refine w_N 1 95 [.ref 123, .int (nI a0), .int (nI a1), .int (nI a2), .int (nI a3), .int (nI a4), .int (nI a5), .int 1, lm_jk] [.ref 123] rfl ?_
  refine w_gi (v := nI n) rfl rfl rfl (M_kd S) (rTn H) ?_
  refine w_N 1 100 [.ref 123, .int (nI a0), .int (nI a1), .int (nI a2), .int (nI a3), .int (nI a4), .int (nI a5), .int 1, lm_jk] [.int 10, .int (nI n)] rfl ?_
  refine w_icmp_ne_t (t := 110) rfl rfl (fun z => by have := (nI_inj (a := n) (b := 10) (by omega) (by decide)).mp z; omega) ?_
  refine w_N 1 111 [.ref 123, .int (nI a0), .int (nI a1), .int (nI a2), .int (nI a3), .int (nI a4), .int (nI a5), .int 1, lm_jk] [.ref 123] rfl ?_
  refine w_gr 141 rfl rfl rfl (M_kd S) (M_r S (k := 11) (o := 18) rfl) ?_
  refine w_N 1 115 [.ref 123, .int (nI a0), .int (nI a1), .int (nI a2), .int (nI a3), .int (nI a4), .int (nI a5), .int 1, lm_jk] [.ref 123, .ref 141] rfl ?_
  refine w_gi (v := nI n) rfl rfl rfl (M_kd S) (rTn H) ?_
  refine w_aa n (123 + (19 + n)) rfl (M_kk S (o := 18) (by decide)) (show X.2.2.1 (141) = 10 from M_l S 18 (by decide)) rfl hn (by decide) (M_acr S hn) ?_
  refine w_N 4 125 [.ref 123, .int (nI a0), .int (nI a1), .int (nI a2), .int (nI a3), .int (nI a4), .int (nI a5), .int 1, .ref (123 + (19 + n))] [.int (nI a0), .int 0, .ref (123 + (19 + n))] rfl ?_
  refine w_is 0 rfl (M_ack S hn) (Nat.le_trans (M_64 S) (Nat.le_add_right _ _)) (M_acl S hn) rfl (by decide) (by decide) ?_
  refine w_N 3 130 [.ref 123, .int (nI a0), .int (nI a1), .int (nI a2), .int (nI a3), .int (nI a4), .int (nI a5), .int 1, .ref (123 + (19 + n))] [.int (nI a1), .int 1, .ref (123 + (19 + n))] rfl ?_
  refine w_is 1 rfl (M_ack S hn) (Nat.le_trans (M_64 S) (Nat.le_add_right _ _)) (M_acl S hn) rfl (by decide) (by decide) ?_
  refine w_N 3 135 [.ref 123, .int (nI a0), .int (nI a1), .int (nI a2), .int (nI a3), .int (nI a4), .int (nI a5), .int 1, .ref (123 + (19 + n))] [.int (nI a2), .int 2, .ref (123 + (19 + n))] rfl ?_
  refine w_is 2 rfl (M_ack S hn) (Nat.le_trans (M_64 S) (Nat.le_add_right _ _)) (M_acl S hn) rfl (by decide) (by decide) ?_
  refine w_N 3 141 [.ref 123, .int (nI a0), .int (nI a1), .int (nI a2), .int (nI a3), .int (nI a4), .int (nI a5), .int 1, .ref (123 + (19 + n))] [.int (nI a3), .int 3, .ref (123 + (19 + n))] rfl ?_
  refine w_is 3 rfl (M_ack S hn) (Nat.le_trans (M_64 S) (Nat.le_add_right _ _)) (M_acl S hn) rfl (by decide) (by decide) ?_
  refine w_N 3 147 [.ref 123, .int (nI a0), .int (nI a1), .int (nI a2), .int (nI a3), .int (nI a4), .int (nI a5), .int 1, .ref (123 + (19 + n))] [.int (nI a4), .int 4, .ref (123 + (19 + n))] rfl ?_
  refine w_is 4 rfl (M_ack S hn) (Nat.le_trans (M_64 S) (Nat.le_add_right _ _)) (M_acl S hn) rfl (by decide) (by decide) ?_
  refine w_N 3 153 [.ref 123, .int (nI a0), .int (nI a1), .int (nI a2), .int (nI a3), .int (nI a4), .int (nI a5), .int 1, .ref (123 + (19 + n))] [.int (nI a5), .int 5, .ref (123 + (19 + n))] rfl ?_
  refine w_is 5 rfl (M_ack S hn) (Nat.le_trans (M_64 S) (Nat.le_add_right _ _)) (M_acl S hn) rfl (by decide) (by decide) ?_
  refine w_N 3 159 [.ref 123, .int (nI a0), .int (nI a1), .int (nI a2), .int (nI a3), .int (nI a4), .int (nI a5), .int 1, .ref (123 + (19 + n))] [.int 0, .int 6, .ref (123 + (19 + n))] rfl ?_
  refine w_is 6 rfl (M_ack S hn) (Nat.le_trans (M_64 S) (Nat.le_add_right _ _)) (M_acl S hn) rfl (by decide) (by decide) ?_
  refine w_N 2 162 [.ref 123, .int (nI a0), .int (nI a1), .int (nI a2), .int (nI a3), .int (nI a4), .int (nI a5), .int 1, .ref (123 + (19 + n))] [.int 0, .ref 123] rfl ?_
  refine w_pb rfl rfl rfl rfl (M_kd S) (M_64 S) (by decide) ?_
  refine w_N 2 167 [.ref 123, .int (nI a0), .int (nI a1), .int (nI a2), .int (nI a3), .int (nI a4), .int (nI a5), .int 1, .ref (123 + (19 + n))] [.ref 123, .ref 123] rfl ?_
  refine w_gi (v := nI n) rfl rfl rfl (M_kd S) ((lm_up_nk (by decide)).trans ((lm_up_na (by omega)).trans ((lm_up_na (by omega)).trans ((lm_up_na (by omega)).trans ((lm_up_na (by omega)).trans ((lm_up_na (by omega)).trans ((lm_up_na (by omega)).trans ((lm_up_na (by omega)).trans (rTn H))))))))) ?_
  refine w_N 3 173 [.ref 123, .int (nI a0), .int (nI a1), .int (nI a2), .int (nI a3), .int (nI a4), .int (nI a5), .int 1, .ref (123 + (19 + n))] [.int ((nI n) + 1), .ref 123, .int (nI n)] rfl ?_
  refine w_pi rfl rfl rfl rfl (M_kd S) (M_64 S) ?_
  refine w_ri rfl rfl ?_
  have hk15 : True := trivial
  refine mq_ (mP_town P (⟨fun a ha => ?_, ?_⟩) (rT_add hn H (fun a h1 h2 => ?_) ?_ ⟨(lm_up_na (by omega)).trans ((lm_up_na (by omega)).trans ((lm_up_nk (by decide)).trans ((lm_up_nk (by decide)).trans ((lm_up_nk (by decide)).trans ((lm_up_nk (by decide)).trans ((lm_up_nk (by decide)).trans ((lm_up_nk (by decide)).trans (lm_up_eq)))))))), (lm_up_na (by omega)).trans ((lm_up_na (by omega)).trans ((lm_up_nk (by decide)).trans ((lm_up_nk (by decide)).trans ((lm_up_nk (by decide)).trans ((lm_up_nk (by decide)).trans ((lm_up_nk (by decide)).trans (lm_up_eq))))))), (lm_up_na (by omega)).trans ((lm_up_na (by omega)).trans ((lm_up_nk (by decide)).trans ((lm_up_nk (by decide)).trans ((lm_up_nk (by decide)).trans ((lm_up_nk (by decide)).trans (lm_up_eq)))))), (lm_up_na (by omega)).trans ((lm_up_na (by omega)).trans ((lm_up_nk (by decide)).trans ((lm_up_nk (by decide)).trans ((lm_up_nk (by decide)).trans (lm_up_eq))))), (lm_up_na (by omega)).trans ((lm_up_na (by omega)).trans ((lm_up_nk (by decide)).trans ((lm_up_nk (by decide)).trans (lm_up_eq)))), (lm_up_na (by omega)).trans ((lm_up_na (by omega)).trans ((lm_up_nk (by decide)).trans (lm_up_eq))), (lm_up_na (by omega)).trans ((lm_up_na (by omega)).trans (lm_up_eq))⟩) (rR_k1 HR ?_ (fun c hc => ?_) ?_ ?_ ?_ ?_ ?_))
  · rw [lm_up_rw (by omega), lm_up_rw (by omega), lm_up_rw (by omega), lm_up_rw (by omega), lm_up_rw (by omega), lm_up_rw (by omega), lm_up_rw (by omega), lm_up_rw (by omega), lm_up_rw (by omega)]
  · exact (lm_up_nk (by decide)).trans ((lm_up_nk (by decide)).trans ((lm_up_na (by omega)).trans ((lm_up_na (by omega)).trans ((lm_up_na (by omega)).trans ((lm_up_na (by omega)).trans ((lm_up_na (by omega)).trans ((lm_up_na (by omega)).trans ((lm_up_na (by omega)).trans (rfl)))))))))
  · rw [lm_up_rw h1, lm_up_rw h1, lm_up_rw h2, lm_up_rw h2, lm_up_rw h2, lm_up_rw h2, lm_up_rw h2, lm_up_rw h2, lm_up_rw h2]
  · exact (lm_up_eq).trans (nI_succ n).symm
  · exact (lm_up_nk (by decide)).trans ((lm_up_nk (by decide)).trans ((lm_up_na (by omega)).trans ((lm_up_na (by omega)).trans ((lm_up_na (by omega)).trans ((lm_up_na (by omega)).trans ((lm_up_na (by omega)).trans ((lm_up_na (by omega)).trans ((lm_up_na (by omega)).trans (HR.1.1)))))))))
  · exact (lm_up_na (by decide)).trans ((lm_up_na (by decide)).trans ((lm_up_na (by omega)).trans ((lm_up_na (by omega)).trans ((lm_up_na (by omega)).trans ((lm_up_na (by omega)).trans ((lm_up_na (by omega)).trans ((lm_up_na (by omega)).trans ((lm_up_na (by omega)).trans (HR.1.2 c hc)))))))))
  · exact (lm_up_nk (by decide)).trans (lm_up_eq)
  · exact (lm_up_nk (by decide)).trans ((lm_up_nk (by decide)).trans ((lm_up_na (by omega)).trans ((lm_up_na (by omega)).trans ((lm_up_na (by omega)).trans ((lm_up_na (by omega)).trans ((lm_up_na (by omega)).trans ((lm_up_na (by omega)).trans ((lm_up_na (by omega)).trans (rfl)))))))))
  · exact (lm_up_nk (by decide)).trans ((lm_up_nk (by decide)).trans ((lm_up_na (by omega)).trans ((lm_up_na (by omega)).trans ((lm_up_na (by omega)).trans ((lm_up_na (by omega)).trans ((lm_up_na (by omega)).trans ((lm_up_na (by omega)).trans ((lm_up_na (by omega)).trans (rfl)))))))))
  · exact (lm_up_nk (by decide)).trans ((lm_up_nk (by decide)).trans ((lm_up_na (by omega)).trans ((lm_up_na (by omega)).trans ((lm_up_na (by omega)).trans ((lm_up_na (by omega)).trans ((lm_up_na (by omega)).trans ((lm_up_na (by omega)).trans ((lm_up_na (by omega)).trans (rfl)))))))))
  · rw [lm_up_rw (by decide), lm_up_rw (by decide), lm_up_rw (by omega), lm_up_rw (by omega), lm_up_rw (by omega), lm_up_rw (by omega), lm_up_rw (by omega), lm_up_rw (by omega), lm_up_rw (by omega)]
theorem st_act {B D : Nat} {n ts : Nat} {T : lm_T} {R : Nat → Int32} {KO : ab_K} {V : ab_V} {tl F : Nat → Int32} {x0 x1 x2 x3 x4 x5 : Int32} (Z : okZ B D T n R KO V ts tl) (hB : B + 20 < 2000000) : STEP B 89 149 [.int x0, .int x1, .int x2, .int x3, .int x4, .int x5] T n R KO V ts tl F := by
  obtain ⟨hT, hO, hV, hts, htl, hDB, hB0, hKO⟩ := id Z
  by_cases hb : (wi x0 0 5 && wi x1 0 7 && wi x2 0 3 && wi x3 1 9 && wi x4 0 255 && wi x5 0 255) = false
  · exact ⟨_, D, _, _, _, _, _, _, _, _, okZ_up Z hB, fun _ _ _ _ _ _ P hC => x_act_b (d := 10) P hb hC, fun _ _ _ _ _ _ P => y_act_b (d := 10) P hb⟩
  · have hb2 : (wi x0 0 5 && wi x1 0 7 && wi x2 0 3 && wi x3 1 9 && wi x4 0 255 && wi x5 0 255) = true := by cases h : (wi x0 0 5 && wi x1 0 7 && wi x2 0 3 && wi x3 1 9 && wi x4 0 255 && wi x5 0 255) with | true => rfl | false => exact absurd h hb
    simp only [Bool.and_eq_true] at hb2
    obtain ⟨⟨⟨⟨⟨h0, h1⟩, h2⟩, h3⟩, h4⟩, h5⟩ := hb2
    obtain ⟨a0, rfl, g0⟩ := wi_e (n := 5) h0 (by decide)
    obtain ⟨a1, rfl, g1⟩ := wi_e (n := 7) h1 (by decide)
    obtain ⟨a2, rfl, g2⟩ := wi_e (n := 3) h2 (by decide)
    obtain ⟨a3, rfl, g3, g3b⟩ := wi_e1 (n := 9) h3 (by decide)
    obtain ⟨a4, rfl, g4⟩ := wi_e (n := 255) h4 (by decide)
    obtain ⟨a5, rfl, g5⟩ := wi_e (n := 255) h5 (by decide)
    by_cases hn : n = 10
    · exact ⟨_, D, _, _, _, _, _, _, _, _, okZ_up Z hB, fun _ _ _ _ _ _ P hC => x_act_f (d := 10) P g0 g1 g2 g3 g3b g4 g5 hn hC, fun _ _ _ _ _ _ P => y_act_f (d := 10) P g0 g1 g2 g3 g3b g4 g5 hn⟩
    · exact ⟨_, D, _, _, _, _, _, _, _, _, okZ_T Z hB (okT_ad hT g0 g1 g2 g3 g3b g4 g5) (okR_0 hO), fun _ _ _ _ _ _ P hC => x_act (d := 10) P g0 g1 g2 g3 g3b g4 g5 (by have := isTle P.2.2.1; omega) hC, fun _ _ _ _ _ _ P => y_act (d := 10) P g0 g1 g2 g3 g3b g4 g5 (by have := rTle P.2.2.1; omega)⟩
theorem x_mark_b {d : Nat} {hi : Nat → Nat → Int32} {hl : Nat → Nat → Int64} {X : lm_X} {hi0 : Nat → Nat → Int32} {hl0 : Nat → Nat → Int64} {C n ts : Nat} {T : lm_T} {R : Nat → Int32} {KO : ab_K} {V : ab_V} {tl F : Nat → Int32} (P : cP hi0 hl0 hi hl X C T n R KO V ts tl F) {mk : Int32} {is : Bool} (hb : (wi mk 0 7) = false) (hC : C + 25 < 2147483648) : lm_w (d + 30) 90 [.ref 64, .int mk, .int (bz is)] (hi, hl, X) (cQ hi0 hl0 X (C + 25) (.int (-2)) T n R KO V ts tl (rfU F (-2))) := by
  obtain ⟨S, O, H, HR, FO, HV, HT, HF, HK, E0, EL0⟩ := id P
  refine lm_w_in (Nat.le_of_ble_eq_true rfl) ?_
  show lm_wp (d + 30) 90 0 [.ref 64, .int mk, .int (bz is)] [] (hi, hl, X) _
  refine w_N 3 4 [.ref 64, .int mk, .int (bz is)] [.int 7, .int 0, .int mk] rfl ?_
  refine w_cc rfl x_within ?_
  show lm_wp _ 90 7 [.ref 64, .int mk, .int (bz is)] [.int (bz (wi mk 0 7))] (hi, hl, X) _
  refine w_zne (t := 17) rfl rfl (fun c1 => ?_) (fun c1 => ?_)
  · exact absurd hb (by simp [c1])
  · refine w_N 2 13 [.ref 64, .int mk, .int (bz is)] [.int (-2), .ref 64] rfl ?_
    refine w_ca (w_vst rfl rfl rfl (Nat.le_of_ble_eq_true rfl) (Nat.le_of_ble_eq_true rfl) (A_k S 64 (by decide))) (x_refuse P (by unfold isW; decide)) ?_
    rintro _ _ ⟨rfl, hi9, rfl, P9⟩
    show lm_wp _ 90 16 [.ref 64, .int mk, .int (bz is)] [.int (-2)] (hi9, hl, X) _
    refine w_ri rfl rfl ?_
    exact cq_ P9 (by omega) hC
theorem y_mark_b {d : Nat} {hi : Nat → Nat → Int32} {hl : Nat → Nat → Int64} {X : lm_X} {hi0 : Nat → Nat → Int32} {hl0 : Nat → Nat → Int64} {X0 : lm_X} {n ts : Nat} {T : lm_T} {R : Nat → Int32} {KO : ab_K} {V : ab_V} {tl F : Nat → Int32} (P : mP hi0 hl0 X0 hi hl X T n R KO V ts tl F) {mk : Int32} {is : Bool} (hb : (wi mk 0 7) = false) : lm_w (d + 30) 150 [.ref 123, .int mk, .int (bz is)] (hi, hl, X) (mQ hi0 hl0 X0 (.int (-2)) T n R KO V ts tl (rfU F (-2))) := by
  obtain ⟨SR, O, H, HR, HV, HT, HF, HK, E0, EL0, EX0⟩ := id P
  have S := SR.1
  refine lm_w_in (Nat.le_of_ble_eq_true rfl) ?_
  show lm_wp (d + 30) 150 0 [.ref 123, .int mk, .int (bz is), lm_jk] [] (hi, hl, X) _
  refine w_N 4 6 [.ref 123, .int mk, .int (bz is), lm_jk] [.long 7, .long 0, .long mk.toInt64] rfl ?_
  refine w_cc rfl (m_in (x := mk) (lo := 0) (up := 7) rfl (by decide) (by decide)) ?_
  show lm_wp _ 150 9 [.ref 123, .int mk, .int (bz is), lm_jk] [.int (bz (wi mk 0 7))] (hi, hl, X) _
  refine w_zne (t := 19) rfl rfl (fun c1 => ?_) (fun c1 => ?_)
  · exact absurd hb (by simp [c1])
  · refine w_N 2 15 [.ref 123, .int mk, .int (bz is), lm_jk] [.int (-2), .ref 123] rfl ?_
    refine w_ca (w_vst rfl rfl rfl (Nat.le_of_ble_eq_true rfl) (Nat.le_of_ble_eq_true rfl) (M_kd S)) (m_refuse P (by unfold isW; decide)) ?_
    rintro _ _ ⟨rfl, hi9, rfl, P9⟩
    show lm_wp _ 150 18 [.ref 123, .int mk, .int (bz is), lm_jk] [.int (-2)] (hi9, hl, X) _
    refine w_ri rfl rfl ?_
    exact mq_ P9
theorem x_mark_e {d : Nat} {hi : Nat → Nat → Int32} {hl : Nat → Nat → Int64} {X : lm_X} {hi0 : Nat → Nat → Int32} {hl0 : Nat → Nat → Int64} {C n ts : Nat} {T : lm_T} {R : Nat → Int32} {KO : ab_K} {V : ab_V} {tl F : Nat → Int32} (P : cP hi0 hl0 hi hl X C T n R KO V ts tl F) {m : Nat} {is : Bool} (hm : m < 8) (h : s_std (R 10) (nI m) = is) (hC : C + 25 < 2147483648) : lm_w (d + 30) 90 [.ref 64, .int (nI m), .int (bz is)] (hi, hl, X) (cQ hi0 hl0 X (C + 25) (.int 0) T n (lm_u1 R 15 0) KO V ts tl F) := by
  obtain ⟨S, O, H, HR, FO, HV, HT, HF, HK, E0, EL0⟩ := id P
  refine lm_w_in (Nat.le_of_ble_eq_true rfl) ?_
  show lm_wp (d + 30) 90 0 [.ref 64, .int (nI m), .int (bz is)] [] (hi, hl, X) _
  refine w_N 3 4 [.ref 64, .int (nI m), .int (bz is)] [.int 7, .int 0, .int (nI m)] rfl ?_
  refine w_cc rfl (x_within1 (wi_t (n := 7) (Nat.le_of_lt_succ hm) (by decide))) ?_
  show lm_wp _ 90 7 [.ref 64, .int (nI m), .int (bz is)] [.int 1] (hi, hl, X) _
  refine w_if_ne_t (t := 17) rfl rfl (by decide) ?_
  refine w_N 1 18 [.ref 64, .int (nI m), .int (bz is)] [.ref 64] rfl ?_
  refine w_gr 65 rfl rfl rfl (A_k S 64 (by decide)) (A_r S 64 0 (by decide)) ?_
  refine w_N 1 22 [.ref 64, .int (nI m), .int (bz is)] [.int 0, .ref 65] rfl ?_
  refine w_pb rfl rfl rfl rfl (T_kd (A_T65 S)) (T_64 (A_T65 S)) (by decide) ?_
  refine w_N 1 26 [.ref 64, .int (nI m), .int (bz is)] [.ref 64] rfl ?_
  refine w_gr 65 rfl rfl rfl (A_k S 64 (by decide)) (A_r S 64 0 (by decide)) ?_
  refine w_gi (v := R 10) rfl rfl rfl (T_kd (A_T65 S)) ((lm_up_nk (by decide)).trans (HR.1)) ?_
  refine w_N 1 33 [.ref 64, .int (nI m), .int (bz is)] [.int (nI m), .int (R 10)] rfl ?_
  refine w_cc rfl c_X4_isStanding ?_
  show lm_wp _ 90 36 [.ref 64, .int (nI m), .int (bz is)] [.int (bz (s_std (R 10) (nI m)))] (lm_up hi 65 15 0, hl, X) _
  refine w_N 1 37 [.ref 64, .int (nI m), .int (bz is)] [.int (bz is), .int (bz (s_std (R 10) (nI m)))] rfl ?_
  refine w_icmp_ne_f (t := 42) rfl rfl (congrArg bz h) ?_
  refine w_N 1 41 [.ref 64, .int (nI m), .int (bz is)] [.int 0] rfl ?_
  refine w_ri rfl rfl ?_
  exact cq_ (cP_R (k := 15) (v := 0) (by decide) P) (by omega) hC
theorem x_mark_n {d : Nat} {hi : Nat → Nat → Int32} {hl : Nat → Nat → Int64} {X : lm_X} {hi0 : Nat → Nat → Int32} {hl0 : Nat → Nat → Int64} {C n ts : Nat} {T : lm_T} {R : Nat → Int32} {KO : ab_K} {V : ab_V} {tl F : Nat → Int32} (P : cP hi0 hl0 hi hl X C T n R KO V ts tl F) {m : Nat} {is : Bool} (hm : m < 8) (h : ¬ s_std (R 10) (nI m) = is) (hC : C + 25 < 2147483648) : lm_w (d + 30) 90 [.ref 64, .int (nI m), .int (bz is)] (hi, hl, X) (cQ hi0 hl0 X (C + 25) (.int 1) T n (lm_u1 (lm_u1 R 15 0) 10 (s_turn (R 10) (nI m))) KO V ts tl F) := by
  obtain ⟨S, O, H, HR, FO, HV, HT, HF, HK, E0, EL0⟩ := id P
  refine lm_w_in (Nat.le_of_ble_eq_true rfl) ?_
  show lm_wp (d + 30) 90 0 [.ref 64, .int (nI m), .int (bz is)] [] (hi, hl, X) _
  refine w_N 3 4 [.ref 64, .int (nI m), .int (bz is)] [.int 7, .int 0, .int (nI m)] rfl ?_
  refine w_cc rfl (x_within1 (wi_t (n := 7) (Nat.le_of_lt_succ hm) (by decide))) ?_
  show lm_wp _ 90 7 [.ref 64, .int (nI m), .int (bz is)] [.int 1] (hi, hl, X) _
  refine w_if_ne_t (t := 17) rfl rfl (by decide) ?_
  refine w_N 1 18 [.ref 64, .int (nI m), .int (bz is)] [.ref 64] rfl ?_
  refine w_gr 65 rfl rfl rfl (A_k S 64 (by decide)) (A_r S 64 0 (by decide)) ?_
  refine w_N 1 22 [.ref 64, .int (nI m), .int (bz is)] [.int 0, .ref 65] rfl ?_
  refine w_pb rfl rfl rfl rfl (T_kd (A_T65 S)) (T_64 (A_T65 S)) (by decide) ?_
  refine w_N 1 26 [.ref 64, .int (nI m), .int (bz is)] [.ref 64] rfl ?_
  refine w_gr 65 rfl rfl rfl (A_k S 64 (by decide)) (A_r S 64 0 (by decide)) ?_
  refine w_gi (v := R 10) rfl rfl rfl (T_kd (A_T65 S)) ((lm_up_nk (by decide)).trans (HR.1)) ?_
  refine w_N 1 33 [.ref 64, .int (nI m), .int (bz is)] [.int (nI m), .int (R 10)] rfl ?_
  refine w_cc rfl c_X4_isStanding ?_
  show lm_wp _ 90 36 [.ref 64, .int (nI m), .int (bz is)] [.int (bz (s_std (R 10) (nI m)))] (lm_up hi 65 15 0, hl, X) _
  refine w_N 1 37 [.ref 64, .int (nI m), .int (bz is)] [.int (bz is), .int (bz (s_std (R 10) (nI m)))] rfl ?_
  refine w_icmp_ne_t (t := 42) rfl rfl (fun z => h (bz_inj.mp z)) ?_
  refine w_N 1 43 [.ref 64, .int (nI m), .int (bz is)] [.ref 64] rfl ?_
  refine w_gr 65 rfl rfl rfl (A_k S 64 (by decide)) (A_r S 64 0 (by decide)) ?_
  refine w_N 1 47 [.ref 64, .int (nI m), .int (bz is)] [.ref 64, .ref 65] rfl ?_
  refine w_gr 65 rfl rfl rfl (A_k S 64 (by decide)) (A_r S 64 0 (by decide)) ?_
  refine w_gi (v := R 10) rfl rfl rfl (T_kd (A_T65 S)) ((lm_up_nk (by decide)).trans (HR.1)) ?_
  refine w_N 1 54 [.ref 64, .int (nI m), .int (bz is)] [.int (nI m), .int (R 10), .ref 65] rfl ?_
  refine w_cc rfl c_X4_turned ?_
  show lm_wp _ 90 57 [.ref 64, .int (nI m), .int (bz is)] [.int (s_turn (R 10) (nI m)), .ref 65] (lm_up hi 65 15 0, hl, X) _
  refine w_pi rfl rfl rfl rfl (T_kd (A_T65 S)) (T_64 (A_T65 S)) ?_
  refine w_N 1 61 [.ref 64, .int (nI m), .int (bz is)] [.int 1] rfl ?_
  refine w_ri rfl rfl ?_
  exact cq_ (cP_R (k := 10) (by decide) (cP_R (k := 15) (v := 0) (by decide) P)) (by omega) hC
theorem or_same {s : Int32} {m : Nat} (hm : m < 8) (h : s_std s (nI m) = true) : s_marks s ||| (1 <<< (nI m &&& 31)) = s_marks s := by
  apply bt_ext
  intro i hi
  rw [bt_or, bt_lit m hm hi]
  by_cases e : m = i
  · subst e
    rw [std_bt hm] at h
    rw [bt_marks hi, h]
    simp [hm]
  · simp [e]
theorem and_same {s : Int32} {m : Nat} (hm : m < 8) (h : s_std s (nI m) = false) : s_marks s &&& ((1 <<< (nI m &&& 31)) ^^^ (-1)) = s_marks s := by
  apply bt_ext
  intro i hi
  rw [bt_and, bt_xor, bt_lit m hm hi, bt_m1 hi]
  by_cases e : m = i
  · subst e
    rw [std_bt hm] at h
    rw [bt_marks hi, h]
    simp
  · simp [e]
theorem y_mark_e {d : Nat} {hi : Nat → Nat → Int32} {hl : Nat → Nat → Int64} {X : lm_X} {hi0 : Nat → Nat → Int32} {hl0 : Nat → Nat → Int64} {X0 : lm_X} {n ts : Nat} {T : lm_T} {R : Nat → Int32} {KO : ab_K} {V : ab_V} {tl F : Nat → Int32} (P : mP hi0 hl0 X0 hi hl X T n R KO V ts tl F) {m : Nat} {is : Bool} (hm : m < 8) (h : s_std (R 10) (nI m) = is) : lm_w (d + 30) 150 [.ref 123, .int (nI m), .int (bz is)] (hi, hl, X) (mQ hi0 hl0 X0 (.int 0) T n (lm_u1 R 15 0) KO V ts tl F) := by
  obtain ⟨SR, O, H, HR, HV, HT, HF, HK, E0, EL0, EX0⟩ := id P
  have S := SR.1
  refine lm_w_in (Nat.le_of_ble_eq_true rfl) ?_
  show lm_wp (d + 30) 150 0 [.ref 123, .int (nI m), .int (bz is), lm_jk] [] (hi, hl, X) _
  refine w_N 4 6 [.ref 123, .int (nI m), .int (bz is), lm_jk] [.long 7, .long 0, .long ((nI m).toInt64)] rfl ?_
  refine w_cc rfl (lm_c_1 (m_in (x := nI m) (lo := 0) (up := 7) rfl (by decide) (by decide)) (wi_t (n := 7) (Nat.le_of_lt_succ hm) (by decide))) ?_
  show lm_wp _ 150 9 [.ref 123, .int (nI m), .int (bz is), lm_jk] [.int 1] (hi, hl, X) _
  refine w_if_ne_t (t := 19) rfl rfl (by decide) ?_
  refine w_N 1 20 [.ref 123, .int (nI m), .int (bz is), lm_jk] [.ref 123] rfl ?_
  refine w_gi (v := s_marks (R 10)) rfl rfl rfl (M_kd S) (HR.1.1) ?_
  refine w_N 1 24 [.ref 123, .int (nI m), .int (bz is), lm_jk] [.int (nI m), .int (s_marks (R 10))] rfl ?_
  refine w_cc rfl (lm_c_v m_has (by rw [std_marks hm])) ?_
  show lm_wp _ 150 27 [.ref 123, .int (nI m), .int (bz is), lm_jk] [.int (bz (s_std (R 10) (nI m)))] (hi, hl, X) _
  refine w_N 3 30 [.ref 123, .int (nI m), .int (bz is), .int (bz (s_std (R 10) (nI m)))] [.int (bz is), .ref 123] rfl ?_
  refine w_zeq (t := 44) rfl rfl (fun c1 => ?_) (fun c1 => ?_)
  · refine w_N 1 45 [.ref 123, .int (nI m), .int (bz is), .int (bz (s_std (R 10) (nI m)))] [.ref 123, .ref 123] rfl ?_
    refine w_gi (v := s_marks (R 10)) rfl rfl rfl (M_kd S) (HR.1.1) ?_
    refine w_N 6 54 [.ref 123, .int (nI m), .int (bz is), .int (bz (s_std (R 10) (nI m)))] [.int ((s_marks (R 10)) &&& ((1 <<< ((nI m) &&& 31)) ^^^ (-1))), .ref 123] rfl ?_
    refine w_pi rfl rfl rfl rfl (M_kd S) (M_64 S) ?_
    refine w_N 2 59 [.ref 123, .int (nI m), .int (bz is), .int (bz (s_std (R 10) (nI m)))] [.int 0, .ref 123] rfl ?_
    refine w_pb rfl rfl rfl rfl (M_kd S) (M_64 S) (by decide) ?_
    refine w_N 2 64 [.ref 123, .int (nI m), .int (bz is), .int (bz (s_std (R 10) (nI m)))] [.int (bz is), .int (bz (s_std (R 10) (nI m)))] rfl ?_
    refine w_icmp_eq_t (t := 71) rfl rfl (congrArg bz h) ?_
    refine w_N 1 72 [.ref 123, .int (nI m), .int (bz is), .int (bz (s_std (R 10) (nI m)))] [.int 0] rfl ?_
    refine w_ri rfl rfl ?_
    have hs : s_std (R 10) (nI m) = false := h.trans (show is = false from c1)
    refine mq_ (mP_town P ⟨fun a ha => ?_, ?_⟩ ⟨fun k hk a ha => ?_, fun h hh w hw => ?_, ?_, rTle H⟩ (rR_k1 HR ?_ (fun c hc => ?_) ?_ ?_ ?_ ?_ ?_))
    · rw [lm_up_rw (by omega), lm_up_rw (by omega)]
    · exact (lm_up_nk (by decide)).trans ((lm_up_nk (by decide)).trans (rfl))
    · rw [lm_up_na (by omega), lm_up_na (by omega)]; exact H.1 k hk a ha
    · rw [lm_up_na (by omega), lm_up_na (by omega)]; exact H.2.1 h hh w hw
    · exact (lm_up_nk (by decide)).trans ((lm_up_nk (by decide)).trans (H.2.2.1))
    · exact ((lm_up_nk (by decide)).trans (lm_up_eq)).trans (and_same hm hs)
    · rw [lm_up_na (by decide), lm_up_na (by decide)]; exact HR.1.2 c hc
    · exact lm_up_eq
    · exact (lm_up_nk (by decide)).trans ((lm_up_nk (by decide)).trans (rfl))
    · exact (lm_up_nk (by decide)).trans ((lm_up_nk (by decide)).trans (rfl))
    · exact (lm_up_nk (by decide)).trans ((lm_up_nk (by decide)).trans (rfl))
    · rw [lm_up_rw (by decide), lm_up_rw (by decide)]
  · refine w_N 1 34 [.ref 123, .int (nI m), .int (bz is), .int (bz (s_std (R 10) (nI m)))] [.ref 123, .ref 123] rfl ?_
    refine w_gi (v := s_marks (R 10)) rfl rfl rfl (M_kd S) (HR.1.1) ?_
    refine w_N 5 54 [.ref 123, .int (nI m), .int (bz is), .int (bz (s_std (R 10) (nI m)))] [.int ((s_marks (R 10)) ||| (1 <<< ((nI m) &&& 31))), .ref 123] rfl ?_
    refine w_pi rfl rfl rfl rfl (M_kd S) (M_64 S) ?_
    refine w_N 2 59 [.ref 123, .int (nI m), .int (bz is), .int (bz (s_std (R 10) (nI m)))] [.int 0, .ref 123] rfl ?_
    refine w_pb rfl rfl rfl rfl (M_kd S) (M_64 S) (by decide) ?_
    refine w_N 2 64 [.ref 123, .int (nI m), .int (bz is), .int (bz (s_std (R 10) (nI m)))] [.int (bz is), .int (bz (s_std (R 10) (nI m)))] rfl ?_
    refine w_icmp_eq_t (t := 71) rfl rfl (congrArg bz h) ?_
    refine w_N 1 72 [.ref 123, .int (nI m), .int (bz is), .int (bz (s_std (R 10) (nI m)))] [.int 0] rfl ?_
    refine w_ri rfl rfl ?_
    have hs : s_std (R 10) (nI m) = true := h.trans (show is = true from c1)
    refine mq_ (mP_town P ⟨fun a ha => ?_, ?_⟩ ⟨fun k hk a ha => ?_, fun h hh w hw => ?_, ?_, rTle H⟩ (rR_k1 HR ?_ (fun c hc => ?_) ?_ ?_ ?_ ?_ ?_))
    · rw [lm_up_rw (by omega), lm_up_rw (by omega)]
    · exact (lm_up_nk (by decide)).trans ((lm_up_nk (by decide)).trans (rfl))
    · rw [lm_up_na (by omega), lm_up_na (by omega)]; exact H.1 k hk a ha
    · rw [lm_up_na (by omega), lm_up_na (by omega)]; exact H.2.1 h hh w hw
    · exact (lm_up_nk (by decide)).trans ((lm_up_nk (by decide)).trans (H.2.2.1))
    · exact ((lm_up_nk (by decide)).trans (lm_up_eq)).trans (or_same hm hs)
    · rw [lm_up_na (by decide), lm_up_na (by decide)]; exact HR.1.2 c hc
    · exact lm_up_eq
    · exact (lm_up_nk (by decide)).trans ((lm_up_nk (by decide)).trans (rfl))
    · exact (lm_up_nk (by decide)).trans ((lm_up_nk (by decide)).trans (rfl))
    · exact (lm_up_nk (by decide)).trans ((lm_up_nk (by decide)).trans (rfl))
    · rw [lm_up_rw (by decide), lm_up_rw (by decide)]
theorem y_mark_n {d : Nat} {hi : Nat → Nat → Int32} {hl : Nat → Nat → Int64} {X : lm_X} {hi0 : Nat → Nat → Int32} {hl0 : Nat → Nat → Int64} {X0 : lm_X} {n ts : Nat} {T : lm_T} {R : Nat → Int32} {KO : ab_K} {V : ab_V} {tl F : Nat → Int32} (P : mP hi0 hl0 X0 hi hl X T n R KO V ts tl F) {m : Nat} {is : Bool} (hm : m < 8) (h : ¬ s_std (R 10) (nI m) = is) : lm_w (d + 30) 150 [.ref 123, .int (nI m), .int (bz is)] (hi, hl, X) (mQ hi0 hl0 X0 (.int 1) T n (lm_u1 (lm_u1 R 15 0) 10 (s_turn (R 10) (nI m))) KO V ts tl F) := by
  obtain ⟨SR, O, H, HR, HV, HT, HF, HK, E0, EL0, EX0⟩ := id P
  have S := SR.1
  refine lm_w_in (Nat.le_of_ble_eq_true rfl) ?_
  show lm_wp (d + 30) 150 0 [.ref 123, .int (nI m), .int (bz is), lm_jk] [] (hi, hl, X) _
  refine w_N 4 6 [.ref 123, .int (nI m), .int (bz is), lm_jk] [.long 7, .long 0, .long ((nI m).toInt64)] rfl ?_
  refine w_cc rfl (lm_c_1 (m_in (x := nI m) (lo := 0) (up := 7) rfl (by decide) (by decide)) (wi_t (n := 7) (Nat.le_of_lt_succ hm) (by decide))) ?_
  show lm_wp _ 150 9 [.ref 123, .int (nI m), .int (bz is), lm_jk] [.int 1] (hi, hl, X) _
  refine w_if_ne_t (t := 19) rfl rfl (by decide) ?_
  refine w_N 1 20 [.ref 123, .int (nI m), .int (bz is), lm_jk] [.ref 123] rfl ?_
  refine w_gi (v := s_marks (R 10)) rfl rfl rfl (M_kd S) (HR.1.1) ?_
  refine w_N 1 24 [.ref 123, .int (nI m), .int (bz is), lm_jk] [.int (nI m), .int (s_marks (R 10))] rfl ?_
  refine w_cc rfl (lm_c_v m_has (by rw [std_marks hm])) ?_
  show lm_wp _ 150 27 [.ref 123, .int (nI m), .int (bz is), lm_jk] [.int (bz (s_std (R 10) (nI m)))] (hi, hl, X) _
  refine w_N 3 30 [.ref 123, .int (nI m), .int (bz is), .int (bz (s_std (R 10) (nI m)))] [.int (bz is), .ref 123] rfl ?_
  refine w_zeq (t := 44) rfl rfl (fun c1 => ?_) (fun c1 => ?_)
  · refine w_N 1 45 [.ref 123, .int (nI m), .int (bz is), .int (bz (s_std (R 10) (nI m)))] [.ref 123, .ref 123] rfl ?_
    refine w_gi (v := s_marks (R 10)) rfl rfl rfl (M_kd S) (HR.1.1) ?_
    refine w_N 6 54 [.ref 123, .int (nI m), .int (bz is), .int (bz (s_std (R 10) (nI m)))] [.int ((s_marks (R 10)) &&& ((1 <<< ((nI m) &&& 31)) ^^^ (-1))), .ref 123] rfl ?_
    refine w_pi rfl rfl rfl rfl (M_kd S) (M_64 S) ?_
    refine w_N 2 59 [.ref 123, .int (nI m), .int (bz is), .int (bz (s_std (R 10) (nI m)))] [.int 0, .ref 123] rfl ?_
    refine w_pb rfl rfl rfl rfl (M_kd S) (M_64 S) (by decide) ?_
    refine w_N 2 64 [.ref 123, .int (nI m), .int (bz is), .int (bz (s_std (R 10) (nI m)))] [.int (bz is), .int (bz (s_std (R 10) (nI m)))] rfl ?_
    refine w_icmp_eq_f (t := 71) rfl rfl (fun z => h (bz_inj.mp z)) ?_
    refine w_N 2 72 [.ref 123, .int (nI m), .int (bz is), .int (bz (s_std (R 10) (nI m)))] [.int 1] rfl ?_
    refine w_ri rfl rfl ?_
    have hs : s_std (R 10) (nI m) = true := by
      have q : is = false := c1
      rw [q] at h
      simpa using h
    refine mq_ (mP_town P ⟨fun a ha => ?_, ?_⟩ ⟨fun k hk a ha => ?_, fun h hh w hw => ?_, ?_, rTle H⟩ (rR_k0 (s' := s_turn (R 10) (nI m)) HR ?_ (fun c hc => ?_) ?_ ?_ ?_ ?_ ?_))
    · rw [lm_up_rw (by omega), lm_up_rw (by omega)]
    · exact (lm_up_nk (by decide)).trans ((lm_up_nk (by decide)).trans (rfl))
    · rw [lm_up_na (by omega), lm_up_na (by omega)]; exact H.1 k hk a ha
    · rw [lm_up_na (by omega), lm_up_na (by omega)]; exact H.2.1 h hh w hw
    · exact (lm_up_nk (by decide)).trans ((lm_up_nk (by decide)).trans (H.2.2.1))
    · exact ((lm_up_nk (by decide)).trans (lm_up_eq)).trans (and_turn (by omega) hs)
    · rw [lm_up_na (by decide), lm_up_na (by decide)]; rw [count_turn hc hm]; exact HR.1.2 c hc
    · exact lm_up_eq
    · exact (lm_up_nk (by decide)).trans ((lm_up_nk (by decide)).trans (rfl))
    · exact (lm_up_nk (by decide)).trans ((lm_up_nk (by decide)).trans (rfl))
    · exact (lm_up_nk (by decide)).trans ((lm_up_nk (by decide)).trans (rfl))
    · rw [lm_up_rw (by decide), lm_up_rw (by decide)]
  · refine w_N 1 34 [.ref 123, .int (nI m), .int (bz is), .int (bz (s_std (R 10) (nI m)))] [.ref 123, .ref 123] rfl ?_
    refine w_gi (v := s_marks (R 10)) rfl rfl rfl (M_kd S) (HR.1.1) ?_
    refine w_N 5 54 [.ref 123, .int (nI m), .int (bz is), .int (bz (s_std (R 10) (nI m)))] [.int ((s_marks (R 10)) ||| (1 <<< ((nI m) &&& 31))), .ref 123] rfl ?_
    refine w_pi rfl rfl rfl rfl (M_kd S) (M_64 S) ?_
    refine w_N 2 59 [.ref 123, .int (nI m), .int (bz is), .int (bz (s_std (R 10) (nI m)))] [.int 0, .ref 123] rfl ?_
    refine w_pb rfl rfl rfl rfl (M_kd S) (M_64 S) (by decide) ?_
    refine w_N 2 64 [.ref 123, .int (nI m), .int (bz is), .int (bz (s_std (R 10) (nI m)))] [.int (bz is), .int (bz (s_std (R 10) (nI m)))] rfl ?_
    refine w_icmp_eq_f (t := 71) rfl rfl (fun z => h (bz_inj.mp z)) ?_
    refine w_N 2 72 [.ref 123, .int (nI m), .int (bz is), .int (bz (s_std (R 10) (nI m)))] [.int 1] rfl ?_
    refine w_ri rfl rfl ?_
    have hs : s_std (R 10) (nI m) = false := by
      have q : is = true := c1
      rw [q] at h
      simpa using h
    refine mq_ (mP_town P ⟨fun a ha => ?_, ?_⟩ ⟨fun k hk a ha => ?_, fun h hh w hw => ?_, ?_, rTle H⟩ (rR_k0 (s' := s_turn (R 10) (nI m)) HR ?_ (fun c hc => ?_) ?_ ?_ ?_ ?_ ?_))
    · rw [lm_up_rw (by omega), lm_up_rw (by omega)]
    · exact (lm_up_nk (by decide)).trans ((lm_up_nk (by decide)).trans (rfl))
    · rw [lm_up_na (by omega), lm_up_na (by omega)]; exact H.1 k hk a ha
    · rw [lm_up_na (by omega), lm_up_na (by omega)]; exact H.2.1 h hh w hw
    · exact (lm_up_nk (by decide)).trans ((lm_up_nk (by decide)).trans (H.2.2.1))
    · exact ((lm_up_nk (by decide)).trans (lm_up_eq)).trans (or_turn (by omega) hs)
    · rw [lm_up_na (by decide), lm_up_na (by decide)]; rw [count_turn hc hm]; exact HR.1.2 c hc
    · exact lm_up_eq
    · exact (lm_up_nk (by decide)).trans ((lm_up_nk (by decide)).trans (rfl))
    · exact (lm_up_nk (by decide)).trans ((lm_up_nk (by decide)).trans (rfl))
    · exact (lm_up_nk (by decide)).trans ((lm_up_nk (by decide)).trans (rfl))
    · rw [lm_up_rw (by decide), lm_up_rw (by decide)]
theorem st_mark {B D : Nat} {n ts : Nat} {T : lm_T} {R : Nat → Int32} {KO : ab_K} {V : ab_V} {tl F : Nat → Int32} {mk : Int32} {is : Bool} (Z : okZ B D T n R KO V ts tl) (hB : B + 20 < 2000000) : STEP B 90 150 [.int mk, .int (bz is)] T n R KO V ts tl F := by
  obtain ⟨hT, hO, hV, hts, htl, hDB, hB0, hKO⟩ := id Z
  cases hb : wi mk 0 7
  · exact ⟨_, D, _, _, _, _, _, _, _, _, okZ_up Z hB, fun _ _ _ _ _ _ P hC => x_mark_b (d := 10) P hb hC, fun _ _ _ _ _ _ P => y_mark_b (d := 10) P hb⟩
  · obtain ⟨m, rfl, hm⟩ := wi_e (n := 7) hb (by decide)
    by_cases h : s_std (R 10) (nI m) = is
    · exact ⟨_, D, _, _, _, _, _, _, _, _, okZ_T Z hB hT (okR_0 hO), fun _ _ _ _ _ _ P hC => x_mark_e (d := 10) P (by omega) h hC, fun _ _ _ _ _ _ P => y_mark_e (d := 10) P (by omega) h⟩
    · exact ⟨_, D, _, _, _, _, _, _, _, _, okZ_T Z hB hT (okR_s hO (okS_turn hO.1 (by omega)) (awk_turn (by omega))), fun _ _ _ _ _ _ P hC => x_mark_n (d := 10) P (by omega) h hC, fun _ _ _ _ _ _ P => y_mark_n (d := 10) P (by omega) h⟩
theorem x_count_b {d : Nat} {hi : Nat → Nat → Int32} {hl : Nat → Nat → Int64} {X : lm_X} {hi0 : Nat → Nat → Int32} {hl0 : Nat → Nat → Int64} {C n ts : Nat} {T : lm_T} {R : Nat → Int32} {KO : ab_K} {V : ab_V} {tl F : Nat → Int32} (P : cP hi0 hl0 hi hl X C T n R KO V ts tl F) {c v : Int32}  (hb : (wi c 0 3 && wi v 0 23) = false) (hC : C + 25 < 2147483648) : lm_w (d + 30) 91 [.ref 64, .int c, .int v] (hi, hl, X) (cQ hi0 hl0 X (C + 25) (.int (-2)) T n R KO V ts tl (rfU F (-2))) := by
  obtain ⟨S, O, H, HR, FO, HV, HT, HF, HK, E0, EL0⟩ := id P
  refine lm_w_in (Nat.le_of_ble_eq_true rfl) ?_
  show lm_wp (d + 30) 91 0 [.ref 64, .int c, .int v, lm_jk] [] (hi, hl, X) _
  refine w_N 3 3 [.ref 64, .int c, .int v, lm_jk] [.int 3, .int 0, .int c] rfl ?_
  refine w_cc rfl x_within ?_
  show lm_wp _ 91 6 [.ref 64, .int c, .int v, lm_jk] [.int (bz (wi c 0 3))] (hi, hl, X) _
  refine w_zeq (t := 19) rfl rfl (fun c1 => ?_) (fun c1 => ?_)
  · refine w_N 2 22 [.ref 64, .int c, .int v, lm_jk] [.int (-2), .ref 64] rfl ?_
    refine w_ca (w_vst rfl rfl rfl (Nat.le_of_ble_eq_true rfl) (Nat.le_of_ble_eq_true rfl) (A_k S 64 (by decide))) (x_refuse P (by unfold isW; decide)) ?_
    rintro _ _ ⟨rfl, hi9, rfl, P9⟩
    show lm_wp _ 91 25 [.ref 64, .int c, .int v, lm_jk] [.int (-2)] (hi9, hl, X) _
    refine w_ri rfl rfl ?_
    exact cq_ P9 (by omega) hC
  · refine w_N 3 13 [.ref 64, .int c, .int v, lm_jk] [.int 23, .int 0, .int v] rfl ?_
    refine w_cc rfl x_within ?_
    show lm_wp _ 91 16 [.ref 64, .int c, .int v, lm_jk] [.int (bz (wi v 0 23))] (hi, hl, X) _
    refine w_zne (t := 26) rfl rfl (fun c2 => ?_) (fun c2 => ?_)
    · exact absurd hb (by simp [c1, c2])
    · refine w_N 2 22 [.ref 64, .int c, .int v, lm_jk] [.int (-2), .ref 64] rfl ?_
      refine w_ca (w_vst rfl rfl rfl (Nat.le_of_ble_eq_true rfl) (Nat.le_of_ble_eq_true rfl) (A_k S 64 (by decide))) (x_refuse P (by unfold isW; decide)) ?_
      rintro _ _ ⟨rfl, hi9, rfl, P9⟩
      show lm_wp _ 91 25 [.ref 64, .int c, .int v, lm_jk] [.int (-2)] (hi9, hl, X) _
      refine w_ri rfl rfl ?_
      exact cq_ P9 (by omega) hC
theorem y_count_b {d : Nat} {hi : Nat → Nat → Int32} {hl : Nat → Nat → Int64} {X : lm_X} {hi0 : Nat → Nat → Int32} {hl0 : Nat → Nat → Int64} {X0 : lm_X} {n ts : Nat} {T : lm_T} {R : Nat → Int32} {KO : ab_K} {V : ab_V} {tl F : Nat → Int32} (P : mP hi0 hl0 X0 hi hl X T n R KO V ts tl F) {c v : Int32}  (hb : (wi c 0 3 && wi v 0 23) = false) : lm_w (d + 30) 151 [.ref 123, .int c, .int v] (hi, hl, X) (mQ hi0 hl0 X0 (.int (-2)) T n R KO V ts tl (rfU F (-2))) := by
  obtain ⟨SR, O, H, HR, HV, HT, HF, HK, E0, EL0, EX0⟩ := id P
  have S := SR.1
  refine lm_w_in (Nat.le_of_ble_eq_true rfl) ?_
  show lm_wp (d + 30) 151 0 [.ref 123, .int c, .int v, lm_jk] [] (hi, hl, X) _
  refine w_N 4 6 [.ref 123, .int c, .int v, lm_jk] [.long 3, .long 0, .long c.toInt64] rfl ?_
  refine w_cc rfl (m_in (x := c) (lo := 0) (up := 3) rfl (by decide) (by decide)) ?_
  show lm_wp _ 151 9 [.ref 123, .int c, .int v, lm_jk] [.int (bz (wi c 0 3))] (hi, hl, X) _
  refine w_zeq (t := 24) rfl rfl (fun c1 => ?_) (fun c1 => ?_)
  · refine w_N 2 27 [.ref 123, .int c, .int v, lm_jk] [.int (-2), .ref 123] rfl ?_
    refine w_ca (w_vst rfl rfl rfl (Nat.le_of_ble_eq_true rfl) (Nat.le_of_ble_eq_true rfl) (M_kd S)) (m_refuse P (by unfold isW; decide)) ?_
    rintro _ _ ⟨rfl, hi9, rfl, P9⟩
    show lm_wp _ 151 30 [.ref 123, .int c, .int v, lm_jk] [.int (-2)] (hi9, hl, X) _
    refine w_ri rfl rfl ?_
    exact mq_ P9
  · refine w_N 4 18 [.ref 123, .int c, .int v, lm_jk] [.long 23, .long 0, .long v.toInt64] rfl ?_
    refine w_cc rfl (m_in (x := v) (lo := 0) (up := 23) rfl (by decide) (by decide)) ?_
    show lm_wp _ 151 21 [.ref 123, .int c, .int v, lm_jk] [.int (bz (wi v 0 23))] (hi, hl, X) _
    refine w_zne (t := 31) rfl rfl (fun c2 => ?_) (fun c2 => ?_)
    · exact absurd hb (by simp [c1, c2])
    · refine w_N 2 27 [.ref 123, .int c, .int v, lm_jk] [.int (-2), .ref 123] rfl ?_
      refine w_ca (w_vst rfl rfl rfl (Nat.le_of_ble_eq_true rfl) (Nat.le_of_ble_eq_true rfl) (M_kd S)) (m_refuse P (by unfold isW; decide)) ?_
      rintro _ _ ⟨rfl, hi9, rfl, P9⟩
      show lm_wp _ 151 30 [.ref 123, .int c, .int v, lm_jk] [.int (-2)] (hi9, hl, X) _
      refine w_ri rfl rfl ?_
      exact mq_ P9
theorem x_count {d : Nat} {hi : Nat → Nat → Int32} {hl : Nat → Nat → Int64} {X : lm_X} {hi0 : Nat → Nat → Int32} {hl0 : Nat → Nat → Int64} {C n ts : Nat} {T : lm_T} {R : Nat → Int32} {KO : ab_K} {V : ab_V} {tl F : Nat → Int32} (P : cP hi0 hl0 hi hl X C T n R KO V ts tl F) {c v : Nat} (hc : c < 4) (hv : v ≤ 23) (hC : C + 25 < 2147483648) : lm_w (d + 30) 91 [.ref 64, .int (nI c), .int (nI v)] (hi, hl, X) (cQ hi0 hl0 X (C + 25) (.int (s_count (R 10) (nI c))) T n (lm_u1 (lm_u1 R 15 0) 10 (s_with (R 10) (nI c) (nI v))) KO V ts tl F) := by
  obtain ⟨S, O, H, HR, FO, HV, HT, HF, HK, E0, EL0⟩ := id P
  refine lm_w_in (Nat.le_of_ble_eq_true rfl) ?_
  show lm_wp (d + 30) 91 0 [.ref 64, .int (nI c), .int (nI v), lm_jk] [] (hi, hl, X) _
  refine w_N 3 3 [.ref 64, .int (nI c), .int (nI v), lm_jk] [.int 3, .int 0, .int (nI c)] rfl ?_
  refine w_cc rfl (x_within1 (wi_t (n := 3) (Nat.le_of_lt_succ hc) (by decide))) ?_
  show lm_wp _ 91 6 [.ref 64, .int (nI c), .int (nI v), lm_jk] [.int 1] (hi, hl, X) _
  refine w_if_eq_f (t := 19) rfl rfl (by decide) ?_
  refine w_N 3 13 [.ref 64, .int (nI c), .int (nI v), lm_jk] [.int 23, .int 0, .int (nI v)] rfl ?_
  refine w_cc rfl (x_within1 (wi_t (n := 23) hv (by decide))) ?_
  show lm_wp _ 91 16 [.ref 64, .int (nI c), .int (nI v), lm_jk] [.int 1] (hi, hl, X) _
  refine w_if_ne_t (t := 26) rfl rfl (by decide) ?_
  refine w_N 1 27 [.ref 64, .int (nI c), .int (nI v), lm_jk] [.ref 64] rfl ?_
  refine w_gr 65 rfl rfl rfl (A_k S 64 (by decide)) (A_r S 64 0 (by decide)) ?_
  refine w_N 1 31 [.ref 64, .int (nI c), .int (nI v), lm_jk] [.int 0, .ref 65] rfl ?_
  refine w_pb rfl rfl rfl rfl (T_kd (A_T65 S)) (T_64 (A_T65 S)) (by decide) ?_
  refine w_N 1 35 [.ref 64, .int (nI c), .int (nI v), lm_jk] [.ref 64] rfl ?_
  refine w_gr 65 rfl rfl rfl (A_k S 64 (by decide)) (A_r S 64 0 (by decide)) ?_
  refine w_gi (v := R 10) rfl rfl rfl (T_kd (A_T65 S)) ((lm_up_nk (by decide)).trans (HR.1)) ?_
  refine w_N 1 42 [.ref 64, .int (nI c), .int (nI v), lm_jk] [.int (nI c), .int (R 10)] rfl ?_
  refine w_cc rfl c_X4_countIn ?_
  show lm_wp _ 91 45 [.ref 64, .int (nI c), .int (nI v), lm_jk] [.int (s_count (R 10) (nI c))] (lm_up hi 65 15 0, hl, X) _
  refine w_N 2 47 [.ref 64, .int (nI c), .int (nI v), .int (s_count (R 10) (nI c))] [.ref 64] rfl ?_
  refine w_gr 65 rfl rfl rfl (A_k S 64 (by decide)) (A_r S 64 0 (by decide)) ?_
  refine w_N 1 51 [.ref 64, .int (nI c), .int (nI v), .int (s_count (R 10) (nI c))] [.ref 64, .ref 65] rfl ?_
  refine w_gr 65 rfl rfl rfl (A_k S 64 (by decide)) (A_r S 64 0 (by decide)) ?_
  refine w_gi (v := R 10) rfl rfl rfl (T_kd (A_T65 S)) ((lm_up_nk (by decide)).trans (HR.1)) ?_
  refine w_N 2 59 [.ref 64, .int (nI c), .int (nI v), .int (s_count (R 10) (nI c))] [.int (nI v), .int (nI c), .int (R 10), .ref 65] rfl ?_
  refine w_cc rfl c_X4_withCount ?_
  show lm_wp _ 91 62 [.ref 64, .int (nI c), .int (nI v), .int (s_count (R 10) (nI c))] [.int (s_with (R 10) (nI c) (nI v)), .ref 65] (lm_up hi 65 15 0, hl, X) _
  refine w_pi rfl rfl rfl rfl (T_kd (A_T65 S)) (T_64 (A_T65 S)) ?_
  refine w_N 1 66 [.ref 64, .int (nI c), .int (nI v), .int (s_count (R 10) (nI c))] [.int (s_count (R 10) (nI c))] rfl ?_
  refine w_ri rfl rfl ?_
  exact cq_ (cP_R (k := 10) (by decide) (cP_R (k := 15) (v := 0) (by decide) P)) (by omega) hC
theorem y_count {d : Nat} {hi : Nat → Nat → Int32} {hl : Nat → Nat → Int64} {X : lm_X} {hi0 : Nat → Nat → Int32} {hl0 : Nat → Nat → Int64} {X0 : lm_X} {n ts : Nat} {T : lm_T} {R : Nat → Int32} {KO : ab_K} {V : ab_V} {tl F : Nat → Int32} (P : mP hi0 hl0 X0 hi hl X T n R KO V ts tl F) {c v : Nat} (hc : c < 4) (hv : v ≤ 23) : lm_w (d + 30) 151 [.ref 123, .int (nI c), .int (nI v)] (hi, hl, X) (mQ hi0 hl0 X0 (.int (s_count (R 10) (nI c))) T n (lm_u1 (lm_u1 R 15 0) 10 (s_with (R 10) (nI c) (nI v))) KO V ts tl F) := by
  obtain ⟨SR, O, H, HR, HV, HT, HF, HK, E0, EL0, EX0⟩ := id P
  have S := SR.1
  refine lm_w_in (Nat.le_of_ble_eq_true rfl) ?_
  show lm_wp (d + 30) 151 0 [.ref 123, .int (nI c), .int (nI v), lm_jk] [] (hi, hl, X) _
  refine w_N 4 6 [.ref 123, .int (nI c), .int (nI v), lm_jk] [.long 3, .long 0, .long ((nI c).toInt64)] rfl ?_
  refine w_cc rfl (lm_c_1 (m_in (x := nI c) (lo := 0) (up := 3) rfl (by decide) (by decide)) (wi_t (n := 3) (Nat.le_of_lt_succ hc) (by decide))) ?_
  show lm_wp _ 151 9 [.ref 123, .int (nI c), .int (nI v), lm_jk] [.int 1] (hi, hl, X) _
  refine w_if_eq_f (t := 24) rfl rfl (by decide) ?_
  refine w_N 4 18 [.ref 123, .int (nI c), .int (nI v), lm_jk] [.long 23, .long 0, .long ((nI v).toInt64)] rfl ?_
  refine w_cc rfl (lm_c_1 (m_in (x := nI v) (lo := 0) (up := 23) rfl (by decide) (by decide)) (wi_t (n := 23) hv (by decide))) ?_
  show lm_wp _ 151 21 [.ref 123, .int (nI c), .int (nI v), lm_jk] [.int 1] (hi, hl, X) _
  refine w_if_ne_t (t := 31) rfl rfl (by decide) ?_
  refine w_N 1 32 [.ref 123, .int (nI c), .int (nI v), lm_jk] [.ref 123] rfl ?_
  refine w_gr 152 rfl rfl rfl (M_kd S) (M_r S (k := 13) (o := 29) rfl) ?_
  refine w_N 1 36 [.ref 123, .int (nI c), .int (nI v), lm_jk] [.int (nI c), .ref 152] rfl ?_
  refine w_ia c (v := s_count (R 10) (nI c)) rfl (show X.2.1 (152) = 1 from M_k S 29 (by decide)) (show X.2.2.1 (152) = 4 from M_l S 29 (by decide)) rfl hc (by decide) (HR.1.2 c hc) ?_
  refine w_N 2 39 [.ref 123, .int (nI c), .int (nI v), .int (s_count (R 10) (nI c))] [.ref 123] rfl ?_
  refine w_gr 152 rfl rfl rfl (M_kd S) (M_r S (k := 13) (o := 29) rfl) ?_
  refine w_N 2 44 [.ref 123, .int (nI c), .int (nI v), .int (s_count (R 10) (nI c))] [.int (nI v), .int (nI c), .ref 152] rfl ?_
  refine w_is c rfl (show X.2.1 (152) = 1 from M_k S 29 (by decide)) (by decide) (show X.2.2.1 (152) = 4 from M_l S 29 (by decide)) rfl hc (by decide) ?_
  refine w_N 2 47 [.ref 123, .int (nI c), .int (nI v), .int (s_count (R 10) (nI c))] [.int 0, .ref 123] rfl ?_
  refine w_pb rfl rfl rfl rfl (M_kd S) (M_64 S) (by decide) ?_
  refine w_N 1 51 [.ref 123, .int (nI c), .int (nI v), .int (s_count (R 10) (nI c))] [.int (s_count (R 10) (nI c))] rfl ?_
  refine w_ri rfl rfl ?_
  refine mq_ (mP_town P ⟨fun a ha => ?_, ?_⟩ ⟨fun k hk a ha => ?_, fun h hh w hw => ?_, ?_, rTle H⟩ (rR_k0 (s' := s_with (R 10) (nI c) (nI v)) HR ?_ (fun e he => ?_) ?_ ?_ ?_ ?_ ?_))
  · rw [lm_up_rw (by omega), lm_up_rw (by omega)]
  · exact (lm_up_nk (by decide)).trans ((lm_up_na (by decide)).trans (rfl))
  · have := rTle H; rw [lm_up_na (by omega), lm_up_na (by omega)]; exact H.1 k hk a ha
  · rw [lm_up_na (by omega), lm_up_na (by omega)]; exact H.2.1 h hh w hw
  · exact (lm_up_nk (by decide)).trans ((lm_up_na (by decide)).trans (H.2.2.1))
  · rw [marks_with hc (by omega)]; exact (lm_up_nk (by decide)).trans ((lm_up_na (by decide)).trans (HR.1.1))
  · rw [count_with hc he (by omega), lm_up_na (by decide)]
    by_cases q : e = c
    · subst q; rw [if_pos rfl]; exact lm_up_eq
    · rw [if_neg q]; exact (lm_up_nk q).trans (HR.1.2 e he)
  · exact lm_up_eq
  · exact (lm_up_nk (by decide)).trans ((lm_up_na (by decide)).trans (rfl))
  · exact (lm_up_nk (by decide)).trans ((lm_up_na (by decide)).trans (rfl))
  · exact (lm_up_nk (by decide)).trans ((lm_up_na (by decide)).trans (rfl))
  · rw [lm_up_rw (by decide), lm_up_rw (by decide)]
theorem st_count {B D : Nat} {n ts : Nat} {T : lm_T} {R : Nat → Int32} {KO : ab_K} {V : ab_V} {tl F : Nat → Int32} {c v : Int32} (Z : okZ B D T n R KO V ts tl) (hB : B + 20 < 2000000) : STEP B 91 151 [.int c, .int v] T n R KO V ts tl F := by
  obtain ⟨hT, hO, hV, hts, htl, hDB, hB0, hKO⟩ := id Z
  by_cases hb : (wi c 0 3 && wi v 0 23) = false
  · exact ⟨_, D, _, _, _, _, _, _, _, _, okZ_up Z hB, fun _ _ _ _ _ _ P hC => x_count_b (d := 10) P hb hC, fun _ _ _ _ _ _ P => y_count_b (d := 10) P hb⟩
  · obtain ⟨h1, h2⟩ := and2_t hb
    obtain ⟨c, rfl, hc⟩ := wi_e (n := 3) h1 (by decide)
    obtain ⟨v, rfl, hv⟩ := wi_e (n := 23) h2 (by decide)
    exact ⟨_, D, _, _, _, _, _, _, _, _, okZ_T Z hB hT (okR_s hO (okS_with hO.1 (by omega) (by omega)) (awk_with (by omega) (by omega))), fun _ _ _ _ _ _ P hC => x_count (d := 10) P (by omega) hv hC, fun _ _ _ _ _ _ P => y_count (d := 10) P (by omega) hv⟩
