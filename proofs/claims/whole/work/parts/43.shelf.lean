set_option maxRecDepth 16384
/-! calls: shelves -/
def STEP (B gx gm : Nat) (as : List Value) (T : lm_T) (n : Nat) (R : Nat → Int32) (KO : ab_K) (V : ab_V) (ts : Nat) (tl F : Nat → Int32) : Prop := ∃ (x : Int32) (D' : Nat) (T' : lm_T) (n' : Nat) (R' : Nat → Int32) (KO' : ab_K) (V' : ab_V) (ts' : Nat) (tl' F' : Nat → Int32), okZ (B + 20) D' T' n' R' KO' V' ts' tl' ∧ (∀ hi0 hl0 hi hl X C, cP hi0 hl0 hi hl X C T n R KO V ts tl F → C + 25 < 2147483648 → lm_w 40 gx (.ref 64 :: as) (hi, hl, X) (cQ hi0 hl0 X (C + 25) (.int x) T' n' R' KO' V' ts' tl' F')) ∧ (∀ hi0 hl0 X0 hi hl X, mP hi0 hl0 X0 hi hl X T n R KO V ts tl F → lm_w 40 gm (.ref 123 :: as) (hi, hl, X) (mQ hi0 hl0 X0 (.int x) T' n' R' KO' V' ts' tl' F'))
def STEPL (B gx gm : Nat) (as : List Value) (T : lm_T) (n : Nat) (R : Nat → Int32) (KO : ab_K) (V : ab_V) (ts : Nat) (tl F : Nat → Int32) : Prop := ∃ (x : Int64) (D' : Nat) (T' : lm_T) (n' : Nat) (R' : Nat → Int32) (KO' : ab_K) (V' : ab_V) (ts' : Nat) (tl' F' : Nat → Int32), okZ (B + 20) D' T' n' R' KO' V' ts' tl' ∧ (∀ hi0 hl0 hi hl X C, cP hi0 hl0 hi hl X C T n R KO V ts tl F → C + 25 < 2147483648 → lm_w 40 gx (.ref 64 :: as) (hi, hl, X) (cQ hi0 hl0 X (C + 25) (.long x) T' n' R' KO' V' ts' tl' F')) ∧ (∀ hi0 hl0 X0 hi hl X, mP hi0 hl0 X0 hi hl X T n R KO V ts tl F → lm_w 40 gm (.ref 123 :: as) (hi, hl, X) (mQ hi0 hl0 X0 (.long x) T' n' R' KO' V' ts' tl' F'))
theorem okZ_up {B D n ts : Nat} {T : lm_T} {R : Nat → Int32} {KO : ab_K} {V : ab_V} {tl : Nat → Int32} (Z : okZ B D T n R KO V ts tl) (hB : B + 20 < 2000000) : okZ (B + 20) D T n R KO V ts tl := by
  obtain ⟨z1, z2, z3, z4, z5, z6, z7, z8⟩ := Z
  refine ⟨z1, z2, z3, z4, z5, by omega, hB, fun q hq => ?_⟩
  obtain ⟨a, D', b, c⟩ := z8 q hq
  exact ⟨a, D', b, by omega⟩
theorem okV_u {V : ab_V} {j z a : Nat} {c : Int32} {e : Nat → Int64} (h : okV V) (hc : okC c) (hz : z ≤ 40) (ha : a ≤ 99) : okV (lm_u1 V j (c, z, a, e)) := fun k hk => by
  unfold lm_u1
  by_cases q : k = j
  · rw [if_pos q]; exact ⟨hc, hz, ha⟩
  · rw [if_neg q]; exact h k hk
theorem okZ_V {B D n ts : Nat} {T : lm_T} {R : Nat → Int32} {KO : ab_K} {V V' : ab_V} {tl : Nat → Int32} (Z : okZ B D T n R KO V ts tl) (hB : B + 20 < 2000000) (h : okV V') : okZ (B + 20) D T n R KO V' ts tl := by
  obtain ⟨z1, z2, z3, z4, z5, z6, z7, z8⟩ := okZ_up Z hB
  exact ⟨z1, z2, h, z4, z5, z6, z7, z8⟩
theorem and3_t {a b c : Bool} (h : ¬ (a && b && c) = false) : a = true ∧ b = true ∧ c = true := by cases a <;> cases b <;> cases c <;> simp_all
theorem and2_t {a b : Bool} (h : ¬ (a && b) = false) : a = true ∧ b = true := by cases a <;> cases b <;> simp_all
theorem x_row_b {d : Nat} {hi : Nat → Nat → Int32} {hl : Nat → Nat → Int64} {X : lm_X} {hi0 : Nat → Nat → Int32} {hl0 : Nat → Nat → Int64} {C n ts : Nat} {T : lm_T} {R : Nat → Int32} {KO : ab_K} {V : ab_V} {tl F : Nat → Int32} (P : cP hi0 hl0 hi hl X C T n R KO V ts tl F) {s so m : Int32}  (hb : (wi s 0 7 && wi so 0 4 && wi m 0 40) = false) (hC : C + 25 < 2147483648) : lm_w (d + 30) 82 [.ref 64, .int s, .int so, .int m] (hi, hl, X) (cQ hi0 hl0 X (C + 25) (.int (-2)) T n R KO V ts tl (rfU F (-2))) := by
  obtain ⟨S, O, H, HR, FO, HV, HT, HF, HK, E0, EL0⟩ := id P
  refine lm_w_in (Nat.le_of_ble_eq_true rfl) ?_
  show lm_wp (d + 30) 82 0 [.ref 64, .int s, .int so, .int m] [] (hi, hl, X) _
  refine w_N 1 1 [.ref 64, .int s, .int so, .int m] [.int s] rfl ?_
  refine w_cc rfl x_isShelf ?_
  show lm_wp _ 82 4 [.ref 64, .int s, .int so, .int m] [.int (bz (wi s 0 7))] (hi, hl, X) _
  refine w_zeq (t := 26) rfl rfl (fun c1 => ?_) (fun c1 => ?_)
  · refine w_N 2 29 [.ref 64, .int s, .int so, .int m] [.int (-2), .ref 64] rfl ?_
    refine w_ca (w_vst rfl rfl rfl (Nat.le_of_ble_eq_true rfl) (Nat.le_of_ble_eq_true rfl) (A_k S 64 (by decide))) (x_refuse P (by unfold isW; decide)) ?_
    rintro _ _ ⟨rfl, hi9, rfl, P9⟩
    show lm_wp _ 82 32 [.ref 64, .int s, .int so, .int m] [.int (-2)] (hi9, hl, X) _
    refine w_ri rfl rfl ?_
    exact cq_ P9 (by omega) hC
  · refine w_N 3 10 [.ref 64, .int s, .int so, .int m] [.int 4, .int 0, .int so] rfl ?_
    refine w_cc rfl x_within ?_
    show lm_wp _ 82 13 [.ref 64, .int s, .int so, .int m] [.int (bz (wi so 0 4))] (hi, hl, X) _
    refine w_zeq (t := 26) rfl rfl (fun c2 => ?_) (fun c2 => ?_)
    · refine w_N 2 29 [.ref 64, .int s, .int so, .int m] [.int (-2), .ref 64] rfl ?_
      refine w_ca (w_vst rfl rfl rfl (Nat.le_of_ble_eq_true rfl) (Nat.le_of_ble_eq_true rfl) (A_k S 64 (by decide))) (x_refuse P (by unfold isW; decide)) ?_
      rintro _ _ ⟨rfl, hi9, rfl, P9⟩
      show lm_wp _ 82 32 [.ref 64, .int s, .int so, .int m] [.int (-2)] (hi9, hl, X) _
      refine w_ri rfl rfl ?_
      exact cq_ P9 (by omega) hC
    · refine w_N 3 20 [.ref 64, .int s, .int so, .int m] [.int 40, .int 0, .int m] rfl ?_
      refine w_cc rfl x_within ?_
      show lm_wp _ 82 23 [.ref 64, .int s, .int so, .int m] [.int (bz (wi m 0 40))] (hi, hl, X) _
      refine w_zne (t := 33) rfl rfl (fun c3 => ?_) (fun c3 => ?_)
      · exact absurd hb (by simp [c1, c2, c3])
      · refine w_N 2 29 [.ref 64, .int s, .int so, .int m] [.int (-2), .ref 64] rfl ?_
        refine w_ca (w_vst rfl rfl rfl (Nat.le_of_ble_eq_true rfl) (Nat.le_of_ble_eq_true rfl) (A_k S 64 (by decide))) (x_refuse P (by unfold isW; decide)) ?_
        rintro _ _ ⟨rfl, hi9, rfl, P9⟩
        show lm_wp _ 82 32 [.ref 64, .int s, .int so, .int m] [.int (-2)] (hi9, hl, X) _
        refine w_ri rfl rfl ?_
        exact cq_ P9 (by omega) hC
theorem y_row_b {d : Nat} {hi : Nat → Nat → Int32} {hl : Nat → Nat → Int64} {X : lm_X} {hi0 : Nat → Nat → Int32} {hl0 : Nat → Nat → Int64} {X0 : lm_X} {n ts : Nat} {T : lm_T} {R : Nat → Int32} {KO : ab_K} {V : ab_V} {tl F : Nat → Int32} (P : mP hi0 hl0 X0 hi hl X T n R KO V ts tl F) {s so m : Int32}  (hb : (wi s 0 7 && wi so 0 4 && wi m 0 40) = false) : lm_w (d + 30) 137 [.ref 123, .int s, .int so, .int m] (hi, hl, X) (mQ hi0 hl0 X0 (.int (-2)) T n R KO V ts tl (rfU F (-2))) := by
  obtain ⟨SR, O, H, HR, HV, HT, HF, HK, E0, EL0, EX0⟩ := id P
  have S := SR.1
  refine lm_w_in (Nat.le_of_ble_eq_true rfl) ?_
  show lm_wp (d + 30) 137 0 [.ref 123, .int s, .int so, .int m, lm_jk] [] (hi, hl, X) _
  refine w_N 4 6 [.ref 123, .int s, .int so, .int m, lm_jk] [.long 7, .long 0, .long s.toInt64] rfl ?_
  refine w_cc rfl (m_in (x := s) (lo := 0) (up := 7) rfl (by decide) (by decide)) ?_
  show lm_wp _ 137 9 [.ref 123, .int s, .int so, .int m, lm_jk] [.int (bz (wi s 0 7))] (hi, hl, X) _
  refine w_zeq (t := 36) rfl rfl (fun c1 => ?_) (fun c1 => ?_)
  · refine w_N 2 39 [.ref 123, .int s, .int so, .int m, lm_jk] [.int (-2), .ref 123] rfl ?_
    refine w_ca (w_vst rfl rfl rfl (Nat.le_of_ble_eq_true rfl) (Nat.le_of_ble_eq_true rfl) (M_kd S)) (m_refuse P (by unfold isW; decide)) ?_
    rintro _ _ ⟨rfl, hi9, rfl, P9⟩
    show lm_wp _ 137 42 [.ref 123, .int s, .int so, .int m, lm_jk] [.int (-2)] (hi9, hl, X) _
    refine w_ri rfl rfl ?_
    exact mq_ P9
  · refine w_N 4 18 [.ref 123, .int s, .int so, .int m, lm_jk] [.long 4, .long 0, .long so.toInt64] rfl ?_
    refine w_cc rfl (m_in (x := so) (lo := 0) (up := 4) rfl (by decide) (by decide)) ?_
    show lm_wp _ 137 21 [.ref 123, .int s, .int so, .int m, lm_jk] [.int (bz (wi so 0 4))] (hi, hl, X) _
    refine w_zeq (t := 36) rfl rfl (fun c2 => ?_) (fun c2 => ?_)
    · refine w_N 2 39 [.ref 123, .int s, .int so, .int m, lm_jk] [.int (-2), .ref 123] rfl ?_
      refine w_ca (w_vst rfl rfl rfl (Nat.le_of_ble_eq_true rfl) (Nat.le_of_ble_eq_true rfl) (M_kd S)) (m_refuse P (by unfold isW; decide)) ?_
      rintro _ _ ⟨rfl, hi9, rfl, P9⟩
      show lm_wp _ 137 42 [.ref 123, .int s, .int so, .int m, lm_jk] [.int (-2)] (hi9, hl, X) _
      refine w_ri rfl rfl ?_
      exact mq_ P9
    · refine w_N 4 30 [.ref 123, .int s, .int so, .int m, lm_jk] [.long 40, .long 0, .long m.toInt64] rfl ?_
      refine w_cc rfl (m_in (x := m) (lo := 0) (up := 40) rfl (by decide) (by decide)) ?_
      show lm_wp _ 137 33 [.ref 123, .int s, .int so, .int m, lm_jk] [.int (bz (wi m 0 40))] (hi, hl, X) _
      refine w_zne (t := 43) rfl rfl (fun c3 => ?_) (fun c3 => ?_)
      · exact absurd hb (by simp [c1, c2, c3])
      · refine w_N 2 39 [.ref 123, .int s, .int so, .int m, lm_jk] [.int (-2), .ref 123] rfl ?_
        refine w_ca (w_vst rfl rfl rfl (Nat.le_of_ble_eq_true rfl) (Nat.le_of_ble_eq_true rfl) (M_kd S)) (m_refuse P (by unfold isW; decide)) ?_
        rintro _ _ ⟨rfl, hi9, rfl, P9⟩
        show lm_wp _ 137 42 [.ref 123, .int s, .int so, .int m, lm_jk] [.int (-2)] (hi9, hl, X) _
        refine w_ri rfl rfl ?_
        exact mq_ P9
theorem x_row {d : Nat} {hi : Nat → Nat → Int32} {hl : Nat → Nat → Int64} {X : lm_X} {hi0 : Nat → Nat → Int32} {hl0 : Nat → Nat → Int64} {C n ts : Nat} {T : lm_T} {R : Nat → Int32} {KO : ab_K} {V : ab_V} {tl F : Nat → Int32} (P : cP hi0 hl0 hi hl X C T n R KO V ts tl F) {j k z : Nat} (hj : j < 8) (hk : k ≤ 4) (hz : z ≤ 40) (hC : C + 25 < 2147483648) : lm_w (d + 30) 82 [.ref 64, .int (nI j), .int (nI k), .int (nI z)] (hi, hl, X) (cQ hi0 hl0 X (C + 25) (.int 1) T n R KO (lm_u1 V j (nI k, z, (V j).2.2.1, fun _ => 0)) ts tl F) := by
  obtain ⟨S, O, H, HR, FO, HV, HT, HF, HK, E0, EL0⟩ := id P
  refine lm_w_in (Nat.le_of_ble_eq_true rfl) ?_
  show lm_wp (d + 30) 82 0 [.ref 64, .int (nI j), .int (nI k), .int (nI z)] [] (hi, hl, X) _
  refine w_N 1 1 [.ref 64, .int (nI j), .int (nI k), .int (nI z)] [.int (nI j)] rfl ?_
  refine w_cc rfl (x_isShelf1 (wi_t (n := 7) (Nat.le_of_lt_succ hj) (by decide))) ?_
  show lm_wp _ 82 4 [.ref 64, .int (nI j), .int (nI k), .int (nI z)] [.int 1] (hi, hl, X) _
  refine w_if_eq_f (t := 26) rfl rfl (by decide) ?_
  refine w_N 3 10 [.ref 64, .int (nI j), .int (nI k), .int (nI z)] [.int 4, .int 0, .int (nI k)] rfl ?_
  refine w_cc rfl (x_within1 (wi_t (n := 4) hk (by decide))) ?_
  show lm_wp _ 82 13 [.ref 64, .int (nI j), .int (nI k), .int (nI z)] [.int 1] (hi, hl, X) _
  refine w_if_eq_f (t := 26) rfl rfl (by decide) ?_
  refine w_N 3 20 [.ref 64, .int (nI j), .int (nI k), .int (nI z)] [.int 40, .int 0, .int (nI z)] rfl ?_
  refine w_cc rfl (x_within1 (wi_t (n := 40) hz (by decide))) ?_
  show lm_wp _ 82 23 [.ref 64, .int (nI j), .int (nI k), .int (nI z)] [.int 1] (hi, hl, X) _
  refine w_if_ne_t (t := 33) rfl rfl (by decide) ?_
  refine w_N 1 34 [.ref 64, .int (nI j), .int (nI k), .int (nI z)] [.ref 64] rfl ?_
  refine w_gr 97 rfl rfl rfl (A_k S 64 (by decide)) (A_r S 64 5 (by decide)) ?_
  refine w_N 1 38 [.ref 64, .int (nI j), .int (nI k), .int (nI z)] [.int (nI j), .ref 97] rfl ?_
  refine w_aa j (107 + 2 * j) rfl ⟨by rw [A_k S 97 (by decide)]; decide, by rw [A_k S 97 (by decide)]; decide⟩ (show X.2.2.1 97 = 8 from A_l S 97 (by decide)) rfl hj (by decide) (A_sv S hj) ?_
  refine w_N 2 41 [.ref 64, .int (nI j), .int (nI k), .int (nI z)] [.int (nI z), .int (nI k), .ref (107 + 2 * j)] rfl ?_
  refine w_cc (w_vst rfl rfl rfl (Nat.le_of_ble_eq_true rfl) (Nat.le_of_ble_eq_true rfl) (Sf_kd (A_Sf S hj))) (s_takeRow (A_Sf S hj)) ?_
  show lm_wp _ 82 44 [.ref 64, .int (nI j), .int (nI k), .int (nI z)] [] (lm_up (lm_up hi (107 + 2 * j) 1 (nI k)) (107 + 2 * j) 2 (nI z), (lm_row hl (107 + 2 * j + 1) (flr (hl (107 + 2 * j + 1)) 40 0)), X) _
  refine w_N 1 45 [.ref 64, .int (nI j), .int (nI k), .int (nI z)] [.int 1] rfl ?_
  refine w_ri rfl rfl ?_
  exact cq_ (cP_shelf hj P (fun b hb => by rw [lm_up_rw hb, lm_up_rw hb]) (fun b hb => lm_rw_na hb) (by rw [lm_up_nk (by decide), lm_up_eq]) lm_up_eq (by rw [lm_up_nk (by decide), lm_up_nk (by decide)]; exact (HV j hj).2.2.1) (fun i hi2 => by rw [lm_rw_eq]; exact if_pos hi2)) (by omega) hC
theorem y_row1 {d : Nat} {hi : Nat → Nat → Int32} {hl : Nat → Nat → Int64} {X : lm_X} {j k z : Nat} (S : sh_M X 123) (hj : j < 8) {P : Option Value → lm_H → Prop} (kc : ∀ (c : Int32) (hl' : Nat → Nat → Int64), (∀ a, a ≠ 123 + (5 + j) → hl' a = hl a) → (∀ i, i < 40 → hl' (123 + (5 + j)) i = 0) → lm_wp d 137 90 [.ref 123, .int (nI j), .int (nI k), .int (nI z), .int c] [] (hi, hl', X) P) : ∀ (r m : Nat) (hl' : Nat → Nat → Int64) (mk : Int32), m + r = 40 → (mk = nI m) → (∀ a, a ≠ 123 + (5 + j) → hl' a = hl a) → (∀ i, i < m → hl' (123 + (5 + j)) i = 0) → lm_wp d 137 67 [.ref 123, .int (nI j), .int (nI k), .int (nI z), .int mk] [] (hi, hl', X) P := by
  intro r
  induction r with
  | zero =>
    intro m hl' mk hm e2 a0 b0
    refine w_N 2 71 [.ref 123, .int (nI j), .int (nI k), .int (nI z), .int mk] [.int 40, .int mk] rfl ?_
    refine w_icmp_ge_t (t := 90) rfl rfl (by rw [e2, show m = 40 by omega]; decide) ?_
    obtain rfl : m = 40 := by omega
    exact kc _ hl' a0 b0
  | succ r ih =>
    intro m hl' mk hm e2 a0 b0
    refine w_N 2 71 [.ref 123, .int (nI j), .int (nI k), .int (nI z), .int mk] [.int 40, .int mk] rfl ?_
    refine w_icmp_ge_f (t := 90) rfl rfl (by rw [e2]; exact nI_lt (b := 40) (by omega) (by decide)) ?_
    refine w_N 1 75 [.ref 123, .int (nI j), .int (nI k), .int (nI z), .int mk] [.ref 123] rfl ?_
    refine w_gr 127 rfl rfl rfl (M_kd S) (M_r S (k := 3) (o := 4) rfl) ?_
    refine w_N 1 79 [.ref 123, .int (nI j), .int (nI k), .int (nI z), .int mk] [.int (nI j), .ref 127] rfl ?_
    refine w_aa j (123 + (5 + j)) rfl (M_kk S (o := 4) (by decide)) (show X.2.2.1 (127) = 8 from M_l S 4 (by decide)) rfl hj (by decide) (M_ror S hj) ?_
    refine w_N 2 83 [.ref 123, .int (nI j), .int (nI k), .int (nI z), .int mk] [.long 0, .int mk, .ref (123 + (5 + j))] rfl ?_
    refine w_ls m rfl (M_rok S hj) (Nat.le_trans (M_64 S) (Nat.le_add_right _ _)) (M_rol S hj) e2 (by omega) (by decide) ?_
    refine w_N 2 67 [.ref 123, .int (nI j), .int (nI k), .int (nI z), .int (mk + 1)] [] rfl ?_
    refine ih (m + 1) _ _ (by omega) (by rw [e2, nI_succ]) (fun a ha => (lm_up_rw ha).trans (a0 a ha)) (fun i hi2 => ?_)
    by_cases q : i = m
    · subst q; exact lm_up_eq
    · rw [lm_up_nk q]; exact b0 i (by omega)
theorem y_row {d : Nat} {hi : Nat → Nat → Int32} {hl : Nat → Nat → Int64} {X : lm_X} {hi0 : Nat → Nat → Int32} {hl0 : Nat → Nat → Int64} {X0 : lm_X} {n ts : Nat} {T : lm_T} {R : Nat → Int32} {KO : ab_K} {V : ab_V} {tl F : Nat → Int32} (P : mP hi0 hl0 X0 hi hl X T n R KO V ts tl F) {j k z : Nat} (hj : j < 8) (hk : k ≤ 4) (hz : z ≤ 40) : lm_w (d + 30) 137 [.ref 123, .int (nI j), .int (nI k), .int (nI z)] (hi, hl, X) (mQ hi0 hl0 X0 (.int 1) T n R KO (lm_u1 V j (nI k, z, (V j).2.2.1, fun _ => 0)) ts tl F) := by
  obtain ⟨SR, O, H, HR, HV, HT, HF, HK, E0, EL0, EX0⟩ := id P
  have S := SR.1
  refine lm_w_in (Nat.le_of_ble_eq_true rfl) ?_
  show lm_wp (d + 30) 137 0 [.ref 123, .int (nI j), .int (nI k), .int (nI z), lm_jk] [] (hi, hl, X) _
  refine w_N 4 6 [.ref 123, .int (nI j), .int (nI k), .int (nI z), lm_jk] [.long 7, .long 0, .long ((nI j).toInt64)] rfl ?_
  refine w_cc rfl (lm_c_1 (m_in (x := nI j) (lo := 0) (up := 7) rfl (by decide) (by decide)) (wi_t (n := 7) (Nat.le_of_lt_succ hj) (by decide))) ?_
  show lm_wp _ 137 9 [.ref 123, .int (nI j), .int (nI k), .int (nI z), lm_jk] [.int 1] (hi, hl, X) _
  refine w_if_eq_f (t := 36) rfl rfl (by decide) ?_
  refine w_N 4 18 [.ref 123, .int (nI j), .int (nI k), .int (nI z), lm_jk] [.long 4, .long 0, .long ((nI k).toInt64)] rfl ?_
  refine w_cc rfl (lm_c_1 (m_in (x := nI k) (lo := 0) (up := 4) rfl (by decide) (by decide)) (wi_t (n := 4) hk (by decide))) ?_
  show lm_wp _ 137 21 [.ref 123, .int (nI j), .int (nI k), .int (nI z), lm_jk] [.int 1] (hi, hl, X) _
  refine w_if_eq_f (t := 36) rfl rfl (by decide) ?_
  refine w_N 4 30 [.ref 123, .int (nI j), .int (nI k), .int (nI z), lm_jk] [.long 40, .long 0, .long ((nI z).toInt64)] rfl ?_
  refine w_cc rfl (lm_c_1 (m_in (x := nI z) (lo := 0) (up := 40) rfl (by decide) (by decide)) (wi_t (n := 40) hz (by decide))) ?_
  show lm_wp _ 137 33 [.ref 123, .int (nI j), .int (nI k), .int (nI z), lm_jk] [.int 1] (hi, hl, X) _
  refine w_if_ne_t (t := 43) rfl rfl (by decide) ?_
  refine w_N 1 44 [.ref 123, .int (nI j), .int (nI k), .int (nI z), lm_jk] [.ref 123] rfl ?_
  refine w_gr 124 rfl rfl rfl (M_kd S) (M_r S (k := 0) (o := 1) rfl) ?_
  refine w_N 2 49 [.ref 123, .int (nI j), .int (nI k), .int (nI z), lm_jk] [.int 1, .int (nI j), .ref 124] rfl ?_
  refine w_is j rfl (show X.2.1 (124) = 1 from M_k S 1 (by decide)) (by decide) (show X.2.2.1 (124) = 8 from M_l S 1 (by decide)) rfl hj (by decide) ?_
  refine w_N 1 51 [.ref 123, .int (nI j), .int (nI k), .int (nI z), lm_jk] [.ref 123] rfl ?_
  refine w_gr 125 rfl rfl rfl (M_kd S) (M_r S (k := 1) (o := 2) rfl) ?_
  refine w_N 2 56 [.ref 123, .int (nI j), .int (nI k), .int (nI z), lm_jk] [.int (nI k), .int (nI j), .ref 125] rfl ?_
  refine w_is j rfl (show X.2.1 (125) = 1 from M_k S 2 (by decide)) (by decide) (show X.2.2.1 (125) = 8 from M_l S 2 (by decide)) rfl hj (by decide) ?_
  refine w_N 1 58 [.ref 123, .int (nI j), .int (nI k), .int (nI z), lm_jk] [.ref 123] rfl ?_
  refine w_gr 126 rfl rfl rfl (M_kd S) (M_r S (k := 2) (o := 3) rfl) ?_
  refine w_N 2 63 [.ref 123, .int (nI j), .int (nI k), .int (nI z), lm_jk] [.int (nI z), .int (nI j), .ref 126] rfl ?_
  refine w_is j rfl (show X.2.1 (126) = 1 from M_k S 3 (by decide)) (by decide) (show X.2.2.1 (126) = 8 from M_l S 3 (by decide)) rfl hj (by decide) ?_
  refine w_N 2 67 [.ref 123, .int (nI j), .int (nI k), .int (nI z), .int 0] [] rfl ?_
  refine y_row1 S hj (fun c hl2 a0 b0 => ?_) 40 0 _ _ (by omega) rfl (fun _ _ => rfl) (fun i hi2 => by omega)
  refine w_N 1 91 _ [.int 1] rfl ?_
  refine w_ri rfl rfl ?_
  refine mq_ (mP_shelf hj P (fun b b1 b2 b3 b4 b5 => by rw [lm_up_rw b3, lm_up_rw b2, lm_up_rw b1]) (fun b k2 hk2 => by rw [lm_up_nk hk2, lm_up_nk hk2, lm_up_nk hk2]) (fun b b1 b2 => a0 b b1) ?_ (fun _ => ?_) ?_ (fun w => ?_) ?_ b0)
  · rw [lm_up_na (by decide), lm_up_na (by decide), lm_up_eq]; exact (shK_w (wi_t (n := 4) hk (by decide))).symm
  · rw [lm_up_na (by decide), lm_up_eq]
  · exact lm_up_eq
  · exact absurd w (row_not (wi_t (n := 4) hk (by decide)))
  · rw [lm_up_na (by decide), lm_up_na (by decide), lm_up_na (by decide)]; exact (HV j hj).2.2.2.2.1
theorem st_row {B D : Nat} {n ts : Nat} {T : lm_T} {R : Nat → Int32} {KO : ab_K} {V : ab_V} {tl F : Nat → Int32} {s so m : Int32} (Z : okZ B D T n R KO V ts tl) (hB : B + 20 < 2000000) : STEP B 82 137 [.int s, .int so, .int m] T n R KO V ts tl F := by
  obtain ⟨hT, hO, hV, hts, htl, hDB, hB0, hKO⟩ := id Z
  by_cases hb : (wi s 0 7 && wi so 0 4 && wi m 0 40) = false
  · exact ⟨_, D, _, _, _, _, _, _, _, _, okZ_up Z hB, fun _ _ _ _ _ _ P hC => x_row_b (d := 10) P hb hC, fun _ _ _ _ _ _ P => y_row_b (d := 10) P hb⟩
  · obtain ⟨h1, h2, h3⟩ := and3_t hb
    obtain ⟨j, rfl, hj⟩ := wi_e (n := 7) h1 (by decide)
    obtain ⟨k, rfl, hk⟩ := wi_e (n := 4) h2 (by decide)
    obtain ⟨z, rfl, hz⟩ := wi_e (n := 40) h3 (by decide)
    exact ⟨_, D, _, _, _, _, _, _, _, _, okZ_V Z hB (okV_u hV (Or.inr (Or.inl ⟨k, hk, rfl⟩)) hz (hV j (by omega)).2.2), fun _ _ _ _ _ _ P hC => x_row (d := 10) P (by omega) hk hz hC, fun _ _ _ _ _ _ P => y_row (d := 10) P (by omega) hk hz⟩
theorem x_rule_b {d : Nat} {hi : Nat → Nat → Int32} {hl : Nat → Nat → Int64} {X : lm_X} {hi0 : Nat → Nat → Int32} {hl0 : Nat → Nat → Int64} {C n ts : Nat} {T : lm_T} {R : Nat → Int32} {KO : ab_K} {V : ab_V} {tl F : Nat → Int32} (P : cP hi0 hl0 hi hl X C T n R KO V ts tl F) {s kd m : Int32}  (hb : (wi s 0 7 && wi kd 1 6 && wi m 0 99) = false) (hC : C + 25 < 2147483648) : lm_w (d + 30) 87 [.ref 64, .int s, .int kd, .int m] (hi, hl, X) (cQ hi0 hl0 X (C + 25) (.int (-2)) T n R KO V ts tl (rfU F (-2))) := by
  obtain ⟨S, O, H, HR, FO, HV, HT, HF, HK, E0, EL0⟩ := id P
  refine lm_w_in (Nat.le_of_ble_eq_true rfl) ?_
  show lm_wp (d + 30) 87 0 [.ref 64, .int s, .int kd, .int m] [] (hi, hl, X) _
  refine w_N 1 1 [.ref 64, .int s, .int kd, .int m] [.int s] rfl ?_
  refine w_cc rfl x_isShelf ?_
  show lm_wp _ 87 4 [.ref 64, .int s, .int kd, .int m] [.int (bz (wi s 0 7))] (hi, hl, X) _
  refine w_zeq (t := 27) rfl rfl (fun c1 => ?_) (fun c1 => ?_)
  · refine w_N 2 30 [.ref 64, .int s, .int kd, .int m] [.int (-2), .ref 64] rfl ?_
    refine w_ca (w_vst rfl rfl rfl (Nat.le_of_ble_eq_true rfl) (Nat.le_of_ble_eq_true rfl) (A_k S 64 (by decide))) (x_refuse P (by unfold isW; decide)) ?_
    rintro _ _ ⟨rfl, hi9, rfl, P9⟩
    show lm_wp _ 87 33 [.ref 64, .int s, .int kd, .int m] [.int (-2)] (hi9, hl, X) _
    refine w_ri rfl rfl ?_
    exact cq_ P9 (by omega) hC
  · refine w_N 3 11 [.ref 64, .int s, .int kd, .int m] [.int 6, .int 1, .int kd] rfl ?_
    refine w_cc rfl x_within ?_
    show lm_wp _ 87 14 [.ref 64, .int s, .int kd, .int m] [.int (bz (wi kd 1 6))] (hi, hl, X) _
    refine w_zeq (t := 27) rfl rfl (fun c2 => ?_) (fun c2 => ?_)
    · refine w_N 2 30 [.ref 64, .int s, .int kd, .int m] [.int (-2), .ref 64] rfl ?_
      refine w_ca (w_vst rfl rfl rfl (Nat.le_of_ble_eq_true rfl) (Nat.le_of_ble_eq_true rfl) (A_k S 64 (by decide))) (x_refuse P (by unfold isW; decide)) ?_
      rintro _ _ ⟨rfl, hi9, rfl, P9⟩
      show lm_wp _ 87 33 [.ref 64, .int s, .int kd, .int m] [.int (-2)] (hi9, hl, X) _
      refine w_ri rfl rfl ?_
      exact cq_ P9 (by omega) hC
    · refine w_N 3 21 [.ref 64, .int s, .int kd, .int m] [.int 99, .int 0, .int m] rfl ?_
      refine w_cc rfl x_within ?_
      show lm_wp _ 87 24 [.ref 64, .int s, .int kd, .int m] [.int (bz (wi m 0 99))] (hi, hl, X) _
      refine w_zne (t := 34) rfl rfl (fun c3 => ?_) (fun c3 => ?_)
      · exact absurd hb (by simp [c1, c2, c3])
      · refine w_N 2 30 [.ref 64, .int s, .int kd, .int m] [.int (-2), .ref 64] rfl ?_
        refine w_ca (w_vst rfl rfl rfl (Nat.le_of_ble_eq_true rfl) (Nat.le_of_ble_eq_true rfl) (A_k S 64 (by decide))) (x_refuse P (by unfold isW; decide)) ?_
        rintro _ _ ⟨rfl, hi9, rfl, P9⟩
        show lm_wp _ 87 33 [.ref 64, .int s, .int kd, .int m] [.int (-2)] (hi9, hl, X) _
        refine w_ri rfl rfl ?_
        exact cq_ P9 (by omega) hC
theorem y_rule_b {d : Nat} {hi : Nat → Nat → Int32} {hl : Nat → Nat → Int64} {X : lm_X} {hi0 : Nat → Nat → Int32} {hl0 : Nat → Nat → Int64} {X0 : lm_X} {n ts : Nat} {T : lm_T} {R : Nat → Int32} {KO : ab_K} {V : ab_V} {tl F : Nat → Int32} (P : mP hi0 hl0 X0 hi hl X T n R KO V ts tl F) {s kd m : Int32}  (hb : (wi s 0 7 && wi kd 1 6 && wi m 0 99) = false) : lm_w (d + 30) 146 [.ref 123, .int s, .int kd, .int m] (hi, hl, X) (mQ hi0 hl0 X0 (.int (-2)) T n R KO V ts tl (rfU F (-2))) := by
  obtain ⟨SR, O, H, HR, HV, HT, HF, HK, E0, EL0, EX0⟩ := id P
  have S := SR.1
  refine lm_w_in (Nat.le_of_ble_eq_true rfl) ?_
  show lm_wp (d + 30) 146 0 [.ref 123, .int s, .int kd, .int m] [] (hi, hl, X) _
  refine w_N 4 6 [.ref 123, .int s, .int kd, .int m] [.long 7, .long 0, .long s.toInt64] rfl ?_
  refine w_cc rfl (m_in (x := s) (lo := 0) (up := 7) rfl (by decide) (by decide)) ?_
  show lm_wp _ 146 9 [.ref 123, .int s, .int kd, .int m] [.int (bz (wi s 0 7))] (hi, hl, X) _
  refine w_zeq (t := 36) rfl rfl (fun c1 => ?_) (fun c1 => ?_)
  · refine w_N 2 39 [.ref 123, .int s, .int kd, .int m] [.int (-2), .ref 123] rfl ?_
    refine w_ca (w_vst rfl rfl rfl (Nat.le_of_ble_eq_true rfl) (Nat.le_of_ble_eq_true rfl) (M_kd S)) (m_refuse P (by unfold isW; decide)) ?_
    rintro _ _ ⟨rfl, hi9, rfl, P9⟩
    show lm_wp _ 146 42 [.ref 123, .int s, .int kd, .int m] [.int (-2)] (hi9, hl, X) _
    refine w_ri rfl rfl ?_
    exact mq_ P9
  · refine w_N 4 18 [.ref 123, .int s, .int kd, .int m] [.long 6, .long 1, .long kd.toInt64] rfl ?_
    refine w_cc rfl (m_in (x := kd) (lo := 1) (up := 6) rfl (by decide) (by decide)) ?_
    show lm_wp _ 146 21 [.ref 123, .int s, .int kd, .int m] [.int (bz (wi kd 1 6))] (hi, hl, X) _
    refine w_zeq (t := 36) rfl rfl (fun c2 => ?_) (fun c2 => ?_)
    · refine w_N 2 39 [.ref 123, .int s, .int kd, .int m] [.int (-2), .ref 123] rfl ?_
      refine w_ca (w_vst rfl rfl rfl (Nat.le_of_ble_eq_true rfl) (Nat.le_of_ble_eq_true rfl) (M_kd S)) (m_refuse P (by unfold isW; decide)) ?_
      rintro _ _ ⟨rfl, hi9, rfl, P9⟩
      show lm_wp _ 146 42 [.ref 123, .int s, .int kd, .int m] [.int (-2)] (hi9, hl, X) _
      refine w_ri rfl rfl ?_
      exact mq_ P9
    · refine w_N 4 30 [.ref 123, .int s, .int kd, .int m] [.long 99, .long 0, .long m.toInt64] rfl ?_
      refine w_cc rfl (m_in (x := m) (lo := 0) (up := 99) rfl (by decide) (by decide)) ?_
      show lm_wp _ 146 33 [.ref 123, .int s, .int kd, .int m] [.int (bz (wi m 0 99))] (hi, hl, X) _
      refine w_zne (t := 43) rfl rfl (fun c3 => ?_) (fun c3 => ?_)
      · exact absurd hb (by simp [c1, c2, c3])
      · refine w_N 2 39 [.ref 123, .int s, .int kd, .int m] [.int (-2), .ref 123] rfl ?_
        refine w_ca (w_vst rfl rfl rfl (Nat.le_of_ble_eq_true rfl) (Nat.le_of_ble_eq_true rfl) (M_kd S)) (m_refuse P (by unfold isW; decide)) ?_
        rintro _ _ ⟨rfl, hi9, rfl, P9⟩
        show lm_wp _ 146 42 [.ref 123, .int s, .int kd, .int m] [.int (-2)] (hi9, hl, X) _
        refine w_ri rfl rfl ?_
        exact mq_ P9
theorem x_rule {d : Nat} {hi : Nat → Nat → Int32} {hl : Nat → Nat → Int64} {X : lm_X} {hi0 : Nat → Nat → Int32} {hl0 : Nat → Nat → Int64} {C n ts : Nat} {T : lm_T} {R : Nat → Int32} {KO : ab_K} {V : ab_V} {tl F : Nat → Int32} (P : cP hi0 hl0 hi hl X C T n R KO V ts tl F) {j k z : Nat} (hj : j < 8) (hk : 1 ≤ k) (hk6 : k ≤ 6) (hz : z ≤ 99) (hC : C + 25 < 2147483648) : lm_w (d + 30) 87 [.ref 64, .int (nI j), .int (nI k), .int (nI z)] (hi, hl, X) (cQ hi0 hl0 X (C + 25) (.int 1) T n R KO (lm_u1 V j (nI (10 + k), (V j).2.1, z, (V j).2.2.2)) ts tl F) := by
  obtain ⟨S, O, H, HR, FO, HV, HT, HF, HK, E0, EL0⟩ := id P
  refine lm_w_in (Nat.le_of_ble_eq_true rfl) ?_
  show lm_wp (d + 30) 87 0 [.ref 64, .int (nI j), .int (nI k), .int (nI z)] [] (hi, hl, X) _
  refine w_N 1 1 [.ref 64, .int (nI j), .int (nI k), .int (nI z)] [.int (nI j)] rfl ?_
  refine w_cc rfl (x_isShelf1 (wi_t (n := 7) (Nat.le_of_lt_succ hj) (by decide))) ?_
  show lm_wp _ 87 4 [.ref 64, .int (nI j), .int (nI k), .int (nI z)] [.int 1] (hi, hl, X) _
  refine w_if_eq_f (t := 27) rfl rfl (by decide) ?_
  refine w_N 3 11 [.ref 64, .int (nI j), .int (nI k), .int (nI z)] [.int 6, .int 1, .int (nI k)] rfl ?_
  refine w_cc rfl (x_within1 (wi_t1 (n := 6) hk hk6 (by decide))) ?_
  show lm_wp _ 87 14 [.ref 64, .int (nI j), .int (nI k), .int (nI z)] [.int 1] (hi, hl, X) _
  refine w_if_eq_f (t := 27) rfl rfl (by decide) ?_
  refine w_N 3 21 [.ref 64, .int (nI j), .int (nI k), .int (nI z)] [.int 99, .int 0, .int (nI z)] rfl ?_
  refine w_cc rfl (x_within1 (wi_t (n := 99) hz (by decide))) ?_
  show lm_wp _ 87 24 [.ref 64, .int (nI j), .int (nI k), .int (nI z)] [.int 1] (hi, hl, X) _
  refine w_if_ne_t (t := 34) rfl rfl (by decide) ?_
  refine w_N 1 35 [.ref 64, .int (nI j), .int (nI k), .int (nI z)] [.ref 64] rfl ?_
  refine w_gr 97 rfl rfl rfl (A_k S 64 (by decide)) (A_r S 64 5 (by decide)) ?_
  refine w_N 1 39 [.ref 64, .int (nI j), .int (nI k), .int (nI z)] [.int (nI j), .ref 97] rfl ?_
  refine w_aa j (107 + 2 * j) rfl ⟨by rw [A_k S 97 (by decide)]; decide, by rw [A_k S 97 (by decide)]; decide⟩ (show X.2.2.1 97 = 8 from A_l S 97 (by decide)) rfl hj (by decide) (A_sv S hj) ?_
  refine w_N 2 42 [.ref 64, .int (nI j), .int (nI k), .int (nI z)] [.int (nI z), .int (nI k), .ref (107 + 2 * j)] rfl ?_
  refine w_cc (w_vst rfl rfl rfl (Nat.le_of_ble_eq_true rfl) (Nat.le_of_ble_eq_true rfl) (Sf_kd (A_Sf S hj))) (s_takeRule (A_Sf S hj)) ?_
  show lm_wp _ 87 45 [.ref 64, .int (nI j), .int (nI k), .int (nI z)] [] (lm_up (lm_up hi (107 + 2 * j) 1 (10 + nI k)) (107 + 2 * j) 3 (nI z), hl, X) _
  refine w_N 1 46 [.ref 64, .int (nI j), .int (nI k), .int (nI z)] [.int 1] rfl ?_
  refine w_ri rfl rfl ?_
  exact cq_ (cP_shelf hj P (fun b hb => by rw [lm_up_rw hb, lm_up_rw hb]) (fun b hb => rfl) (by rw [lm_up_nk (by decide), lm_up_eq]; exact nI_add' 10 k) (by rw [lm_up_nk (by decide), lm_up_nk (by decide)]; exact (HV j hj).2.1) lm_up_eq (HV j hj).2.2.2) (by omega) hC
theorem y_rule {d : Nat} {hi : Nat → Nat → Int32} {hl : Nat → Nat → Int64} {X : lm_X} {hi0 : Nat → Nat → Int32} {hl0 : Nat → Nat → Int64} {X0 : lm_X} {n ts : Nat} {T : lm_T} {R : Nat → Int32} {KO : ab_K} {V : ab_V} {tl F : Nat → Int32} (P : mP hi0 hl0 X0 hi hl X T n R KO V ts tl F) {j k z : Nat} (hj : j < 8) (hk : 1 ≤ k) (hk6 : k ≤ 6) (hz : z ≤ 99) : lm_w (d + 30) 146 [.ref 123, .int (nI j), .int (nI k), .int (nI z)] (hi, hl, X) (mQ hi0 hl0 X0 (.int 1) T n R KO (lm_u1 V j (nI (10 + k), (V j).2.1, z, (V j).2.2.2)) ts tl F) := by
  obtain ⟨SR, O, H, HR, HV, HT, HF, HK, E0, EL0, EX0⟩ := id P
  have S := SR.1
  refine lm_w_in (Nat.le_of_ble_eq_true rfl) ?_
  show lm_wp (d + 30) 146 0 [.ref 123, .int (nI j), .int (nI k), .int (nI z)] [] (hi, hl, X) _
  refine w_N 4 6 [.ref 123, .int (nI j), .int (nI k), .int (nI z)] [.long 7, .long 0, .long ((nI j).toInt64)] rfl ?_
  refine w_cc rfl (lm_c_1 (m_in (x := nI j) (lo := 0) (up := 7) rfl (by decide) (by decide)) (wi_t (n := 7) (Nat.le_of_lt_succ hj) (by decide))) ?_
  show lm_wp _ 146 9 [.ref 123, .int (nI j), .int (nI k), .int (nI z)] [.int 1] (hi, hl, X) _
  refine w_if_eq_f (t := 36) rfl rfl (by decide) ?_
  refine w_N 4 18 [.ref 123, .int (nI j), .int (nI k), .int (nI z)] [.long 6, .long 1, .long ((nI k).toInt64)] rfl ?_
  refine w_cc rfl (lm_c_1 (m_in (x := nI k) (lo := 1) (up := 6) rfl (by decide) (by decide)) (wi_t1 (n := 6) hk hk6 (by decide))) ?_
  show lm_wp _ 146 21 [.ref 123, .int (nI j), .int (nI k), .int (nI z)] [.int 1] (hi, hl, X) _
  refine w_if_eq_f (t := 36) rfl rfl (by decide) ?_
  refine w_N 4 30 [.ref 123, .int (nI j), .int (nI k), .int (nI z)] [.long 99, .long 0, .long ((nI z).toInt64)] rfl ?_
  refine w_cc rfl (lm_c_1 (m_in (x := nI z) (lo := 0) (up := 99) rfl (by decide) (by decide)) (wi_t (n := 99) hz (by decide))) ?_
  show lm_wp _ 146 33 [.ref 123, .int (nI j), .int (nI k), .int (nI z)] [.int 1] (hi, hl, X) _
  refine w_if_ne_t (t := 43) rfl rfl (by decide) ?_
  refine w_N 1 44 [.ref 123, .int (nI j), .int (nI k), .int (nI z)] [.ref 123] rfl ?_
  refine w_gr 124 rfl rfl rfl (M_kd S) (M_r S (k := 0) (o := 1) rfl) ?_
  refine w_N 2 49 [.ref 123, .int (nI j), .int (nI k), .int (nI z)] [.int 2, .int (nI j), .ref 124] rfl ?_
  refine w_is j rfl (show X.2.1 (124) = 1 from M_k S 1 (by decide)) (by decide) (show X.2.2.1 (124) = 8 from M_l S 1 (by decide)) rfl hj (by decide) ?_
  refine w_N 1 51 [.ref 123, .int (nI j), .int (nI k), .int (nI z)] [.ref 123] rfl ?_
  refine w_gr 137 rfl rfl rfl (M_kd S) (M_r S (k := 5) (o := 14) rfl) ?_
  refine w_N 2 56 [.ref 123, .int (nI j), .int (nI k), .int (nI z)] [.int (nI k), .int (nI j), .ref 137] rfl ?_
  refine w_is j rfl (show X.2.1 (137) = 1 from M_k S 14 (by decide)) (by decide) (show X.2.2.1 (137) = 8 from M_l S 14 (by decide)) rfl hj (by decide) ?_
  refine w_N 1 58 [.ref 123, .int (nI j), .int (nI k), .int (nI z)] [.ref 123] rfl ?_
  refine w_gr 138 rfl rfl rfl (M_kd S) (M_r S (k := 6) (o := 15) rfl) ?_
  refine w_N 2 63 [.ref 123, .int (nI j), .int (nI k), .int (nI z)] [.int (nI z), .int (nI j), .ref 138] rfl ?_
  refine w_is j rfl (show X.2.1 (138) = 1 from M_k S 15 (by decide)) (by decide) (show X.2.2.1 (138) = 8 from M_l S 15 (by decide)) rfl hj (by decide) ?_
  refine w_N 1 65 [.ref 123, .int (nI j), .int (nI k), .int (nI z)] [.int 1] rfl ?_
  refine w_ri rfl rfl ?_
  refine mq_ (mP_shelf hj P (fun b b1 b2 b3 b4 b5 => by rw [lm_up_rw b5, lm_up_rw b4, lm_up_rw b1]) (fun b k2 hk2 => by rw [lm_up_nk hk2, lm_up_nk hk2, lm_up_nk hk2]) (fun b b1 b2 => rfl) ?_ (fun w => ?_) ?_ (fun w => ?_) ?_ (HV j hj).2.2.2.2.2)
  · rw [lm_up_na (by decide), lm_up_na (by decide), lm_up_eq]; exact (shK_u (nI_lt (a := 10) (by omega) (by omega))).symm
  · exact absurd (nI_lt (a := 10) (by omega) (by omega)) (row_not w)
  · rw [lm_up_na (by decide), lm_up_na (by decide), lm_up_na (by decide)]; exact (HV j hj).2.2.1
  · rw [lm_up_na (by decide), lm_up_eq]; exact (nI_sub (a := 10 + k) (b := 10) (by omega)).symm ▸ (by congr 1; omega)
  · exact lm_up_eq
theorem st_rule {B D : Nat} {n ts : Nat} {T : lm_T} {R : Nat → Int32} {KO : ab_K} {V : ab_V} {tl F : Nat → Int32} {s kd m : Int32} (Z : okZ B D T n R KO V ts tl) (hB : B + 20 < 2000000) : STEP B 87 146 [.int s, .int kd, .int m] T n R KO V ts tl F := by
  obtain ⟨hT, hO, hV, hts, htl, hDB, hB0, hKO⟩ := id Z
  by_cases hb : (wi s 0 7 && wi kd 1 6 && wi m 0 99) = false
  · exact ⟨_, D, _, _, _, _, _, _, _, _, okZ_up Z hB, fun _ _ _ _ _ _ P hC => x_rule_b (d := 10) P hb hC, fun _ _ _ _ _ _ P => y_rule_b (d := 10) P hb⟩
  · obtain ⟨h1, h2, h3⟩ := and3_t hb
    obtain ⟨j, rfl, hj⟩ := wi_e (n := 7) h1 (by decide)
    obtain ⟨k, rfl, hk, hk6⟩ := wi_e1 (n := 6) h2 (by decide)
    obtain ⟨z, rfl, hz⟩ := wi_e (n := 99) h3 (by decide)
    exact ⟨_, D, _, _, _, _, _, _, _, _, okZ_V Z hB (okV_u hV (Or.inr (Or.inr ⟨k, hk, hk6, rfl⟩)) (hV j (by omega)).2.1 hz), fun _ _ _ _ _ _ P hC => x_rule (d := 10) P (by omega) hk hk6 hz hC, fun _ _ _ _ _ _ P => y_rule (d := 10) P (by omega) hk hk6 hz⟩
theorem x_holds_b {d : Nat} {hi : Nat → Nat → Int32} {hl : Nat → Nat → Int64} {X : lm_X} {hi0 : Nat → Nat → Int32} {hl0 : Nat → Nat → Int64} {C n ts : Nat} {T : lm_T} {R : Nat → Int32} {KO : ab_K} {V : ab_V} {tl F : Nat → Int32} (P : cP hi0 hl0 hi hl X C T n R KO V ts tl F) {s : Int32} (hb : (wi s 0 7) = false) (hC : C + 25 < 2147483648) : lm_w (d + 30) 86 [.ref 64, .int s] (hi, hl, X) (cQ hi0 hl0 X (C + 25) (.int (-1)) T n R KO V ts tl F) := by
  obtain ⟨S, O, H, HR, FO, HV, HT, HF, HK, E0, EL0⟩ := id P
  refine lm_w_in (Nat.le_of_ble_eq_true rfl) ?_
  show lm_wp (d + 30) 86 0 [.ref 64, .int s] [] (hi, hl, X) _
  refine w_N 1 1 [.ref 64, .int s] [.int s] rfl ?_
  refine w_cc rfl x_isShelf ?_
  show lm_wp _ 86 4 [.ref 64, .int s] [.int (bz (wi s 0 7))] (hi, hl, X) _
  refine w_zeq (t := 19) rfl rfl (fun c1 => ?_) (fun c1 => ?_)
  · refine w_N 1 20 [.ref 64, .int s] [.int (-1)] rfl ?_
    refine w_ri rfl rfl ?_
    exact cq_ P (by omega) hC
  · exact absurd hb (by simp [c1])
theorem y_holds_b {d : Nat} {hi : Nat → Nat → Int32} {hl : Nat → Nat → Int64} {X : lm_X} {hi0 : Nat → Nat → Int32} {hl0 : Nat → Nat → Int64} {X0 : lm_X} {n ts : Nat} {T : lm_T} {R : Nat → Int32} {KO : ab_K} {V : ab_V} {tl F : Nat → Int32} (P : mP hi0 hl0 X0 hi hl X T n R KO V ts tl F) {s : Int32} (hb : (wi s 0 7) = false) : lm_w (d + 30) 145 [.ref 123, .int s] (hi, hl, X) (mQ hi0 hl0 X0 (.int (-1)) T n R KO V ts tl F) := by
  obtain ⟨SR, O, H, HR, HV, HT, HF, HK, E0, EL0, EX0⟩ := id P
  have S := SR.1
  refine lm_w_in (Nat.le_of_ble_eq_true rfl) ?_
  show lm_wp (d + 30) 145 0 [.ref 123, .int s] [] (hi, hl, X) _
  refine w_N 4 6 [.ref 123, .int s] [.long 7, .long 0, .long s.toInt64] rfl ?_
  refine w_cc rfl (m_in (x := s) (lo := 0) (up := 7) rfl (by decide) (by decide)) ?_
  show lm_wp _ 145 9 [.ref 123, .int s] [.int (bz (wi s 0 7))] (hi, hl, X) _
  refine w_zeq (t := 21) rfl rfl (fun c1 => ?_) (fun c1 => ?_)
  · refine w_N 1 22 [.ref 123, .int s] [.int (-1)] rfl ?_
    refine w_ri rfl rfl ?_
    exact mq_ P
  · exact absurd hb (by simp [c1])
theorem x_holds {d : Nat} {hi : Nat → Nat → Int32} {hl : Nat → Nat → Int64} {X : lm_X} {hi0 : Nat → Nat → Int32} {hl0 : Nat → Nat → Int64} {C n ts : Nat} {T : lm_T} {R : Nat → Int32} {KO : ab_K} {V : ab_V} {tl F : Nat → Int32} (P : cP hi0 hl0 hi hl X C T n R KO V ts tl F) {j : Nat} (hj : j < 8) (hC : C + 25 < 2147483648) : lm_w (d + 30) 86 [.ref 64, .int (nI j)] (hi, hl, X) (cQ hi0 hl0 X (C + 25) (.int (V j).1) T n R KO V ts tl F) := by
  obtain ⟨S, O, H, HR, FO, HV, HT, HF, HK, E0, EL0⟩ := id P
  refine lm_w_in (Nat.le_of_ble_eq_true rfl) ?_
  show lm_wp (d + 30) 86 0 [.ref 64, .int (nI j)] [] (hi, hl, X) _
  refine w_N 1 1 [.ref 64, .int (nI j)] [.int (nI j)] rfl ?_
  refine w_cc rfl (x_isShelf1 (wi_t (n := 7) (Nat.le_of_lt_succ hj) (by decide))) ?_
  show lm_wp _ 86 4 [.ref 64, .int (nI j)] [.int 1] (hi, hl, X) _
  refine w_if_eq_f (t := 19) rfl rfl (by decide) ?_
  refine w_N 1 8 [.ref 64, .int (nI j)] [.ref 64] rfl ?_
  refine w_gr 97 rfl rfl rfl (A_k S 64 (by decide)) (A_r S 64 5 (by decide)) ?_
  refine w_N 1 12 [.ref 64, .int (nI j)] [.int (nI j), .ref 97] rfl ?_
  refine w_aa j (107 + 2 * j) rfl ⟨by rw [A_k S 97 (by decide)]; decide, by rw [A_k S 97 (by decide)]; decide⟩ (show X.2.2.1 97 = 8 from A_l S 97 (by decide)) rfl hj (by decide) (A_sv S hj) ?_
  refine w_gi (v := (V j).1) rfl rfl rfl (Sf_kd (A_Sf S hj)) ((HV j hj).1) ?_
  refine w_N 1 20 [.ref 64, .int (nI j)] [.int ((V j).1)] rfl ?_
  refine w_ri rfl rfl ?_
  exact cq_ P (by omega) hC
theorem shK_1 {c : Int32} (h : shK c = 1) : wi c 0 4 = true := by
  unfold shK at h
  split at h
  · assumption
  · split at h <;> exact absurd h (by decide)
theorem shK_2 {c : Int32} (h0 : ¬ shK c = 0) (h1 : ¬ shK c = 1) : 10 < c := by
  unfold shK at h0 h1
  split at h0
  · rename_i h; rw [if_pos h] at h1; exact absurd rfl h1
  · split at h0
    · assumption
    · exact absurd rfl h0
theorem shK_3 {c : Int32} (h : shK c = 2) : 10 < c := shK_2 (by rw [h]; decide) (by rw [h]; decide)
theorem shK_0 {c : Int32} (hc : okC c) (h : shK c = 0) : c = -1 := by
  rcases hc with e | ⟨k, hk, e⟩ | ⟨k, h1, h6, e⟩
  · exact e
  · exact absurd h (by rw [e, shK_w (wi_t (n := 4) hk (by decide))]; decide)
  · exact absurd h (by rw [e, shK_u (nI_lt (a := 10) (by omega) (by omega))]; decide)
theorem y_holds {d : Nat} {hi : Nat → Nat → Int32} {hl : Nat → Nat → Int64} {X : lm_X} {hi0 : Nat → Nat → Int32} {hl0 : Nat → Nat → Int64} {X0 : lm_X} {n ts : Nat} {T : lm_T} {R : Nat → Int32} {KO : ab_K} {V : ab_V} {tl F : Nat → Int32} (P : mP hi0 hl0 X0 hi hl X T n R KO V ts tl F) {j : Nat} (hj : j < 8) (hc : okC (V j).1) : lm_w (d + 30) 145 [.ref 123, .int (nI j)] (hi, hl, X) (mQ hi0 hl0 X0 (.int (V j).1) T n R KO V ts tl F) := by
  obtain ⟨SR, O, H, HR, HV, HT, HF, HK, E0, EL0, EX0⟩ := id P
  have S := SR.1
  refine lm_w_in (Nat.le_of_ble_eq_true rfl) ?_
  show lm_wp (d + 30) 145 0 [.ref 123, .int (nI j)] [] (hi, hl, X) _
  refine w_N 4 6 [.ref 123, .int (nI j)] [.long 7, .long 0, .long ((nI j).toInt64)] rfl ?_
  refine w_cc rfl (lm_c_1 (m_in (x := nI j) (lo := 0) (up := 7) rfl (by decide) (by decide)) (wi_t (n := 7) (Nat.le_of_lt_succ hj) (by decide))) ?_
  show lm_wp _ 145 9 [.ref 123, .int (nI j)] [.int 1] (hi, hl, X) _
  refine w_if_eq_f (t := 21) rfl rfl (by decide) ?_
  refine w_N 1 13 [.ref 123, .int (nI j)] [.ref 123] rfl ?_
  refine w_gr 124 rfl rfl rfl (M_kd S) (M_r S (k := 0) (o := 1) rfl) ?_
  refine w_N 1 17 [.ref 123, .int (nI j)] [.int (nI j), .ref 124] rfl ?_
  refine w_ia j (v := shK (V j).1) rfl (show X.2.1 (124) = 1 from M_k S 1 (by decide)) (show X.2.2.1 (124) = 8 from M_l S 1 (by decide)) rfl hj (by decide) ((HV j hj).1) ?_
  refine w_if_ne (t := 23) rfl rfl (fun c1 => ?_) (fun c1 => ?_)
  · refine w_N 1 24 [.ref 123, .int (nI j)] [.ref 123] rfl ?_
    refine w_gr 124 rfl rfl rfl (M_kd S) (M_r S (k := 0) (o := 1) rfl) ?_
    refine w_N 1 28 [.ref 123, .int (nI j)] [.int (nI j), .ref 124] rfl ?_
    refine w_ia j (v := shK (V j).1) rfl (show X.2.1 (124) = 1 from M_k S 1 (by decide)) (show X.2.2.1 (124) = 8 from M_l S 1 (by decide)) rfl hj (by decide) ((HV j hj).1) ?_
    refine w_N 1 30 [.ref 123, .int (nI j)] [.int 1, .int (shK (V j).1)] rfl ?_
    refine w_icmp_ne (t := 42) rfl rfl (fun c2 => ?_) (fun c2 => ?_)
    · refine w_N 2 45 [.ref 123, .int (nI j)] [.ref 123, .int 10] rfl ?_
      refine w_gr 137 rfl rfl rfl (M_kd S) (M_r S (k := 5) (o := 14) rfl) ?_
      refine w_N 1 49 [.ref 123, .int (nI j)] [.int (nI j), .ref 137, .int 10] rfl ?_
      refine w_ia j (v := (V j).1 - 10) rfl (show X.2.1 (137) = 1 from M_k S 14 (by decide)) (show X.2.2.1 (137) = 8 from M_l S 14 (by decide)) rfl hj (by decide) ((HV j hj).2.2.2.1 (shK_2 c1 c2)) ?_
      refine w_N 1 51 [.ref 123, .int (nI j)] [.int (10 + ((V j).1 - 10))] rfl ?_
      refine w_ri rfl rfl ?_
      have e : 10 + ((V j).1 - 10) = (V j).1 := by rw [Int32.add_comm, Int32.sub_add_cancel]
      rw [e]
      exact mq_ P
    · refine w_N 1 34 [.ref 123, .int (nI j)] [.ref 123] rfl ?_
      refine w_gr 125 rfl rfl rfl (M_kd S) (M_r S (k := 1) (o := 2) rfl) ?_
      refine w_N 1 38 [.ref 123, .int (nI j)] [.int (nI j), .ref 125] rfl ?_
      refine w_ia j (v := (V j).1) rfl (show X.2.1 (125) = 1 from M_k S 2 (by decide)) (show X.2.2.1 (125) = 8 from M_l S 2 (by decide)) rfl hj (by decide) ((HV j hj).2.1 (shK_1 c2)) ?_
      refine w_N 1 51 [.ref 123, .int (nI j)] [.int ((V j).1)] rfl ?_
      refine w_ri rfl rfl ?_
      exact mq_ P
  · refine w_N 1 22 [.ref 123, .int (nI j)] [.int (-1)] rfl ?_
    refine w_ri rfl rfl ?_
    have e : (V j).1 = -1 := by
      rcases hc with e | ⟨k, hk, e⟩ | ⟨k, h1, h6, e⟩
      · exact e
      · exact absurd c1 (by rw [e, shK_w (wi_t (n := 4) hk (by decide))]; decide)
      · exact absurd c1 (by rw [e, shK_u (nI_lt (a := 10) (by omega) (by omega))]; decide)
    rw [e]
    exact mq_ P
theorem st_holds {B D : Nat} {n ts : Nat} {T : lm_T} {R : Nat → Int32} {KO : ab_K} {V : ab_V} {tl F : Nat → Int32} {s : Int32} (Z : okZ B D T n R KO V ts tl) (hB : B + 20 < 2000000) : STEP B 86 145 [.int s] T n R KO V ts tl F := by
  obtain ⟨hT, hO, hV, hts, htl, hDB, hB0, hKO⟩ := id Z
  cases hb : wi s 0 7
  · exact ⟨_, D, _, _, _, _, _, _, _, _, okZ_up Z hB, fun _ _ _ _ _ _ P hC => x_holds_b (d := 10) P hb hC, fun _ _ _ _ _ _ P => y_holds_b (d := 10) P hb⟩
  · obtain ⟨j, rfl, hj⟩ := wi_e (n := 7) hb (by decide)
    exact ⟨_, D, _, _, _, _, _, _, _, _, okZ_up Z hB, fun _ _ _ _ _ _ P hC => x_holds (d := 10) P (by omega) hC, fun _ _ _ _ _ _ P => y_holds (d := 10) P (by omega) (hV j (by omega)).1⟩
theorem x_element_b {d : Nat} {hi : Nat → Nat → Int32} {hl : Nat → Nat → Int64} {X : lm_X} {hi0 : Nat → Nat → Int32} {hl0 : Nat → Nat → Int64} {C n ts : Nat} {T : lm_T} {R : Nat → Int32} {KO : ab_K} {V : ab_V} {tl F : Nat → Int32} (P : cP hi0 hl0 hi hl X C T n R KO V ts tl F) {s i : Int32} (hb : (wi s 0 7) = false) (hC : C + 25 < 2147483648) : lm_w (d + 30) 85 [.ref 64, .int s, .int i] (hi, hl, X) (cQ hi0 hl0 X (C + 25) (.long 0) T n R KO V ts tl F) := by
  obtain ⟨S, O, H, HR, FO, HV, HT, HF, HK, E0, EL0⟩ := id P
  refine lm_w_in (Nat.le_of_ble_eq_true rfl) ?_
  show lm_wp (d + 30) 85 0 [.ref 64, .int s, .int i] [] (hi, hl, X) _
  refine w_N 1 1 [.ref 64, .int s, .int i] [.int s] rfl ?_
  refine w_cc rfl x_isShelf ?_
  show lm_wp _ 85 4 [.ref 64, .int s, .int i] [.int (bz (wi s 0 7))] (hi, hl, X) _
  refine w_zeq (t := 32) rfl rfl (fun c1 => ?_) (fun c1 => ?_)
  · refine w_N 1 33 [.ref 64, .int s, .int i] [.long 0] rfl ?_
    refine w_rl rfl rfl ?_
    exact cq_ P (by omega) hC
  · exact absurd hb (by simp [c1])
theorem y_element_b {d : Nat} {hi : Nat → Nat → Int32} {hl : Nat → Nat → Int64} {X : lm_X} {hi0 : Nat → Nat → Int32} {hl0 : Nat → Nat → Int64} {X0 : lm_X} {n ts : Nat} {T : lm_T} {R : Nat → Int32} {KO : ab_K} {V : ab_V} {tl F : Nat → Int32} (P : mP hi0 hl0 X0 hi hl X T n R KO V ts tl F) {s i : Int32} (hb : (wi s 0 7) = false) : lm_w (d + 30) 144 [.ref 123, .int s, .int i] (hi, hl, X) (mQ hi0 hl0 X0 (.long 0) T n R KO V ts tl F) := by
  obtain ⟨SR, O, H, HR, HV, HT, HF, HK, E0, EL0, EX0⟩ := id P
  have S := SR.1
  refine lm_w_in (Nat.le_of_ble_eq_true rfl) ?_
  show lm_wp (d + 30) 144 0 [.ref 123, .int s, .int i] [] (hi, hl, X) _
  refine w_N 4 6 [.ref 123, .int s, .int i] [.long 7, .long 0, .long s.toInt64] rfl ?_
  refine w_cc rfl (m_in (x := s) (lo := 0) (up := 7) rfl (by decide) (by decide)) ?_
  show lm_wp _ 144 9 [.ref 123, .int s, .int i] [.int (bz (wi s 0 7))] (hi, hl, X) _
  refine w_zeq (t := 51) rfl rfl (fun c1 => ?_) (fun c1 => ?_)
  · refine w_N 1 52 [.ref 123, .int s, .int i] [.long 0] rfl ?_
    refine w_rl rfl rfl ?_
    exact mq_ P
  · exact absurd hb (by simp [c1])
theorem x_element_c {d : Nat} {hi : Nat → Nat → Int32} {hl : Nat → Nat → Int64} {X : lm_X} {hi0 : Nat → Nat → Int32} {hl0 : Nat → Nat → Int64} {C n ts : Nat} {T : lm_T} {R : Nat → Int32} {KO : ab_K} {V : ab_V} {tl F : Nat → Int32} (P : cP hi0 hl0 hi hl X C T n R KO V ts tl F) {j : Nat} {i : Int32} (hj : j < 8) (hb : (wi (V j).1 0 4 && hsC i (V j).2.1) = false) (hC : C + 25 < 2147483648) : lm_w (d + 30) 85 [.ref 64, .int (nI j), .int i] (hi, hl, X) (cQ hi0 hl0 X (C + 25) (.long 0) T n R KO V ts tl F) := by
  obtain ⟨S, O, H, HR, FO, HV, HT, HF, HK, E0, EL0⟩ := id P
  refine lm_w_in (Nat.le_of_ble_eq_true rfl) ?_
  show lm_wp (d + 30) 85 0 [.ref 64, .int (nI j), .int i] [] (hi, hl, X) _
  refine w_N 1 1 [.ref 64, .int (nI j), .int i] [.int (nI j)] rfl ?_
  refine w_cc rfl (x_isShelf1 (wi_t (n := 7) (Nat.le_of_lt_succ hj) (by decide))) ?_
  show lm_wp _ 85 4 [.ref 64, .int (nI j), .int i] [.int 1] (hi, hl, X) _
  refine w_if_eq_f (t := 32) rfl rfl (by decide) ?_
  refine w_N 1 8 [.ref 64, .int (nI j), .int i] [.ref 64] rfl ?_
  refine w_gr 97 rfl rfl rfl (A_k S 64 (by decide)) (A_r S 64 5 (by decide)) ?_
  refine w_N 1 12 [.ref 64, .int (nI j), .int i] [.int (nI j), .ref 97] rfl ?_
  refine w_aa j (107 + 2 * j) rfl ⟨by rw [A_k S 97 (by decide)]; decide, by rw [A_k S 97 (by decide)]; decide⟩ (show X.2.2.1 97 = 8 from A_l S 97 (by decide)) rfl hj (by decide) (A_sv S hj) ?_
  refine w_cc (w_vst rfl rfl rfl (Nat.le_of_ble_eq_true rfl) (Nat.le_of_ble_eq_true rfl) (Sf_kd (A_Sf S hj))) (s_isRow (A_Sf S hj) ((HV j hj).1)) ?_
  show lm_wp _ 85 16 [.ref 64, .int (nI j), .int i] [.int (bz (wi ((V j).1) 0 4))] (hi, hl, X) _
  refine w_zeq (t := 32) rfl rfl (fun c1 => ?_) (fun c1 => ?_)
  · refine w_N 1 33 [.ref 64, .int (nI j), .int i] [.long 0] rfl ?_
    refine w_rl rfl rfl ?_
    exact cq_ P (by omega) hC
  · refine w_N 1 20 [.ref 64, .int (nI j), .int i] [.ref 64] rfl ?_
    refine w_gr 97 rfl rfl rfl (A_k S 64 (by decide)) (A_r S 64 5 (by decide)) ?_
    refine w_N 1 24 [.ref 64, .int (nI j), .int i] [.int (nI j), .ref 97] rfl ?_
    refine w_aa j (107 + 2 * j) rfl ⟨by rw [A_k S 97 (by decide)]; decide, by rw [A_k S 97 (by decide)]; decide⟩ (show X.2.2.1 97 = 8 from A_l S 97 (by decide)) rfl hj (by decide) (A_sv S hj) ?_
    refine w_N 1 26 [.ref 64, .int (nI j), .int i] [.int i, .ref (107 + 2 * j)] rfl ?_
    refine w_cc (w_vst rfl rfl rfl (Nat.le_of_ble_eq_true rfl) (Nat.le_of_ble_eq_true rfl) (Sf_kd (A_Sf S hj))) (s_hasCell (A_Sf S hj) ((HV j hj).2.1)) ?_
    show lm_wp _ 85 29 [.ref 64, .int (nI j), .int i] [.int (bz (hsC i (V j).2.1))] (hi, hl, X) _
    refine w_zne (t := 34) rfl rfl (fun c2 => ?_) (fun c2 => ?_)
    · exact absurd hb (by simp [c1, c2])
    · refine w_N 1 33 [.ref 64, .int (nI j), .int i] [.long 0] rfl ?_
      refine w_rl rfl rfl ?_
      exact cq_ P (by omega) hC
theorem y_element_c {d : Nat} {hi : Nat → Nat → Int32} {hl : Nat → Nat → Int64} {X : lm_X} {hi0 : Nat → Nat → Int32} {hl0 : Nat → Nat → Int64} {X0 : lm_X} {n ts : Nat} {T : lm_T} {R : Nat → Int32} {KO : ab_K} {V : ab_V} {tl F : Nat → Int32} (P : mP hi0 hl0 X0 hi hl X T n R KO V ts tl F) {j : Nat} {i : Int32} (hj : j < 8) (hz : (V j).2.1 ≤ 40) (hb : (wi (V j).1 0 4 && hsC i (V j).2.1) = false) : lm_w (d + 30) 144 [.ref 123, .int (nI j), .int i] (hi, hl, X) (mQ hi0 hl0 X0 (.long 0) T n R KO V ts tl F) := by
  obtain ⟨SR, O, H, HR, HV, HT, HF, HK, E0, EL0, EX0⟩ := id P
  have S := SR.1
  refine lm_w_in (Nat.le_of_ble_eq_true rfl) ?_
  show lm_wp (d + 30) 144 0 [.ref 123, .int (nI j), .int i] [] (hi, hl, X) _
  refine w_N 4 6 [.ref 123, .int (nI j), .int i] [.long 7, .long 0, .long ((nI j).toInt64)] rfl ?_
  refine w_cc rfl (lm_c_1 (m_in (x := nI j) (lo := 0) (up := 7) rfl (by decide) (by decide)) (wi_t (n := 7) (Nat.le_of_lt_succ hj) (by decide))) ?_
  show lm_wp _ 144 9 [.ref 123, .int (nI j), .int i] [.int 1] (hi, hl, X) _
  refine w_if_eq_f (t := 51) rfl rfl (by decide) ?_
  refine w_N 1 13 [.ref 123, .int (nI j), .int i] [.ref 123] rfl ?_
  refine w_gr 124 rfl rfl rfl (M_kd S) (M_r S (k := 0) (o := 1) rfl) ?_
  refine w_N 1 17 [.ref 123, .int (nI j), .int i] [.int (nI j), .ref 124] rfl ?_
  refine w_ia j (v := shK (V j).1) rfl (show X.2.1 (124) = 1 from M_k S 1 (by decide)) (show X.2.2.1 (124) = 8 from M_l S 1 (by decide)) rfl hj (by decide) ((HV j hj).1) ?_
  refine w_N 1 19 [.ref 123, .int (nI j), .int i] [.int 1, .int (shK (V j).1)] rfl ?_
  refine w_icmp_ne (t := 51) rfl rfl (fun c1 => ?_) (fun c1 => ?_)
  · refine w_N 1 52 [.ref 123, .int (nI j), .int i] [.long 0] rfl ?_
    refine w_rl rfl rfl ?_
    exact mq_ P
  · refine w_N 4 26 [.ref 123, .int (nI j), .int i] [.ref 123, .long 0, .long i.toInt64] rfl ?_
    refine w_gr 126 rfl rfl rfl (M_kd S) (M_r S (k := 2) (o := 3) rfl) ?_
    refine w_N 1 30 [.ref 123, .int (nI j), .int i] [.int (nI j), .ref 126, .long 0, .long i.toInt64] rfl ?_
    refine w_ia j (v := nI (V j).2.1) rfl (show X.2.1 (126) = 1 from M_k S 3 (by decide)) (show X.2.2.1 (126) = 8 from M_l S 3 (by decide)) rfl hj (by decide) ((HV j hj).2.2.1) ?_
    refine w_N 3 34 [.ref 123, .int (nI j), .int i] [.long (((nI (V j).2.1) - 1).toInt64), .long 0, .long i.toInt64] rfl ?_
    refine w_cc rfl (m_in (x := i) (lo := 0) (up := (nI (V j).2.1) - 1) rfl (by decide) rfl) ?_
    show lm_wp _ 144 37 [.ref 123, .int (nI j), .int i] [.int (bz (wi i 0 ((nI (V j).2.1) - 1)))] (hi, hl, X) _
    refine w_zeq (t := 51) rfl rfl (fun c2 => ?_) (fun c2 => ?_)
    · refine w_N 1 52 [.ref 123, .int (nI j), .int i] [.long 0] rfl ?_
      refine w_rl rfl rfl ?_
      exact mq_ P
    · rw [shK_1 c1, ← hsC_wi hz, c2] at hb
      cases hb
theorem x_element {d : Nat} {hi : Nat → Nat → Int32} {hl : Nat → Nat → Int64} {X : lm_X} {hi0 : Nat → Nat → Int32} {hl0 : Nat → Nat → Int64} {C n ts : Nat} {T : lm_T} {R : Nat → Int32} {KO : ab_K} {V : ab_V} {tl F : Nat → Int32} (P : cP hi0 hl0 hi hl X C T n R KO V ts tl F) {j i : Nat} (hj : j < 8) (hw : wi (V j).1 0 4 = true) (hi2 : i < (V j).2.1) (hz : (V j).2.1 ≤ 40) (hC : C + 25 < 2147483648) : lm_w (d + 30) 85 [.ref 64, .int (nI j), .int (nI i)] (hi, hl, X) (cQ hi0 hl0 X (C + 25) (.long ((V j).2.2.2 i)) T n R KO V ts tl F) := by
  obtain ⟨S, O, H, HR, FO, HV, HT, HF, HK, E0, EL0⟩ := id P
  have hh : hsC (nI i) (V j).2.1 = true := by rw [← hsC_wi hz]; exact (wi_p (by omega)).mpr ⟨i, rfl, hi2⟩
  refine lm_w_in (Nat.le_of_ble_eq_true rfl) ?_
  show lm_wp (d + 30) 85 0 [.ref 64, .int (nI j), .int (nI i)] [] (hi, hl, X) _
  refine w_N 1 1 [.ref 64, .int (nI j), .int (nI i)] [.int (nI j)] rfl ?_
  refine w_cc rfl (x_isShelf1 (wi_t (n := 7) (Nat.le_of_lt_succ hj) (by decide))) ?_
  show lm_wp _ 85 4 [.ref 64, .int (nI j), .int (nI i)] [.int 1] (hi, hl, X) _
  refine w_if_eq_f (t := 32) rfl rfl (by decide) ?_
  refine w_N 1 8 [.ref 64, .int (nI j), .int (nI i)] [.ref 64] rfl ?_
  refine w_gr 97 rfl rfl rfl (A_k S 64 (by decide)) (A_r S 64 5 (by decide)) ?_
  refine w_N 1 12 [.ref 64, .int (nI j), .int (nI i)] [.int (nI j), .ref 97] rfl ?_
  refine w_aa j (107 + 2 * j) rfl ⟨by rw [A_k S 97 (by decide)]; decide, by rw [A_k S 97 (by decide)]; decide⟩ (show X.2.2.1 97 = 8 from A_l S 97 (by decide)) rfl hj (by decide) (A_sv S hj) ?_
  refine w_cc (w_vst rfl rfl rfl (Nat.le_of_ble_eq_true rfl) (Nat.le_of_ble_eq_true rfl) (Sf_kd (A_Sf S hj))) (lm_c_1 (s_isRow (A_Sf S hj) ((HV j hj).1)) (hw)) ?_
  show lm_wp _ 85 16 [.ref 64, .int (nI j), .int (nI i)] [.int 1] (hi, hl, X) _
  refine w_if_eq_f (t := 32) rfl rfl (by decide) ?_
  refine w_N 1 20 [.ref 64, .int (nI j), .int (nI i)] [.ref 64] rfl ?_
  refine w_gr 97 rfl rfl rfl (A_k S 64 (by decide)) (A_r S 64 5 (by decide)) ?_
  refine w_N 1 24 [.ref 64, .int (nI j), .int (nI i)] [.int (nI j), .ref 97] rfl ?_
  refine w_aa j (107 + 2 * j) rfl ⟨by rw [A_k S 97 (by decide)]; decide, by rw [A_k S 97 (by decide)]; decide⟩ (show X.2.2.1 97 = 8 from A_l S 97 (by decide)) rfl hj (by decide) (A_sv S hj) ?_
  refine w_N 1 26 [.ref 64, .int (nI j), .int (nI i)] [.int (nI i), .ref (107 + 2 * j)] rfl ?_
  refine w_cc (w_vst rfl rfl rfl (Nat.le_of_ble_eq_true rfl) (Nat.le_of_ble_eq_true rfl) (Sf_kd (A_Sf S hj))) (lm_c_1 (s_hasCell (A_Sf S hj) ((HV j hj).2.1)) (hh)) ?_
  show lm_wp _ 85 29 [.ref 64, .int (nI j), .int (nI i)] [.int 1] (hi, hl, X) _
  refine w_if_ne_t (t := 34) rfl rfl (by decide) ?_
  refine w_N 1 35 [.ref 64, .int (nI j), .int (nI i)] [.ref 64] rfl ?_
  refine w_gr 97 rfl rfl rfl (A_k S 64 (by decide)) (A_r S 64 5 (by decide)) ?_
  refine w_N 1 39 [.ref 64, .int (nI j), .int (nI i)] [.int (nI j), .ref 97] rfl ?_
  refine w_aa j (107 + 2 * j) rfl ⟨by rw [A_k S 97 (by decide)]; decide, by rw [A_k S 97 (by decide)]; decide⟩ (show X.2.2.1 97 = 8 from A_l S 97 (by decide)) rfl hj (by decide) (A_sv S hj) ?_
  refine w_gr (107 + 2 * j + 1) rfl rfl rfl (Sf_kd (A_Sf S hj)) (Sf_r0 (A_Sf S hj)) ?_
  refine w_N 1 44 [.ref 64, .int (nI j), .int (nI i)] [.int (nI i), .ref (107 + 2 * j + 1)] rfl ?_
  refine w_la i (v := (V j).2.2.2 i) rfl (Sf_k0 (A_Sf S hj)) (Sf_l0 (A_Sf S hj)) rfl (by omega) (by decide) ((HV j hj).2.2.2 i (by omega)) ?_
  refine w_rl rfl rfl ?_
  exact cq_ P (by omega) hC
theorem y_element {d : Nat} {hi : Nat → Nat → Int32} {hl : Nat → Nat → Int64} {X : lm_X} {hi0 : Nat → Nat → Int32} {hl0 : Nat → Nat → Int64} {X0 : lm_X} {n ts : Nat} {T : lm_T} {R : Nat → Int32} {KO : ab_K} {V : ab_V} {tl F : Nat → Int32} (P : mP hi0 hl0 X0 hi hl X T n R KO V ts tl F) {j i : Nat} (hj : j < 8) (hw : wi (V j).1 0 4 = true) (hi2 : i < (V j).2.1) (hz : (V j).2.1 ≤ 40) : lm_w (d + 30) 144 [.ref 123, .int (nI j), .int (nI i)] (hi, hl, X) (mQ hi0 hl0 X0 (.long ((V j).2.2.2 i)) T n R KO V ts tl F) := by
  obtain ⟨SR, O, H, HR, HV, HT, HF, HK, E0, EL0, EX0⟩ := id P
  have S := SR.1
  refine lm_w_in (Nat.le_of_ble_eq_true rfl) ?_
  show lm_wp (d + 30) 144 0 [.ref 123, .int (nI j), .int (nI i)] [] (hi, hl, X) _
  refine w_N 4 6 [.ref 123, .int (nI j), .int (nI i)] [.long 7, .long 0, .long ((nI j).toInt64)] rfl ?_
  refine w_cc rfl (lm_c_1 (m_in (x := nI j) (lo := 0) (up := 7) rfl (by decide) (by decide)) (wi_t (n := 7) (Nat.le_of_lt_succ hj) (by decide))) ?_
  show lm_wp _ 144 9 [.ref 123, .int (nI j), .int (nI i)] [.int 1] (hi, hl, X) _
  refine w_if_eq_f (t := 51) rfl rfl (by decide) ?_
  refine w_N 1 13 [.ref 123, .int (nI j), .int (nI i)] [.ref 123] rfl ?_
  refine w_gr 124 rfl rfl rfl (M_kd S) (M_r S (k := 0) (o := 1) rfl) ?_
  refine w_N 1 17 [.ref 123, .int (nI j), .int (nI i)] [.int (nI j), .ref 124] rfl ?_
  refine w_ia j (v := 1) rfl (show X.2.1 (124) = 1 from M_k S 1 (by decide)) (show X.2.2.1 (124) = 8 from M_l S 1 (by decide)) rfl hj (by decide) ((HV j hj).1.trans (shK_w hw)) ?_
  refine w_N 1 19 [.ref 123, .int (nI j), .int (nI i)] [.int 1, .int 1] rfl ?_
  refine w_icmp_ne_f (t := 51) rfl rfl (by decide) ?_
  refine w_N 4 26 [.ref 123, .int (nI j), .int (nI i)] [.ref 123, .long 0, .long ((nI i).toInt64)] rfl ?_
  refine w_gr 126 rfl rfl rfl (M_kd S) (M_r S (k := 2) (o := 3) rfl) ?_
  refine w_N 1 30 [.ref 123, .int (nI j), .int (nI i)] [.int (nI j), .ref 126, .long 0, .long ((nI i).toInt64)] rfl ?_
  refine w_ia j (v := nI (V j).2.1) rfl (show X.2.1 (126) = 1 from M_k S 3 (by decide)) (show X.2.2.1 (126) = 8 from M_l S 3 (by decide)) rfl hj (by decide) ((HV j hj).2.2.1) ?_
  refine w_N 3 34 [.ref 123, .int (nI j), .int (nI i)] [.long (((nI (V j).2.1) - 1).toInt64), .long 0, .long ((nI i).toInt64)] rfl ?_
  refine w_cc rfl (lm_c_1 (m_in (x := nI i) (lo := 0) (up := (nI (V j).2.1) - 1) rfl (by decide) rfl) ((wi_p (x := nI i) (n := (V j).2.1) (by omega)).mpr ⟨i, rfl, hi2⟩)) ?_
  show lm_wp _ 144 37 [.ref 123, .int (nI j), .int (nI i)] [.int 1] (hi, hl, X) _
  refine w_if_eq_f (t := 51) rfl rfl (by decide) ?_
  refine w_N 1 41 [.ref 123, .int (nI j), .int (nI i)] [.ref 123] rfl ?_
  refine w_gr 127 rfl rfl rfl (M_kd S) (M_r S (k := 3) (o := 4) rfl) ?_
  refine w_N 1 45 [.ref 123, .int (nI j), .int (nI i)] [.int (nI j), .ref 127] rfl ?_
  refine w_aa j (123 + (5 + j)) rfl (M_kk S (o := 4) (by decide)) (show X.2.2.1 (127) = 8 from M_l S 4 (by decide)) rfl hj (by decide) (M_ror S hj) ?_
  refine w_N 1 47 [.ref 123, .int (nI j), .int (nI i)] [.int (nI i), .ref (123 + (5 + j))] rfl ?_
  refine w_la i (v := (V j).2.2.2 i) rfl (M_rok S hj) (M_rol S hj) rfl (by omega) (by decide) ((HV j hj).2.2.2.2.2 i (by omega)) ?_
  refine w_N 1 52 [.ref 123, .int (nI j), .int (nI i)] [.long ((V j).2.2.2 i)] rfl ?_
  refine w_rl rfl rfl ?_
  exact mq_ P
theorem st_element {B D : Nat} {n ts : Nat} {T : lm_T} {R : Nat → Int32} {KO : ab_K} {V : ab_V} {tl F : Nat → Int32} {s i : Int32} (Z : okZ B D T n R KO V ts tl) (hB : B + 20 < 2000000) : STEPL B 85 144 [.int s, .int i] T n R KO V ts tl F := by
  obtain ⟨hT, hO, hV, hts, htl, hDB, hB0, hKO⟩ := id Z
  cases hb : wi s 0 7
  · exact ⟨_, D, _, _, _, _, _, _, _, _, okZ_up Z hB, fun _ _ _ _ _ _ P hC => x_element_b (d := 10) P hb hC, fun _ _ _ _ _ _ P => y_element_b (d := 10) P hb⟩
  · obtain ⟨j, rfl, hj⟩ := wi_e (n := 7) hb (by decide)
    have hz := (hV j (by omega)).2.1
    by_cases h : (wi (V j).1 0 4 && hsC i (V j).2.1) = false
    · exact ⟨_, D, _, _, _, _, _, _, _, _, okZ_up Z hB, fun _ _ _ _ _ _ P hC => x_element_c (d := 10) P (by omega) h hC, fun _ _ _ _ _ _ P => y_element_c (d := 10) P (by omega) hz h⟩
    · obtain ⟨h1, h2⟩ := and2_t h
      rw [← hsC_wi hz] at h2
      obtain ⟨i, rfl, h3⟩ := (wi_p (by omega)).mp h2
      exact ⟨_, D, _, _, _, _, _, _, _, _, okZ_up Z hB, fun _ _ _ _ _ _ P hC => x_element (d := 10) P (by omega) h1 h3 hz hC, fun _ _ _ _ _ _ P => y_element (d := 10) P (by omega) h1 h3 hz⟩
