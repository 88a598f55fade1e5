set_option maxRecDepth 16384
/-! calls: days, run -/
theorem awk_z0 {s : Int32} (h : nI (awk s) = 0) : awk s = 0 := (nI_inj (a := awk s) (b := 0) (by have := awk_lt s; omega) (by decide)).mp h
theorem awk_z1 {s : Int32} (h : ¬ nI (awk s) = 0) : awk s = 1 := by
  have := awk_lt s
  rcases (by omega : awk s = 0 ∨ awk s = 1) with q | q
  · exact absurd (by rw [q]; rfl) h
  · exact q
/-- a trial's days and the reference's -/
theorem rn_eq (T : lm_T) (n : Nat) (K A : Nat → Nat) (R : Nat → Int32) : ∀ m, rnZ T n K A (bgZ (R 10)) m 0 = rnR T n K A (zrR R) m 10 ∧ rnZ T n K A (bgZ (R 10)) m 1 = rnR T n K A (zrR R) m 20 ∧ rnZ T n K A (bgZ (R 10)) m 2 = rnR T n K A (zrR R) m 21 ∧ rnZ T n K A (bgZ (R 10)) m 3 = rnB T n K A (zrR R) m ∧ rnZ T n K A (bgZ (R 10)) m 4 = rnL T n K A (zrR R) m := by
  intro m
  induction m with
  | zero => exact ⟨rfl, rfl, rfl, rfl, rfl⟩
  | succ m ih =>
    obtain ⟨i0, i1, i2, i3, i4⟩ := ih
    have hw := awk_lt (rnR T n K A (zrR R) m 10)
    have e : rnZ T n K A (bgZ (R 10)) (m + 1) = goZ T (rnC T n K A (zrR R) m) (rnZ T n K A (bgZ (R 10)) m) := by
      show goZ T _ _ = _
      unfold rnC
      rw [i0]
    have e2 : rnR T n K A (zrR R) (m + 1) = lvR T (rnC T n K A (zrR R) m) (rnR T n K A (zrR R) m) := rfl
    rw [e, e2]
    refine ⟨?_, ?_, ?_, ?_, ?_⟩
    · show s_next (aft T _ (rnZ T n K A (bgZ (R 10)) m 0)) = s_next (aft T _ (rnR T n K A (zrR R) m 10))
      rw [i0]
    · unfold goZ lvR
      rw [i0, i1]
      rcases (by omega : awk (rnR T n K A (zrR R) m 10) = 0 ∨ awk (rnR T n K A (zrR R) m 10) = 1) with q | q <;> simp [q]
    · unfold goZ lvR
      rw [i0, i2]
      rcases (by omega : awk (rnR T n K A (zrR R) m 10) = 0 ∨ awk (rnR T n K A (zrR R) m 10) = 1) with q | q <;> simp [q]
    · show _ = if rnC T n K A (zrR R) m = 0 then rnB T n K A (zrR R) m else rnB T n K A (zrR R) m + 1
      unfold goZ
      rw [i0, i3]
      rcases (by omega : awk (rnR T n K A (zrR R) m 10) = 0 ∨ awk (rnR T n K A (zrR R) m 10) = 1) with q | q <;> simp [q]
    · show _ = aI (rnC T n K A (zrR R) m)
      unfold goZ
      rw [i0]
      rcases (by omega : awk (rnR T n K A (zrR R) m 10) = 0 ∨ awk (rnR T n K A (zrR R) m 10) = 1) with q | q <;> simp [q]
/-- two rules: by the half -/
def k2 (a b : Nat) : Nat → Nat := fun h => if h = 0 then a else b
theorem k2_ok {a b x y : Nat} (h1 : 1 ≤ a ∧ a ≤ 6 ∧ x ≤ 99) (h2 : 1 ≤ b ∧ b ≤ 6 ∧ y ≤ 99) : ∀ h, h < 2 → 1 ≤ k2 a b h ∧ k2 a b h ≤ 6 ∧ k2 x y h ≤ 99 := by
  intro h hh
  unfold k2
  by_cases e : h = 0
  · simp [e, h1]
  · simp [e, h2]
theorem x_days1 {d : Nat} {hi : Nat → Nat → Int32} {hl : Nat → Nat → Int64} {X : lm_X} {hi0 : Nat → Nat → Int32} {hl0 : Nat → Nat → Int64} {C n ts : Nat} {T : lm_T} {R : Nat → Int32} {KO : ab_K} {V : ab_V} {tl F : Nat → Int32} {B D : Nat} (Z : okZ B D T n R KO V ts tl) {j k N : Nat} {K A : Nat → Nat} (hj : j < 8) (hk : k < 8) (hN : N ≤ 60) (hK : ∀ h, h < 2 → 1 ≤ K h ∧ K h ≤ 6 ∧ A h ≤ 99) (e0 : (V j).1 = nI (10 + K 0)) (a0 : (V j).2.2.1 = A 0) (e1 : (V k).1 = nI (10 + K 1)) (a1 : (V k).2.2.1 = A 1) {Po : Option Value → lm_H → Prop} (kc : ∀ (c : Int32) (hi' : Nat → Nat → Int32) (x6 : Value), cP hi0 hl0 hi' hl X C T n (rnR T n K A R N) KO V ts tl F → lm_wp (d + 30) 108 119 [.ref 64, .int (nI j), .int (nI k), .int (nI N), .int 0, .int c, x6] [] (hi', hl, X) Po) : ∀ (r m : Nat) (hi' : Nat → Nat → Int32) (mk : Int32) (x6 : Value), m + r = N → (mk = nI m) → (cP hi0 hl0 hi' hl X C T n (rnR T n K A R m) KO V ts tl F) → lm_wp (d + 30) 108 54 [.ref 64, .int (nI j), .int (nI k), .int (nI N), .int 0, .int mk, x6] [] (hi', hl, X) Po := by
  intro r
  induction r with
  | zero =>
    intro m hi' mk x6 hm e2 P
    refine w_N 2 57 [.ref 64, .int (nI j), .int (nI k), .int (nI N), .int 0, .int mk, x6] [.int (nI N), .int mk] rfl ?_
    refine w_icmp_ge_t (t := 119) rfl rfl (by rw [e2, show m = N by omega]; exact fun z => Int32.lt_irrefl z) ?_
    obtain rfl : m = N := by omega
    exact kc _ _ _ P
  | succ r ih =>
    intro m hi' mk x6 hm e2 P
    obtain ⟨S, O, H, HR, FO, HV, HT, HF, HK, E0, EL0⟩ := id P
    obtain ⟨hT, hO, hV, hts, htl, hDB, hB0, hKO⟩ := id Z
    have hO0 := okR_rn (K := K) (A := A) hT (isTle H) hO m
    refine w_N 2 57 [.ref 64, .int (nI j), .int (nI k), .int (nI N), .int 0, .int mk, x6] [.int (nI N), .int mk] rfl ?_
    refine w_icmp_ge_f (t := 119) rfl rfl (by rw [e2]; exact nI_lt (by omega) (by omega)) ?_
    refine w_N 1 61 [.ref 64, .int (nI j), .int (nI k), .int (nI N), .int 0, .int mk, x6] [.ref 64] rfl ?_
    refine w_gr 65 rfl rfl rfl (A_k S 64 (by decide)) (A_r S 64 0 (by decide)) ?_
    refine w_gi (v := (rnR T n K A R m) 10) rfl rfl rfl (T_kd (A_T65 S)) (HR.1) ?_
    refine w_cc rfl (c_awkz rfl) ?_
    show lm_wp _ 108 70 [.ref 64, .int (nI j), .int (nI k), .int (nI N), .int 0, .int mk, x6] [.int (nI (awk ((rnR T n K A R m) 10)))] (hi', hl, X) _
    refine w_if_ne (t := 82) rfl rfl (fun c1 => ?_) (fun c1 => ?_)
    · refine w_N 1 83 [.ref 64, .int (nI j), .int (nI k), .int (nI N), .int 0, .int mk, x6] [.ref 64] rfl ?_
      refine w_gr 97 rfl rfl rfl (A_k S 64 (by decide)) (A_r S 64 5 (by decide)) ?_
      refine w_N 1 87 [.ref 64, .int (nI j), .int (nI k), .int (nI N), .int 0, .int mk, x6] [.int (nI k), .ref 97] rfl ?_
      refine w_aa k (107 + 2 * k) rfl ⟨by rw [A_k S 97 (by decide)]; decide, by rw [A_k S 97 (by decide)]; decide⟩ (show X.2.2.1 97 = 8 from A_l S 97 (by decide)) rfl hk (by decide) (A_sv S hk) ?_
      refine w_N 2 91 [.ref 64, .int (nI j), .int (nI k), .int (nI N), .int 0, .int mk, .ref (107 + 2 * k)] [.ref 64] rfl ?_
      refine w_gr 65 rfl rfl rfl (A_k S 64 (by decide)) (A_r S 64 0 (by decide)) ?_
      refine w_N 1 95 [.ref 64, .int (nI j), .int (nI k), .int (nI N), .int 0, .int mk, .ref (107 + 2 * k)] [.ref 64, .ref 65] rfl ?_
      refine w_gr 103 rfl rfl rfl (A_k S 64 (by decide)) (A_r S 64 7 (by decide)) ?_
      refine w_N 2 101 [.ref 64, .int (nI j), .int (nI k), .int (nI N), .int 0, .int mk, .ref (107 + 2 * k)] [.ref 64, .ref (107 + 2 * k), .ref 103, .ref 65] rfl ?_
      refine w_gr 65 rfl rfl rfl (A_k S 64 (by decide)) (A_r S 64 0 (by decide)) ?_
      refine w_gi (v := (rnR T n K A R m) 10) rfl rfl rfl (T_kd (A_T65 S)) (HR.1) ?_
      have hz : awk ((rnR T n K A R m) 10) = 1 := awk_z1 c1
      have eC : rnC T n K A R m = chs T n (K 1) (A 1) ((rnR T n K A R m) 10) := by unfold rnC; rw [hz]
      refine w_ca (w_vst rfl rfl rfl (Nat.le_of_ble_eq_true rfl) (Nat.le_of_ble_eq_true rfl) (A_k S 103 (by decide))) (r_choose (d := d + 15) S H FO hT hO0.1 (A_Sf S hk) ((HV k hk).1.trans e1) ((HV k hk).2.2.1.trans (congrArg nI a1)) (hK 1 (by decide)).1 (hK 1 (by decide)).2.1 (hK 1 (by decide)).2.2) ?_
      rintro _ _ ⟨h5x, rfl, rfl, f5, FO5⟩
      rw [← eC]
      have P := cP_fore P (fr_mono f5 (by decide)) FO5
      obtain ⟨S, O, H, HR, FO, HV, HT, HF, HK, E0, EL0⟩ := id P
      show lm_wp _ 108 110 [.ref 64, .int (nI j), .int (nI k), .int (nI N), .int 0, .int mk, .ref (107 + 2 * k)] [.int (aI (rnC T n K A R m)), .ref 65] (h5x, hl, X) _
      have hc := chs_ok T n (K (awk ((rnR T n K A R m) 10))) (A (awk ((rnR T n K A R m) 10))) ((rnR T n K A R m) 10) (isTle H)
      refine w_ca (w_vst rfl rfl rfl (Nat.le_of_ble_eq_true rfl) (Nat.le_of_ble_eq_true rfl) (T_kd (A_T65 S))) (t_live (d := d + 27) (i := rnC T n K A R m) (A_T65 S) H HR (by have := isTle H; have : rnC T n K A R m ≤ n := hc.1; omega)) ?_
      rintro _ _ ⟨h6x, rfl, rfl, H6, R6, c6, f6⟩
      have P := cP_town P f6 H6 R6 (fok_same f6 c6 FO)
      show lm_wp _ 108 113 [.ref 64, .int (nI j), .int (nI k), .int (nI N), .int 0, .int mk, .ref (107 + 2 * k)] [] (h6x, hl, X) _
      refine w_N 2 54 [.ref 64, .int (nI j), .int (nI k), .int (nI N), .int 0, .int (mk + 1), .ref (107 + 2 * k)] [] rfl ?_
      exact ih (m + 1) _ _ _ (by omega) (by rw [e2, nI_succ]) P
    · refine w_N 1 74 [.ref 64, .int (nI j), .int (nI k), .int (nI N), .int 0, .int mk, x6] [.ref 64] rfl ?_
      refine w_gr 97 rfl rfl rfl (A_k S 64 (by decide)) (A_r S 64 5 (by decide)) ?_
      refine w_N 1 78 [.ref 64, .int (nI j), .int (nI k), .int (nI N), .int 0, .int mk, x6] [.int (nI j), .ref 97] rfl ?_
      refine w_aa j (107 + 2 * j) rfl ⟨by rw [A_k S 97 (by decide)]; decide, by rw [A_k S 97 (by decide)]; decide⟩ (show X.2.2.1 97 = 8 from A_l S 97 (by decide)) rfl hj (by decide) (A_sv S hj) ?_
      refine w_N 3 91 [.ref 64, .int (nI j), .int (nI k), .int (nI N), .int 0, .int mk, .ref (107 + 2 * j)] [.ref 64] rfl ?_
      refine w_gr 65 rfl rfl rfl (A_k S 64 (by decide)) (A_r S 64 0 (by decide)) ?_
      refine w_N 1 95 [.ref 64, .int (nI j), .int (nI k), .int (nI N), .int 0, .int mk, .ref (107 + 2 * j)] [.ref 64, .ref 65] rfl ?_
      refine w_gr 103 rfl rfl rfl (A_k S 64 (by decide)) (A_r S 64 7 (by decide)) ?_
      refine w_N 2 101 [.ref 64, .int (nI j), .int (nI k), .int (nI N), .int 0, .int mk, .ref (107 + 2 * j)] [.ref 64, .ref (107 + 2 * j), .ref 103, .ref 65] rfl ?_
      refine w_gr 65 rfl rfl rfl (A_k S 64 (by decide)) (A_r S 64 0 (by decide)) ?_
      refine w_gi (v := (rnR T n K A R m) 10) rfl rfl rfl (T_kd (A_T65 S)) (HR.1) ?_
      have hz : awk ((rnR T n K A R m) 10) = 0 := awk_z0 c1
      have eC : rnC T n K A R m = chs T n (K 0) (A 0) ((rnR T n K A R m) 10) := by unfold rnC; rw [hz]
      refine w_ca (w_vst rfl rfl rfl (Nat.le_of_ble_eq_true rfl) (Nat.le_of_ble_eq_true rfl) (A_k S 103 (by decide))) (r_choose (d := d + 15) S H FO hT hO0.1 (A_Sf S hj) ((HV j hj).1.trans e0) ((HV j hj).2.2.1.trans (congrArg nI a0)) (hK 0 (by decide)).1 (hK 0 (by decide)).2.1 (hK 0 (by decide)).2.2) ?_
      rintro _ _ ⟨h5x, rfl, rfl, f5, FO5⟩
      rw [← eC]
      have P := cP_fore P (fr_mono f5 (by decide)) FO5
      obtain ⟨S, O, H, HR, FO, HV, HT, HF, HK, E0, EL0⟩ := id P
      show lm_wp _ 108 110 [.ref 64, .int (nI j), .int (nI k), .int (nI N), .int 0, .int mk, .ref (107 + 2 * j)] [.int (aI (rnC T n K A R m)), .ref 65] (h5x, hl, X) _
      have hc := chs_ok T n (K (awk ((rnR T n K A R m) 10))) (A (awk ((rnR T n K A R m) 10))) ((rnR T n K A R m) 10) (isTle H)
      refine w_ca (w_vst rfl rfl rfl (Nat.le_of_ble_eq_true rfl) (Nat.le_of_ble_eq_true rfl) (T_kd (A_T65 S))) (t_live (d := d + 27) (i := rnC T n K A R m) (A_T65 S) H HR (by have := isTle H; have : rnC T n K A R m ≤ n := hc.1; omega)) ?_
      rintro _ _ ⟨h6x, rfl, rfl, H6, R6, c6, f6⟩
      have P := cP_town P f6 H6 R6 (fok_same f6 c6 FO)
      show lm_wp _ 108 113 [.ref 64, .int (nI j), .int (nI k), .int (nI N), .int 0, .int mk, .ref (107 + 2 * j)] [] (h6x, hl, X) _
      refine w_N 2 54 [.ref 64, .int (nI j), .int (nI k), .int (nI N), .int 0, .int (mk + 1), .ref (107 + 2 * j)] [] rfl ?_
      exact ih (m + 1) _ _ _ (by omega) (by rw [e2, nI_succ]) P
theorem x_days_b {d : Nat} {hi : Nat → Nat → Int32} {hl : Nat → Nat → Int64} {X : lm_X} {hi0 : Nat → Nat → Int32} {hl0 : Nat → Nat → Int64} {C n ts : Nat} {T : lm_T} {R : Nat → Int32} {KO : ab_K} {V : ab_V} {tl F : Nat → Int32} (P : cP hi0 hl0 hi hl X C T n R KO V ts tl F) {s t m : Int32}  (hb : (wi s 0 7 && wi t 0 7 && wi m 1 20) = false) (hC : C + 25 < 2147483648) : lm_w (d + 30) 108 [.ref 64, .int s, .int t, .int m] (hi, hl, X) (cQ hi0 hl0 X (C + 25) (.int (-2)) T n R KO V ts tl (rfU F (-2))) := by
  obtain ⟨S, O, H, HR, FO, HV, HT, HF, HK, E0, EL0⟩ := id P
  refine lm_w_in (Nat.le_of_ble_eq_true rfl) ?_
  show lm_wp (d + 30) 108 0 [.ref 64, .int s, .int t, .int m, lm_jk, lm_jk, lm_jk] [] (hi, hl, X) _
  refine w_N 1 1 [.ref 64, .int s, .int t, .int m, lm_jk, lm_jk, lm_jk] [.int s] rfl ?_
  refine w_cc rfl x_isShelf ?_
  show lm_wp _ 108 4 [.ref 64, .int s, .int t, .int m, lm_jk, lm_jk, lm_jk] [.int (bz (wi s 0 7))] (hi, hl, X) _
  refine w_zeq (t := 24) rfl rfl (fun c1 => ?_) (fun c1 => ?_)
  · refine w_N 2 27 [.ref 64, .int s, .int t, .int m, lm_jk, lm_jk, lm_jk] [.int (-2), .ref 64] rfl ?_
    refine w_ca (w_vst rfl rfl rfl (Nat.le_of_ble_eq_true rfl) (Nat.le_of_ble_eq_true rfl) (A_k S 64 (by decide))) (x_refuse P (by unfold isW; decide)) ?_
    rintro _ _ ⟨rfl, hi9, rfl, P9⟩
    show lm_wp _ 108 30 [.ref 64, .int s, .int t, .int m, lm_jk, lm_jk, lm_jk] [.int (-2)] (hi9, hl, X) _
    refine w_ri rfl rfl ?_
    exact cq_ P9 (by omega) hC
  · refine w_N 1 8 [.ref 64, .int s, .int t, .int m, lm_jk, lm_jk, lm_jk] [.int t] rfl ?_
    refine w_cc rfl x_isShelf ?_
    show lm_wp _ 108 11 [.ref 64, .int s, .int t, .int m, lm_jk, lm_jk, lm_jk] [.int (bz (wi t 0 7))] (hi, hl, X) _
    refine w_zeq (t := 24) rfl rfl (fun c2 => ?_) (fun c2 => ?_)
    · refine w_N 2 27 [.ref 64, .int s, .int t, .int m, lm_jk, lm_jk, lm_jk] [.int (-2), .ref 64] rfl ?_
      refine w_ca (w_vst rfl rfl rfl (Nat.le_of_ble_eq_true rfl) (Nat.le_of_ble_eq_true rfl) (A_k S 64 (by decide))) (x_refuse P (by unfold isW; decide)) ?_
      rintro _ _ ⟨rfl, hi9, rfl, P9⟩
      show lm_wp _ 108 30 [.ref 64, .int s, .int t, .int m, lm_jk, lm_jk, lm_jk] [.int (-2)] (hi9, hl, X) _
      refine w_ri rfl rfl ?_
      exact cq_ P9 (by omega) hC
    · refine w_N 3 18 [.ref 64, .int s, .int t, .int m, lm_jk, lm_jk, lm_jk] [.int 20, .int 1, .int m] rfl ?_
      refine w_cc rfl x_within ?_
      show lm_wp _ 108 21 [.ref 64, .int s, .int t, .int m, lm_jk, lm_jk, lm_jk] [.int (bz (wi m 1 20))] (hi, hl, X) _
      refine w_zne (t := 31) rfl rfl (fun c3 => ?_) (fun c3 => ?_)
      · exact absurd hb (by simp [c1, c2, c3])
      · refine w_N 2 27 [.ref 64, .int s, .int t, .int m, lm_jk, lm_jk, lm_jk] [.int (-2), .ref 64] rfl ?_
        refine w_ca (w_vst rfl rfl rfl (Nat.le_of_ble_eq_true rfl) (Nat.le_of_ble_eq_true rfl) (A_k S 64 (by decide))) (x_refuse P (by unfold isW; decide)) ?_
        rintro _ _ ⟨rfl, hi9, rfl, P9⟩
        show lm_wp _ 108 30 [.ref 64, .int s, .int t, .int m, lm_jk, lm_jk, lm_jk] [.int (-2)] (hi9, hl, X) _
        refine w_ri rfl rfl ?_
        exact cq_ P9 (by omega) hC
theorem y_days_b {d : Nat} {hi : Nat → Nat → Int32} {hl : Nat → Nat → Int64} {X : lm_X} {hi0 : Nat → Nat → Int32} {hl0 : Nat → Nat → Int64} {X0 : lm_X} {n ts : Nat} {T : lm_T} {R : Nat → Int32} {KO : ab_K} {V : ab_V} {tl F : Nat → Int32} (P : mP hi0 hl0 X0 hi hl X T n R KO V ts tl F) {s t m : Int32}  (hb : (wi s 0 7 && wi t 0 7 && wi m 1 20) = false) : lm_w (d + 30) 191 [.ref 123, .int s, .int t, .int m] (hi, hl, X) (mQ hi0 hl0 X0 (.int (-2)) T n R KO V ts tl (rfU F (-2))) := by
  obtain ⟨SR, O, H, HR, HV, HT, HF, HK, E0, EL0, EX0⟩ := id P
  have S := SR.1
  refine lm_w_in (Nat.le_of_ble_eq_true rfl) ?_
  show lm_wp (d + 30) 191 0 [.ref 123, .int s, .int t, .int m, lm_jk] [] (hi, hl, X) _
  refine w_N 4 6 [.ref 123, .int s, .int t, .int m, lm_jk] [.long 7, .long 0, .long s.toInt64] rfl ?_
  refine w_cc rfl (m_in (x := s) (lo := 0) (up := 7) rfl (by decide) (by decide)) ?_
  show lm_wp _ 191 9 [.ref 123, .int s, .int t, .int m, lm_jk] [.int (bz (wi s 0 7))] (hi, hl, X) _
  refine w_zeq (t := 36) rfl rfl (fun c1 => ?_) (fun c1 => ?_)
  · refine w_N 2 39 [.ref 123, .int s, .int t, .int m, lm_jk] [.int (-2), .ref 123] rfl ?_
    refine w_ca (w_vst rfl rfl rfl (Nat.le_of_ble_eq_true rfl) (Nat.le_of_ble_eq_true rfl) (M_kd S)) (m_refuse P (by unfold isW; decide)) ?_
    rintro _ _ ⟨rfl, hi9, rfl, P9⟩
    show lm_wp _ 191 42 [.ref 123, .int s, .int t, .int m, lm_jk] [.int (-2)] (hi9, hl, X) _
    refine w_ri rfl rfl ?_
    exact mq_ P9
  · refine w_N 4 18 [.ref 123, .int s, .int t, .int m, lm_jk] [.long 7, .long 0, .long t.toInt64] rfl ?_
    refine w_cc rfl (m_in (x := t) (lo := 0) (up := 7) rfl (by decide) (by decide)) ?_
    show lm_wp _ 191 21 [.ref 123, .int s, .int t, .int m, lm_jk] [.int (bz (wi t 0 7))] (hi, hl, X) _
    refine w_zeq (t := 36) rfl rfl (fun c2 => ?_) (fun c2 => ?_)
    · refine w_N 2 39 [.ref 123, .int s, .int t, .int m, lm_jk] [.int (-2), .ref 123] rfl ?_
      refine w_ca (w_vst rfl rfl rfl (Nat.le_of_ble_eq_true rfl) (Nat.le_of_ble_eq_true rfl) (M_kd S)) (m_refuse P (by unfold isW; decide)) ?_
      rintro _ _ ⟨rfl, hi9, rfl, P9⟩
      show lm_wp _ 191 42 [.ref 123, .int s, .int t, .int m, lm_jk] [.int (-2)] (hi9, hl, X) _
      refine w_ri rfl rfl ?_
      exact mq_ P9
    · refine w_N 4 30 [.ref 123, .int s, .int t, .int m, lm_jk] [.long 20, .long 1, .long m.toInt64] rfl ?_
      refine w_cc rfl (m_in (x := m) (lo := 1) (up := 20) rfl (by decide) (by decide)) ?_
      show lm_wp _ 191 33 [.ref 123, .int s, .int t, .int m, lm_jk] [.int (bz (wi m 1 20))] (hi, hl, X) _
      refine w_zne (t := 43) rfl rfl (fun c3 => ?_) (fun c3 => ?_)
      · exact absurd hb (by simp [c1, c2, c3])
      · refine w_N 2 39 [.ref 123, .int s, .int t, .int m, lm_jk] [.int (-2), .ref 123] rfl ?_
        refine w_ca (w_vst rfl rfl rfl (Nat.le_of_ble_eq_true rfl) (Nat.le_of_ble_eq_true rfl) (M_kd S)) (m_refuse P (by unfold isW; decide)) ?_
        rintro _ _ ⟨rfl, hi9, rfl, P9⟩
        show lm_wp _ 191 42 [.ref 123, .int s, .int t, .int m, lm_jk] [.int (-2)] (hi9, hl, X) _
        refine w_ri rfl rfl ?_
        exact mq_ P9
theorem x_days_l {d : Nat} {hi : Nat → Nat → Int32} {hl : Nat → Nat → Int64} {X : lm_X} {hi0 : Nat → Nat → Int32} {hl0 : Nat → Nat → Int64} {C n ts : Nat} {T : lm_T} {R : Nat → Int32} {KO : ab_K} {V : ab_V} {tl F : Nat → Int32} (P : cP hi0 hl0 hi hl X C T n R KO V ts tl F) {j k N : Nat} (hj : j < 8) (hk : k < 8) (hN1 : 1 ≤ N) (hN20 : N ≤ 20) (h0 : ¬ lkR (V j).1 (V k).1 = 0) (hC : C + 25 < 2147483648) : lm_w (d + 30) 108 [.ref 64, .int (nI j), .int (nI k), .int (nI N)] (hi, hl, X) (cQ hi0 hl0 X (C + 25) (.int (lkR (V j).1 (V k).1)) T n R KO V ts tl (rfU F (lkR (V j).1 (V k).1))) := by
  obtain ⟨S, O, H, HR, FO, HV, HT, HF, HK, E0, EL0⟩ := id P
  refine lm_w_in (Nat.le_of_ble_eq_true rfl) ?_
  show lm_wp (d + 30) 108 0 [.ref 64, .int (nI j), .int (nI k), .int (nI N), lm_jk, lm_jk, lm_jk] [] (hi, hl, X) _
  refine w_N 1 1 [.ref 64, .int (nI j), .int (nI k), .int (nI N), lm_jk, lm_jk, lm_jk] [.int (nI j)] rfl ?_
  refine w_cc rfl (x_isShelf1 (wi_t (n := 7) (Nat.le_of_lt_succ hj) (by decide))) ?_
  show lm_wp _ 108 4 [.ref 64, .int (nI j), .int (nI k), .int (nI N), lm_jk, lm_jk, lm_jk] [.int 1] (hi, hl, X) _
  refine w_if_eq_f (t := 24) rfl rfl (by decide) ?_
  refine w_N 1 8 [.ref 64, .int (nI j), .int (nI k), .int (nI N), lm_jk, lm_jk, lm_jk] [.int (nI k)] rfl ?_
  refine w_cc rfl (x_isShelf1 (wi_t (n := 7) (Nat.le_of_lt_succ hk) (by decide))) ?_
  show lm_wp _ 108 11 [.ref 64, .int (nI j), .int (nI k), .int (nI N), lm_jk, lm_jk, lm_jk] [.int 1] (hi, hl, X) _
  refine w_if_eq_f (t := 24) rfl rfl (by decide) ?_
  refine w_N 3 18 [.ref 64, .int (nI j), .int (nI k), .int (nI N), lm_jk, lm_jk, lm_jk] [.int 20, .int 1, .int (nI N)] rfl ?_
  refine w_cc rfl (x_within1 (wi_t1 (n := 20) hN1 hN20 (by decide))) ?_
  show lm_wp _ 108 21 [.ref 64, .int (nI j), .int (nI k), .int (nI N), lm_jk, lm_jk, lm_jk] [.int 1] (hi, hl, X) _
  refine w_if_ne_t (t := 31) rfl rfl (by decide) ?_
  refine w_N 3 34 [.ref 64, .int (nI j), .int (nI k), .int (nI N), lm_jk, lm_jk, lm_jk] [.int (nI k), .int (nI j), .ref 64] rfl ?_
  refine w_cc (w_vst rfl rfl rfl (Nat.le_of_ble_eq_true rfl) (Nat.le_of_ble_eq_true rfl) (A_k S 64 (by decide))) (x_lackRules P hj hk) ?_
  show lm_wp _ 108 37 [.ref 64, .int (nI j), .int (nI k), .int (nI N), lm_jk, lm_jk, lm_jk] [.int (lkR (V j).1 (V k).1)] (hi, hl, X) _
  refine w_N 2 41 [.ref 64, .int (nI j), .int (nI k), .int (nI N), .int (lkR (V j).1 (V k).1), lm_jk, lm_jk] [.int (lkR (V j).1 (V k).1)] rfl ?_
  refine w_if_eq_f (t := 51) rfl rfl h0 ?_
  refine w_N 2 47 [.ref 64, .int (nI j), .int (nI k), .int (nI N), .int (lkR (V j).1 (V k).1), lm_jk, lm_jk] [.int (lkR (V j).1 (V k).1), .ref 64] rfl ?_
  refine w_ca (w_vst rfl rfl rfl (Nat.le_of_ble_eq_true rfl) (Nat.le_of_ble_eq_true rfl) (A_k S 64 (by decide))) (x_refuse P (lkR_W h0)) ?_
  rintro _ _ ⟨rfl, hi9, rfl, P9⟩
  show lm_wp _ 108 50 [.ref 64, .int (nI j), .int (nI k), .int (nI N), .int (lkR (V j).1 (V k).1), lm_jk, lm_jk] [.int (lkR (V j).1 (V k).1)] (hi9, hl, X) _
  refine w_ri rfl rfl ?_
  exact cq_ P9 (by omega) hC
theorem y_days_l {d : Nat} {hi : Nat → Nat → Int32} {hl : Nat → Nat → Int64} {X : lm_X} {hi0 : Nat → Nat → Int32} {hl0 : Nat → Nat → Int64} {X0 : lm_X} {n ts : Nat} {T : lm_T} {R : Nat → Int32} {KO : ab_K} {V : ab_V} {tl F : Nat → Int32} (P : mP hi0 hl0 X0 hi hl X T n R KO V ts tl F) {j k N : Nat} (hj : j < 8) (hk : k < 8) (hN1 : 1 ≤ N) (hN20 : N ≤ 20) (h0 : ¬ lkR (V j).1 (V k).1 = 0) : lm_w (d + 30) 191 [.ref 123, .int (nI j), .int (nI k), .int (nI N)] (hi, hl, X) (mQ hi0 hl0 X0 (.int (lkR (V j).1 (V k).1)) T n R KO V ts tl (rfU F (lkR (V j).1 (V k).1))) := by
  obtain ⟨SR, O, H, HR, HV, HT, HF, HK, E0, EL0, EX0⟩ := id P
  have S := SR.1
  refine lm_w_in (Nat.le_of_ble_eq_true rfl) ?_
  show lm_wp (d + 30) 191 0 [.ref 123, .int (nI j), .int (nI k), .int (nI N), lm_jk] [] (hi, hl, X) _
  refine w_N 4 6 [.ref 123, .int (nI j), .int (nI k), .int (nI N), lm_jk] [.long 7, .long 0, .long ((nI j).toInt64)] rfl ?_
  refine w_cc rfl (lm_c_1 (m_in (x := nI j) (lo := 0) (up := 7) rfl (by decide) (by decide)) (wi_t (n := 7) (Nat.le_of_lt_succ hj) (by decide))) ?_
  show lm_wp _ 191 9 [.ref 123, .int (nI j), .int (nI k), .int (nI N), lm_jk] [.int 1] (hi, hl, X) _
  refine w_if_eq_f (t := 36) rfl rfl (by decide) ?_
  refine w_N 4 18 [.ref 123, .int (nI j), .int (nI k), .int (nI N), lm_jk] [.long 7, .long 0, .long ((nI k).toInt64)] rfl ?_
  refine w_cc rfl (lm_c_1 (m_in (x := nI k) (lo := 0) (up := 7) rfl (by decide) (by decide)) (wi_t (n := 7) (Nat.le_of_lt_succ hk) (by decide))) ?_
  show lm_wp _ 191 21 [.ref 123, .int (nI j), .int (nI k), .int (nI N), lm_jk] [.int 1] (hi, hl, X) _
  refine w_if_eq_f (t := 36) rfl rfl (by decide) ?_
  refine w_N 4 30 [.ref 123, .int (nI j), .int (nI k), .int (nI N), lm_jk] [.long 20, .long 1, .long ((nI N).toInt64)] rfl ?_
  refine w_cc rfl (lm_c_1 (m_in (x := nI N) (lo := 1) (up := 20) rfl (by decide) (by decide)) (wi_t1 (n := 20) hN1 hN20 (by decide))) ?_
  show lm_wp _ 191 33 [.ref 123, .int (nI j), .int (nI k), .int (nI N), lm_jk] [.int 1] (hi, hl, X) _
  refine w_if_ne_t (t := 43) rfl rfl (by decide) ?_
  refine w_N 3 46 [.ref 123, .int (nI j), .int (nI k), .int (nI N), lm_jk] [.int (nI k), .int (nI j), .ref 123] rfl ?_
  refine w_ca (w_vst rfl rfl rfl (Nat.le_of_ble_eq_true rfl) (Nat.le_of_ble_eq_true rfl) (M_kd S)) (m_noRules_1 P hj hk h0) ?_
  rintro _ _ ⟨rfl, hi9, rfl, P9⟩
  show lm_wp _ 191 49 [.ref 123, .int (nI j), .int (nI k), .int (nI N), lm_jk] [.int (lkR (V j).1 (V k).1)] (hi9, hl, X) _
  refine w_N 2 53 [.ref 123, .int (nI j), .int (nI k), .int (nI N), .int (lkR (V j).1 (V k).1)] [.int (lkR (V j).1 (V k).1)] rfl ?_
  refine w_if_eq_f (t := 59) rfl rfl h0 ?_
  refine w_N 1 58 [.ref 123, .int (nI j), .int (nI k), .int (nI N), .int (lkR (V j).1 (V k).1)] [.int (lkR (V j).1 (V k).1)] rfl ?_
  refine w_ri rfl rfl ?_
  exact mq_ P9
theorem x_days {d : Nat} {hi : Nat → Nat → Int32} {hl : Nat → Nat → Int64} {X : lm_X} {hi0 : Nat → Nat → Int32} {hl0 : Nat → Nat → Int64} {C n ts : Nat} {T : lm_T} {R : Nat → Int32} {KO : ab_K} {V : ab_V} {tl F : Nat → Int32} (P : cP hi0 hl0 hi hl X C T n R KO V ts tl F) {B D : Nat} (Z : okZ B D T n R KO V ts tl) {j k N : Nat} {K A : Nat → Nat} (hj : j < 8) (hk : k < 8) (hN1 : 1 ≤ N) (hN20 : N ≤ 20) (hK : ∀ h, h < 2 → 1 ≤ K h ∧ K h ≤ 6 ∧ A h ≤ 99) (e0 : (V j).1 = nI (10 + K 0)) (a0 : (V j).2.2.1 = A 0) (e1 : (V k).1 = nI (10 + K 1)) (a1 : (V k).2.2.1 = A 1) (hC : C + 25 < 2147483648) : lm_w (d + 30) 108 [.ref 64, .int (nI j), .int (nI k), .int (nI N)] (hi, hl, X) (cQ hi0 hl0 X (C + 25) (.int (rnR T n K A R N 12)) T n (rnR T n K A R N) KO V ts tl F) := by
  obtain ⟨S, O, H, HR, FO, HV, HT, HF, HK, E0, EL0⟩ := id P
  obtain ⟨hT, hO, hV, hts, htl, hDB, hB0, hKO⟩ := id Z
  have h0 : lkR (V j).1 (V k).1 = 0 := lkR_0.mpr ⟨rk_u (hK 0 (by decide)).1 (hK 0 (by decide)).2.1 e0, rk_u (hK 1 (by decide)).1 (hK 1 (by decide)).2.1 e1⟩
  refine lm_w_in (Nat.le_of_ble_eq_true rfl) ?_
  show lm_wp (d + 30) 108 0 [.ref 64, .int (nI j), .int (nI k), .int (nI N), lm_jk, lm_jk, lm_jk] [] (hi, hl, X) _
  refine w_N 1 1 [.ref 64, .int (nI j), .int (nI k), .int (nI N), lm_jk, lm_jk, lm_jk] [.int (nI j)] rfl ?_
  refine w_cc rfl (x_isShelf1 (wi_t (n := 7) (Nat.le_of_lt_succ hj) (by decide))) ?_
  show lm_wp _ 108 4 [.ref 64, .int (nI j), .int (nI k), .int (nI N), lm_jk, lm_jk, lm_jk] [.int 1] (hi, hl, X) _
  refine w_if_eq_f (t := 24) rfl rfl (by decide) ?_
  refine w_N 1 8 [.ref 64, .int (nI j), .int (nI k), .int (nI N), lm_jk, lm_jk, lm_jk] [.int (nI k)] rfl ?_
  refine w_cc rfl (x_isShelf1 (wi_t (n := 7) (Nat.le_of_lt_succ hk) (by decide))) ?_
  show lm_wp _ 108 11 [.ref 64, .int (nI j), .int (nI k), .int (nI N), lm_jk, lm_jk, lm_jk] [.int 1] (hi, hl, X) _
  refine w_if_eq_f (t := 24) rfl rfl (by decide) ?_
  refine w_N 3 18 [.ref 64, .int (nI j), .int (nI k), .int (nI N), lm_jk, lm_jk, lm_jk] [.int 20, .int 1, .int (nI N)] rfl ?_
  refine w_cc rfl (x_within1 (wi_t1 (n := 20) hN1 hN20 (by decide))) ?_
  show lm_wp _ 108 21 [.ref 64, .int (nI j), .int (nI k), .int (nI N), lm_jk, lm_jk, lm_jk] [.int 1] (hi, hl, X) _
  refine w_if_ne_t (t := 31) rfl rfl (by decide) ?_
  refine w_N 3 34 [.ref 64, .int (nI j), .int (nI k), .int (nI N), lm_jk, lm_jk, lm_jk] [.int (nI k), .int (nI j), .ref 64] rfl ?_
  refine w_cc (w_vst rfl rfl rfl (Nat.le_of_ble_eq_true rfl) (Nat.le_of_ble_eq_true rfl) (A_k S 64 (by decide))) (lm_c_v (x_lackRules P hj hk) h0) ?_
  show lm_wp _ 108 37 [.ref 64, .int (nI j), .int (nI k), .int (nI N), lm_jk, lm_jk, lm_jk] [.int 0] (hi, hl, X) _
  refine w_N 2 41 [.ref 64, .int (nI j), .int (nI k), .int (nI N), .int 0, lm_jk, lm_jk] [.int 0] rfl ?_
  refine w_if_eq_t (t := 51) rfl rfl (by decide) ?_
  refine w_N 2 54 [.ref 64, .int (nI j), .int (nI k), .int (nI N), .int 0, .int 0, lm_jk] [] rfl ?_
  refine x_days1 (hi := hi) (R := R) Z hj hk (show N ≤ 60 by omega) hK e0 a0 e1 a1 (fun c1 h5x x6 P => ?_) N 0 _ _ _ (by omega) rfl P
  obtain ⟨S, O, H, HR, FO, HV, HT, HF, HK, E0, EL0⟩ := id P
  refine w_N 1 120 _ [.ref 64] rfl ?_
  refine w_gr 65 rfl rfl rfl (A_k S 64 (by decide)) (A_r S 64 0 (by decide)) ?_
  refine w_gi (v := rnR T n K A R N 12) rfl rfl rfl (T_kd (A_T65 S)) (HR.2.2.1) ?_
  refine w_ri rfl rfl ?_
  exact cq_ P (by omega) hC
theorem y_days {d : Nat} {hi : Nat → Nat → Int32} {hl : Nat → Nat → Int64} {X : lm_X} {hi0 : Nat → Nat → Int32} {hl0 : Nat → Nat → Int64} {X0 : lm_X} {n ts : Nat} {T : lm_T} {R : Nat → Int32} {KO : ab_K} {V : ab_V} {tl F : Nat → Int32} (P : mP hi0 hl0 X0 hi hl X T n R KO V ts tl F) {B D : Nat} (Z : okZ B D T n R KO V ts tl) {j k N : Nat} {K A : Nat → Nat} (hj : j < 8) (hk : k < 8) (hN1 : 1 ≤ N) (hN20 : N ≤ 20) (hK : ∀ h, h < 2 → 1 ≤ K h ∧ K h ≤ 6 ∧ A h ≤ 99) (e0 : (V j).1 = nI (10 + K 0)) (a0 : (V j).2.2.1 = A 0) (e1 : (V k).1 = nI (10 + K 1)) (a1 : (V k).2.2.1 = A 1) : lm_w (d + 30) 191 [.ref 123, .int (nI j), .int (nI k), .int (nI N)] (hi, hl, X) (mQ hi0 hl0 X0 (.int (rnR T n K A R N 12)) T n (rnR T n K A R N) KO V ts tl F) := by
  obtain ⟨SR, O, H, HR, HV, HT, HF, HK, E0, EL0, EX0⟩ := id P
  have S := SR.1
  obtain ⟨hT, hO, hV, hts, htl, hDB, hB0, hKO⟩ := id Z
  have h0 : lkR (V j).1 (V k).1 = 0 := lkR_0.mpr ⟨rk_u (hK 0 (by decide)).1 (hK 0 (by decide)).2.1 e0, rk_u (hK 1 (by decide)).1 (hK 1 (by decide)).2.1 e1⟩
  refine lm_w_in (Nat.le_of_ble_eq_true rfl) ?_
  show lm_wp (d + 30) 191 0 [.ref 123, .int (nI j), .int (nI k), .int (nI N), lm_jk] [] (hi, hl, X) _
  refine w_N 4 6 [.ref 123, .int (nI j), .int (nI k), .int (nI N), lm_jk] [.long 7, .long 0, .long ((nI j).toInt64)] rfl ?_
  refine w_cc rfl (lm_c_1 (m_in (x := nI j) (lo := 0) (up := 7) rfl (by decide) (by decide)) (wi_t (n := 7) (Nat.le_of_lt_succ hj) (by decide))) ?_
  show lm_wp _ 191 9 [.ref 123, .int (nI j), .int (nI k), .int (nI N), lm_jk] [.int 1] (hi, hl, X) _
  refine w_if_eq_f (t := 36) rfl rfl (by decide) ?_
  refine w_N 4 18 [.ref 123, .int (nI j), .int (nI k), .int (nI N), lm_jk] [.long 7, .long 0, .long ((nI k).toInt64)] rfl ?_
  refine w_cc rfl (lm_c_1 (m_in (x := nI k) (lo := 0) (up := 7) rfl (by decide) (by decide)) (wi_t (n := 7) (Nat.le_of_lt_succ hk) (by decide))) ?_
  show lm_wp _ 191 21 [.ref 123, .int (nI j), .int (nI k), .int (nI N), lm_jk] [.int 1] (hi, hl, X) _
  refine w_if_eq_f (t := 36) rfl rfl (by decide) ?_
  refine w_N 4 30 [.ref 123, .int (nI j), .int (nI k), .int (nI N), lm_jk] [.long 20, .long 1, .long ((nI N).toInt64)] rfl ?_
  refine w_cc rfl (lm_c_1 (m_in (x := nI N) (lo := 1) (up := 20) rfl (by decide) (by decide)) (wi_t1 (n := 20) hN1 hN20 (by decide))) ?_
  show lm_wp _ 191 33 [.ref 123, .int (nI j), .int (nI k), .int (nI N), lm_jk] [.int 1] (hi, hl, X) _
  refine w_if_ne_t (t := 43) rfl rfl (by decide) ?_
  refine w_N 3 46 [.ref 123, .int (nI j), .int (nI k), .int (nI N), lm_jk] [.int (nI k), .int (nI j), .ref 123] rfl ?_
  refine w_cc (w_vst rfl rfl rfl (Nat.le_of_ble_eq_true rfl) (Nat.le_of_ble_eq_true rfl) (M_kd S)) (m_noRules_0 P hj hk h0) ?_
  show lm_wp _ 191 49 [.ref 123, .int (nI j), .int (nI k), .int (nI N), lm_jk] [.int 0] (hi, hl, X) _
  refine w_N 2 53 [.ref 123, .int (nI j), .int (nI k), .int (nI N), .int 0] [.int 0] rfl ?_
  refine w_if_eq_t (t := 59) rfl rfl (by decide) ?_
  refine w_N 2 61 [.ref 123, .int (nI j), .int (nI k), .int (nI N), .int 0] [.ref 123, .ref 123] rfl ?_
  refine w_gr 137 rfl rfl rfl (M_kd S) (M_r S (k := 5) (o := 14) rfl) ?_
  refine w_N 1 65 [.ref 123, .int (nI j), .int (nI k), .int (nI N), .int 0] [.int (nI j), .ref 137, .ref 123] rfl ?_
  refine w_ia j (v := nI (K 0)) rfl (show X.2.1 (137) = 1 from M_k S 14 (by decide)) (show X.2.2.1 (137) = 8 from M_l S 14 (by decide)) rfl hj (by decide) (((HV j hj).2.2.2.1 (rk_u (hK 0 (by decide)).1 (hK 0 (by decide)).2.1 e0)).trans (rk_e e0)) ?_
  refine w_N 1 67 [.ref 123, .int (nI j), .int (nI k), .int (nI N), .int 0] [.ref 123, .int (nI (K 0)), .ref 123] rfl ?_
  refine w_gr 138 rfl rfl rfl (M_kd S) (M_r S (k := 6) (o := 15) rfl) ?_
  refine w_N 1 71 [.ref 123, .int (nI j), .int (nI k), .int (nI N), .int 0] [.int (nI j), .ref 138, .int (nI (K 0)), .ref 123] rfl ?_
  refine w_ia j (v := nI (A 0)) rfl (show X.2.1 (138) = 1 from M_k S 15 (by decide)) (show X.2.2.1 (138) = 8 from M_l S 15 (by decide)) rfl hj (by decide) ((HV j hj).2.2.2.2.1.trans (congrArg nI a0)) ?_
  refine w_N 1 73 [.ref 123, .int (nI j), .int (nI k), .int (nI N), .int 0] [.ref 123, .int (nI (A 0)), .int (nI (K 0)), .ref 123] rfl ?_
  refine w_gr 137 rfl rfl rfl (M_kd S) (M_r S (k := 5) (o := 14) rfl) ?_
  refine w_N 1 77 [.ref 123, .int (nI j), .int (nI k), .int (nI N), .int 0] [.int (nI k), .ref 137, .int (nI (A 0)), .int (nI (K 0)), .ref 123] rfl ?_
  refine w_ia k (v := nI (K 1)) rfl (show X.2.1 (137) = 1 from M_k S 14 (by decide)) (show X.2.2.1 (137) = 8 from M_l S 14 (by decide)) rfl hk (by decide) (((HV k hk).2.2.2.1 (rk_u (hK 1 (by decide)).1 (hK 1 (by decide)).2.1 e1)).trans (rk_e e1)) ?_
  refine w_N 1 79 [.ref 123, .int (nI j), .int (nI k), .int (nI N), .int 0] [.ref 123, .int (nI (K 1)), .int (nI (A 0)), .int (nI (K 0)), .ref 123] rfl ?_
  refine w_gr 138 rfl rfl rfl (M_kd S) (M_r S (k := 6) (o := 15) rfl) ?_
  refine w_N 1 83 [.ref 123, .int (nI j), .int (nI k), .int (nI N), .int 0] [.int (nI k), .ref 138, .int (nI (K 1)), .int (nI (A 0)), .int (nI (K 0)), .ref 123] rfl ?_
  refine w_ia k (v := nI (A 1)) rfl (show X.2.1 (138) = 1 from M_k S 15 (by decide)) (show X.2.2.1 (138) = 8 from M_l S 15 (by decide)) rfl hk (by decide) ((HV k hk).2.2.2.2.1.trans (congrArg nI a1)) ?_
  refine w_N 1 85 [.ref 123, .int (nI j), .int (nI k), .int (nI N), .int 0] [.int (nI N), .int (nI (A 1)), .int (nI (K 1)), .int (nI (A 0)), .int (nI (K 0)), .ref 123] rfl ?_
  refine w_ca (w_vst rfl rfl rfl (Nat.le_of_ble_eq_true rfl) (Nat.le_of_ble_eq_true rfl) (M_kd S)) (m_runs (d := d + 21) (K := K) (A := A) S hT hO (by omega) (by omega) hK H HR) ?_
  rintro _ _ ⟨h5x, rfl, rfl, H5, R5, Q5, B5, L5⟩
  have P := mP_town P Q5 H5 R5
  obtain ⟨SR, O, H, HR, HV, HT, HF, HK, E0, EL0, EX0⟩ := id P
  have S := SR.1
  show lm_wp _ 191 88 [.ref 123, .int (nI j), .int (nI k), .int (nI N), .int 0] [] (h5x, hl, X) _
  refine w_N 1 89 [.ref 123, .int (nI j), .int (nI k), .int (nI N), .int 0] [.ref 123] rfl ?_
  refine w_gi (v := rnR T n K A R N 12) rfl rfl rfl (M_kd S) (HR.2.2.1) ?_
  refine w_ri rfl rfl ?_
  exact mq_ P
theorem st_days {B D : Nat} {n ts : Nat} {T : lm_T} {R : Nat → Int32} {KO : ab_K} {V : ab_V} {tl F : Nat → Int32} {s t m : Int32} (Z : okZ B D T n R KO V ts tl) (hB : B + 20 < 2000000) : STEP B 108 191 [.int s, .int t, .int m] T n R KO V ts tl F := by
  obtain ⟨hT, hO, hV, hts, htl, hDB, hB0, hKO⟩ := id Z
  by_cases hb : (wi s 0 7 && wi t 0 7 && wi m 1 20) = false
  · exact ⟨_, D, _, _, _, _, _, _, _, _, okZ_up Z hB, fun _ _ _ _ _ _ P hC => x_days_b (d := 10) P hb hC, fun _ _ _ _ _ _ P => y_days_b (d := 10) P hb⟩
  · obtain ⟨h1, h2, h3⟩ := and3_t hb
    obtain ⟨j, rfl, hj⟩ := wi_e (n := 7) h1 (by decide)
    obtain ⟨k, rfl, hk⟩ := wi_e (n := 7) h2 (by decide)
    obtain ⟨N, rfl, hN1, hN20⟩ := wi_e1 (n := 20) h3 (by decide)
    by_cases h0 : lkR (V j).1 (V k).1 = 0
    · obtain ⟨x, x1, x6, ex⟩ := (okC_rule (hV j (by omega)).1).mp (lkR_0.mp h0).1
      obtain ⟨y, y1, y6, ey⟩ := (okC_rule (hV k (by omega)).1).mp (lkR_0.mp h0).2
      have hK := k2_ok (a := x) (b := y) (x := (V j).2.2.1) (y := (V k).2.2.1) ⟨x1, x6, (hV j (by omega)).2.2⟩ ⟨y1, y6, (hV k (by omega)).2.2⟩
      by_cases hn : n ≤ 10
      · exact ⟨_, D + N, _, _, _, _, _, _, _, _, okZ_D Z hB (by omega) (okR_rn (K := k2 x y) (A := k2 (V j).2.2.1 (V k).2.2.1) hT hn hO N), fun _ _ _ _ _ _ P hC => x_days (d := 10) P Z (by omega) (by omega) hN1 hN20 hK ex rfl ey rfl hC, fun _ _ _ _ _ _ P => y_days (d := 10) P Z (by omega) (by omega) hN1 hN20 hK ex rfl ey rfl⟩
      · exact ⟨0, D, T, n, R, KO, V, ts, tl, F, okZ_up Z hB, fun _ _ _ _ _ _ P hC => absurd (isTle P.2.2.1) (by omega), fun _ _ _ _ _ _ P => absurd (rTle P.2.2.1) (by omega)⟩
    · exact ⟨_, D, _, _, _, _, _, _, _, _, okZ_up Z hB, fun _ _ _ _ _ _ P hC => x_days_l (d := 10) P (by omega) (by omega) hN1 hN20 h0 hC, fun _ _ _ _ _ _ P => y_days_l (d := 10) P (by omega) (by omega) hN1 hN20 h0⟩
theorem x_run_b {d : Nat} {hi : Nat → Nat → Int32} {hl : Nat → Nat → Int64} {X : lm_X} {hi0 : Nat → Nat → Int32} {hl0 : Nat → Nat → Int64} {C n ts : Nat} {T : lm_T} {R : Nat → Int32} {KO : ab_K} {V : ab_V} {tl F : Nat → Int32} (P : cP hi0 hl0 hi hl X C T n R KO V ts tl F) {s t m w : Int32}  (hb : (wi s 0 7 && wi t 0 7 && wi m 0 60 && wi w 0 4) = false) (hC : C + 25 < 2147483648) : lm_w (d + 30) 106 [.ref 64, .int s, .int t, .int m, .int w] (hi, hl, X) (cQ hi0 hl0 X (C + 25) (.int (-1000002)) T n R KO V ts tl (rfU F (-2))) := by
  obtain ⟨S, O, H, HR, FO, HV, HT, HF, HK, E0, EL0⟩ := id P
  refine lm_w_in (Nat.le_of_ble_eq_true rfl) ?_
  show lm_wp (d + 30) 106 0 [.ref 64, .int s, .int t, .int m, .int w, lm_jk, lm_jk] [] (hi, hl, X) _
  refine w_N 1 1 [.ref 64, .int s, .int t, .int m, .int w, lm_jk, lm_jk] [.int s] rfl ?_
  refine w_cc rfl x_isShelf ?_
  show lm_wp _ 106 4 [.ref 64, .int s, .int t, .int m, .int w, lm_jk, lm_jk] [.int (bz (wi s 0 7))] (hi, hl, X) _
  refine w_zeq (t := 34) rfl rfl (fun c1 => ?_) (fun c1 => ?_)
  · refine w_N 2 37 [.ref 64, .int s, .int t, .int m, .int w, lm_jk, lm_jk] [.int (-2), .ref 64] rfl ?_
    refine w_ca (w_vst rfl rfl rfl (Nat.le_of_ble_eq_true rfl) (Nat.le_of_ble_eq_true rfl) (A_k S 64 (by decide))) (x_refuseGain P (by unfold isW; decide)) ?_
    rintro _ _ ⟨rfl, hi9, rfl, P9⟩
    show lm_wp _ 106 40 [.ref 64, .int s, .int t, .int m, .int w, lm_jk, lm_jk] [.int (-1000002)] (hi9, hl, X) _
    refine w_ri rfl rfl ?_
    exact cq_ P9 (by omega) hC
  · refine w_N 1 8 [.ref 64, .int s, .int t, .int m, .int w, lm_jk, lm_jk] [.int t] rfl ?_
    refine w_cc rfl x_isShelf ?_
    show lm_wp _ 106 11 [.ref 64, .int s, .int t, .int m, .int w, lm_jk, lm_jk] [.int (bz (wi t 0 7))] (hi, hl, X) _
    refine w_zeq (t := 34) rfl rfl (fun c2 => ?_) (fun c2 => ?_)
    · refine w_N 2 37 [.ref 64, .int s, .int t, .int m, .int w, lm_jk, lm_jk] [.int (-2), .ref 64] rfl ?_
      refine w_ca (w_vst rfl rfl rfl (Nat.le_of_ble_eq_true rfl) (Nat.le_of_ble_eq_true rfl) (A_k S 64 (by decide))) (x_refuseGain P (by unfold isW; decide)) ?_
      rintro _ _ ⟨rfl, hi9, rfl, P9⟩
      show lm_wp _ 106 40 [.ref 64, .int s, .int t, .int m, .int w, lm_jk, lm_jk] [.int (-1000002)] (hi9, hl, X) _
      refine w_ri rfl rfl ?_
      exact cq_ P9 (by omega) hC
    · refine w_N 3 18 [.ref 64, .int s, .int t, .int m, .int w, lm_jk, lm_jk] [.int 60, .int 0, .int m] rfl ?_
      refine w_cc rfl x_within ?_
      show lm_wp _ 106 21 [.ref 64, .int s, .int t, .int m, .int w, lm_jk, lm_jk] [.int (bz (wi m 0 60))] (hi, hl, X) _
      refine w_zeq (t := 34) rfl rfl (fun c3 => ?_) (fun c3 => ?_)
      · refine w_N 2 37 [.ref 64, .int s, .int t, .int m, .int w, lm_jk, lm_jk] [.int (-2), .ref 64] rfl ?_
        refine w_ca (w_vst rfl rfl rfl (Nat.le_of_ble_eq_true rfl) (Nat.le_of_ble_eq_true rfl) (A_k S 64 (by decide))) (x_refuseGain P (by unfold isW; decide)) ?_
        rintro _ _ ⟨rfl, hi9, rfl, P9⟩
        show lm_wp _ 106 40 [.ref 64, .int s, .int t, .int m, .int w, lm_jk, lm_jk] [.int (-1000002)] (hi9, hl, X) _
        refine w_ri rfl rfl ?_
        exact cq_ P9 (by omega) hC
      · refine w_N 3 28 [.ref 64, .int s, .int t, .int m, .int w, lm_jk, lm_jk] [.int 4, .int 0, .int w] rfl ?_
        refine w_cc rfl x_within ?_
        show lm_wp _ 106 31 [.ref 64, .int s, .int t, .int m, .int w, lm_jk, lm_jk] [.int (bz (wi w 0 4))] (hi, hl, X) _
        refine w_zne (t := 41) rfl rfl (fun c4 => ?_) (fun c4 => ?_)
        · exact absurd hb (by simp [c1, c2, c3, c4])
        · refine w_N 2 37 [.ref 64, .int s, .int t, .int m, .int w, lm_jk, lm_jk] [.int (-2), .ref 64] rfl ?_
          refine w_ca (w_vst rfl rfl rfl (Nat.le_of_ble_eq_true rfl) (Nat.le_of_ble_eq_true rfl) (A_k S 64 (by decide))) (x_refuseGain P (by unfold isW; decide)) ?_
          rintro _ _ ⟨rfl, hi9, rfl, P9⟩
          show lm_wp _ 106 40 [.ref 64, .int s, .int t, .int m, .int w, lm_jk, lm_jk] [.int (-1000002)] (hi9, hl, X) _
          refine w_ri rfl rfl ?_
          exact cq_ P9 (by omega) hC
theorem y_run_b {d : Nat} {hi : Nat → Nat → Int32} {hl : Nat → Nat → Int64} {X : lm_X} {hi0 : Nat → Nat → Int32} {hl0 : Nat → Nat → Int64} {X0 : lm_X} {n ts : Nat} {T : lm_T} {R : Nat → Int32} {KO : ab_K} {V : ab_V} {tl F : Nat → Int32} (P : mP hi0 hl0 X0 hi hl X T n R KO V ts tl F) {s t m w : Int32}  (hb : (wi s 0 7 && wi t 0 7 && wi m 0 60 && wi w 0 4) = false) : lm_w (d + 30) 188 [.ref 123, .int s, .int t, .int m, .int w] (hi, hl, X) (mQ hi0 hl0 X0 (.int (-1000002)) T n R KO V ts tl (rfU F (-2))) := by
  obtain ⟨SR, O, H, HR, HV, HT, HF, HK, E0, EL0, EX0⟩ := id P
  have S := SR.1
  refine lm_w_in (Nat.le_of_ble_eq_true rfl) ?_
  show lm_wp (d + 30) 188 0 [.ref 123, .int s, .int t, .int m, .int w, lm_jk] [] (hi, hl, X) _
  refine w_N 4 6 [.ref 123, .int s, .int t, .int m, .int w, lm_jk] [.long 7, .long 0, .long s.toInt64] rfl ?_
  refine w_cc rfl (m_in (x := s) (lo := 0) (up := 7) rfl (by decide) (by decide)) ?_
  show lm_wp _ 188 9 [.ref 123, .int s, .int t, .int m, .int w, lm_jk] [.int (bz (wi s 0 7))] (hi, hl, X) _
  refine w_zeq (t := 49) rfl rfl (fun c1 => ?_) (fun c1 => ?_)
  · refine w_N 3 54 [.ref 123, .int s, .int t, .int m, .int w, lm_jk] [.int (-2), .ref 123, .int (-1000000)] rfl ?_
    refine w_ca (w_vst rfl rfl rfl (Nat.le_of_ble_eq_true rfl) (Nat.le_of_ble_eq_true rfl) (M_kd S)) (m_refuse P (by unfold isW; decide)) ?_
    rintro _ _ ⟨rfl, hi9, rfl, P9⟩
    show lm_wp _ 188 57 [.ref 123, .int s, .int t, .int m, .int w, lm_jk] [.int (-2), .int (-1000000)] (hi9, hl, X) _
    refine w_N 1 58 [.ref 123, .int s, .int t, .int m, .int w, lm_jk] [.int (-1000002)] rfl ?_
    refine w_ri rfl rfl ?_
    exact mq_ P9
  · refine w_N 4 18 [.ref 123, .int s, .int t, .int m, .int w, lm_jk] [.long 7, .long 0, .long t.toInt64] rfl ?_
    refine w_cc rfl (m_in (x := t) (lo := 0) (up := 7) rfl (by decide) (by decide)) ?_
    show lm_wp _ 188 21 [.ref 123, .int s, .int t, .int m, .int w, lm_jk] [.int (bz (wi t 0 7))] (hi, hl, X) _
    refine w_zeq (t := 49) rfl rfl (fun c2 => ?_) (fun c2 => ?_)
    · refine w_N 3 54 [.ref 123, .int s, .int t, .int m, .int w, lm_jk] [.int (-2), .ref 123, .int (-1000000)] rfl ?_
      refine w_ca (w_vst rfl rfl rfl (Nat.le_of_ble_eq_true rfl) (Nat.le_of_ble_eq_true rfl) (M_kd S)) (m_refuse P (by unfold isW; decide)) ?_
      rintro _ _ ⟨rfl, hi9, rfl, P9⟩
      show lm_wp _ 188 57 [.ref 123, .int s, .int t, .int m, .int w, lm_jk] [.int (-2), .int (-1000000)] (hi9, hl, X) _
      refine w_N 1 58 [.ref 123, .int s, .int t, .int m, .int w, lm_jk] [.int (-1000002)] rfl ?_
      refine w_ri rfl rfl ?_
      exact mq_ P9
    · refine w_N 4 30 [.ref 123, .int s, .int t, .int m, .int w, lm_jk] [.long 60, .long 0, .long m.toInt64] rfl ?_
      refine w_cc rfl (m_in (x := m) (lo := 0) (up := 60) rfl (by decide) (by decide)) ?_
      show lm_wp _ 188 33 [.ref 123, .int s, .int t, .int m, .int w, lm_jk] [.int (bz (wi m 0 60))] (hi, hl, X) _
      refine w_zeq (t := 49) rfl rfl (fun c3 => ?_) (fun c3 => ?_)
      · refine w_N 3 54 [.ref 123, .int s, .int t, .int m, .int w, lm_jk] [.int (-2), .ref 123, .int (-1000000)] rfl ?_
        refine w_ca (w_vst rfl rfl rfl (Nat.le_of_ble_eq_true rfl) (Nat.le_of_ble_eq_true rfl) (M_kd S)) (m_refuse P (by unfold isW; decide)) ?_
        rintro _ _ ⟨rfl, hi9, rfl, P9⟩
        show lm_wp _ 188 57 [.ref 123, .int s, .int t, .int m, .int w, lm_jk] [.int (-2), .int (-1000000)] (hi9, hl, X) _
        refine w_N 1 58 [.ref 123, .int s, .int t, .int m, .int w, lm_jk] [.int (-1000002)] rfl ?_
        refine w_ri rfl rfl ?_
        exact mq_ P9
      · refine w_N 4 43 [.ref 123, .int s, .int t, .int m, .int w, lm_jk] [.long 4, .long 0, .long w.toInt64] rfl ?_
        refine w_cc rfl (m_in (x := w) (lo := 0) (up := 4) rfl (by decide) (by decide)) ?_
        show lm_wp _ 188 46 [.ref 123, .int s, .int t, .int m, .int w, lm_jk] [.int (bz (wi w 0 4))] (hi, hl, X) _
        refine w_zne (t := 59) rfl rfl (fun c4 => ?_) (fun c4 => ?_)
        · exact absurd hb (by simp [c1, c2, c3, c4])
        · refine w_N 3 54 [.ref 123, .int s, .int t, .int m, .int w, lm_jk] [.int (-2), .ref 123, .int (-1000000)] rfl ?_
          refine w_ca (w_vst rfl rfl rfl (Nat.le_of_ble_eq_true rfl) (Nat.le_of_ble_eq_true rfl) (M_kd S)) (m_refuse P (by unfold isW; decide)) ?_
          rintro _ _ ⟨rfl, hi9, rfl, P9⟩
          show lm_wp _ 188 57 [.ref 123, .int s, .int t, .int m, .int w, lm_jk] [.int (-2), .int (-1000000)] (hi9, hl, X) _
          refine w_N 1 58 [.ref 123, .int s, .int t, .int m, .int w, lm_jk] [.int (-1000002)] rfl ?_
          refine w_ri rfl rfl ?_
          exact mq_ P9
theorem x_run_l {d : Nat} {hi : Nat → Nat → Int32} {hl : Nat → Nat → Int64} {X : lm_X} {hi0 : Nat → Nat → Int32} {hl0 : Nat → Nat → Int64} {C n ts : Nat} {T : lm_T} {R : Nat → Int32} {KO : ab_K} {V : ab_V} {tl F : Nat → Int32} (P : cP hi0 hl0 hi hl X C T n R KO V ts tl F) {j k N w : Nat} (hj : j < 8) (hk : k < 8) (hN : N ≤ 60) (hw : w ≤ 4) (h0 : ¬ lkR (V j).1 (V k).1 = 0) (hC : C + 25 < 2147483648) : lm_w (d + 30) 106 [.ref 64, .int (nI j), .int (nI k), .int (nI N), .int (nI w)] (hi, hl, X) (cQ hi0 hl0 X (C + 25) (.int (-1000000 + lkR (V j).1 (V k).1)) T n R KO V ts tl (rfU F (lkR (V j).1 (V k).1))) := by
  obtain ⟨S, O, H, HR, FO, HV, HT, HF, HK, E0, EL0⟩ := id P
  refine lm_w_in (Nat.le_of_ble_eq_true rfl) ?_
  show lm_wp (d + 30) 106 0 [.ref 64, .int (nI j), .int (nI k), .int (nI N), .int (nI w), lm_jk, lm_jk] [] (hi, hl, X) _
  refine w_N 1 1 [.ref 64, .int (nI j), .int (nI k), .int (nI N), .int (nI w), lm_jk, lm_jk] [.int (nI j)] rfl ?_
  refine w_cc rfl (x_isShelf1 (wi_t (n := 7) (Nat.le_of_lt_succ hj) (by decide))) ?_
  show lm_wp _ 106 4 [.ref 64, .int (nI j), .int (nI k), .int (nI N), .int (nI w), lm_jk, lm_jk] [.int 1] (hi, hl, X) _
  refine w_if_eq_f (t := 34) rfl rfl (by decide) ?_
  refine w_N 1 8 [.ref 64, .int (nI j), .int (nI k), .int (nI N), .int (nI w), lm_jk, lm_jk] [.int (nI k)] rfl ?_
  refine w_cc rfl (x_isShelf1 (wi_t (n := 7) (Nat.le_of_lt_succ hk) (by decide))) ?_
  show lm_wp _ 106 11 [.ref 64, .int (nI j), .int (nI k), .int (nI N), .int (nI w), lm_jk, lm_jk] [.int 1] (hi, hl, X) _
  refine w_if_eq_f (t := 34) rfl rfl (by decide) ?_
  refine w_N 3 18 [.ref 64, .int (nI j), .int (nI k), .int (nI N), .int (nI w), lm_jk, lm_jk] [.int 60, .int 0, .int (nI N)] rfl ?_
  refine w_cc rfl (x_within1 (wi_t (n := 60) hN (by decide))) ?_
  show lm_wp _ 106 21 [.ref 64, .int (nI j), .int (nI k), .int (nI N), .int (nI w), lm_jk, lm_jk] [.int 1] (hi, hl, X) _
  refine w_if_eq_f (t := 34) rfl rfl (by decide) ?_
  refine w_N 3 28 [.ref 64, .int (nI j), .int (nI k), .int (nI N), .int (nI w), lm_jk, lm_jk] [.int 4, .int 0, .int (nI w)] rfl ?_
  refine w_cc rfl (x_within1 (wi_t (n := 4) hw (by decide))) ?_
  show lm_wp _ 106 31 [.ref 64, .int (nI j), .int (nI k), .int (nI N), .int (nI w), lm_jk, lm_jk] [.int 1] (hi, hl, X) _
  refine w_if_ne_t (t := 41) rfl rfl (by decide) ?_
  refine w_N 3 44 [.ref 64, .int (nI j), .int (nI k), .int (nI N), .int (nI w), lm_jk, lm_jk] [.int (nI k), .int (nI j), .ref 64] rfl ?_
  refine w_cc (w_vst rfl rfl rfl (Nat.le_of_ble_eq_true rfl) (Nat.le_of_ble_eq_true rfl) (A_k S 64 (by decide))) (x_lackRules P hj hk) ?_
  show lm_wp _ 106 47 [.ref 64, .int (nI j), .int (nI k), .int (nI N), .int (nI w), lm_jk, lm_jk] [.int (lkR (V j).1 (V k).1)] (hi, hl, X) _
  refine w_N 2 51 [.ref 64, .int (nI j), .int (nI k), .int (nI N), .int (nI w), .int (lkR (V j).1 (V k).1), lm_jk] [.int (lkR (V j).1 (V k).1)] rfl ?_
  refine w_if_eq_f (t := 61) rfl rfl h0 ?_
  refine w_N 2 57 [.ref 64, .int (nI j), .int (nI k), .int (nI N), .int (nI w), .int (lkR (V j).1 (V k).1), lm_jk] [.int (lkR (V j).1 (V k).1), .ref 64] rfl ?_
  refine w_ca (w_vst rfl rfl rfl (Nat.le_of_ble_eq_true rfl) (Nat.le_of_ble_eq_true rfl) (A_k S 64 (by decide))) (x_refuseGain P (lkR_W h0)) ?_
  rintro _ _ ⟨rfl, hi9, rfl, P9⟩
  show lm_wp _ 106 60 [.ref 64, .int (nI j), .int (nI k), .int (nI N), .int (nI w), .int (lkR (V j).1 (V k).1), lm_jk] [.int (-1000000 + (lkR (V j).1 (V k).1))] (hi9, hl, X) _
  refine w_ri rfl rfl ?_
  exact cq_ P9 (by omega) hC
theorem y_run_l {d : Nat} {hi : Nat → Nat → Int32} {hl : Nat → Nat → Int64} {X : lm_X} {hi0 : Nat → Nat → Int32} {hl0 : Nat → Nat → Int64} {X0 : lm_X} {n ts : Nat} {T : lm_T} {R : Nat → Int32} {KO : ab_K} {V : ab_V} {tl F : Nat → Int32} (P : mP hi0 hl0 X0 hi hl X T n R KO V ts tl F) {j k N w : Nat} (hj : j < 8) (hk : k < 8) (hN : N ≤ 60) (hw : w ≤ 4) (h0 : ¬ lkR (V j).1 (V k).1 = 0) : lm_w (d + 30) 188 [.ref 123, .int (nI j), .int (nI k), .int (nI N), .int (nI w)] (hi, hl, X) (mQ hi0 hl0 X0 (.int (-1000000 + lkR (V j).1 (V k).1)) T n R KO V ts tl (rfU F (lkR (V j).1 (V k).1))) := by
  obtain ⟨SR, O, H, HR, HV, HT, HF, HK, E0, EL0, EX0⟩ := id P
  have S := SR.1
  refine lm_w_in (Nat.le_of_ble_eq_true rfl) ?_
  show lm_wp (d + 30) 188 0 [.ref 123, .int (nI j), .int (nI k), .int (nI N), .int (nI w), lm_jk] [] (hi, hl, X) _
  refine w_N 4 6 [.ref 123, .int (nI j), .int (nI k), .int (nI N), .int (nI w), lm_jk] [.long 7, .long 0, .long ((nI j).toInt64)] rfl ?_
  refine w_cc rfl (lm_c_1 (m_in (x := nI j) (lo := 0) (up := 7) rfl (by decide) (by decide)) (wi_t (n := 7) (Nat.le_of_lt_succ hj) (by decide))) ?_
  show lm_wp _ 188 9 [.ref 123, .int (nI j), .int (nI k), .int (nI N), .int (nI w), lm_jk] [.int 1] (hi, hl, X) _
  refine w_if_eq_f (t := 49) rfl rfl (by decide) ?_
  refine w_N 4 18 [.ref 123, .int (nI j), .int (nI k), .int (nI N), .int (nI w), lm_jk] [.long 7, .long 0, .long ((nI k).toInt64)] rfl ?_
  refine w_cc rfl (lm_c_1 (m_in (x := nI k) (lo := 0) (up := 7) rfl (by decide) (by decide)) (wi_t (n := 7) (Nat.le_of_lt_succ hk) (by decide))) ?_
  show lm_wp _ 188 21 [.ref 123, .int (nI j), .int (nI k), .int (nI N), .int (nI w), lm_jk] [.int 1] (hi, hl, X) _
  refine w_if_eq_f (t := 49) rfl rfl (by decide) ?_
  refine w_N 4 30 [.ref 123, .int (nI j), .int (nI k), .int (nI N), .int (nI w), lm_jk] [.long 60, .long 0, .long ((nI N).toInt64)] rfl ?_
  refine w_cc rfl (lm_c_1 (m_in (x := nI N) (lo := 0) (up := 60) rfl (by decide) (by decide)) (wi_t (n := 60) hN (by decide))) ?_
  show lm_wp _ 188 33 [.ref 123, .int (nI j), .int (nI k), .int (nI N), .int (nI w), lm_jk] [.int 1] (hi, hl, X) _
  refine w_if_eq_f (t := 49) rfl rfl (by decide) ?_
  refine w_N 4 43 [.ref 123, .int (nI j), .int (nI k), .int (nI N), .int (nI w), lm_jk] [.long 4, .long 0, .long ((nI w).toInt64)] rfl ?_
  refine w_cc rfl (lm_c_1 (m_in (x := nI w) (lo := 0) (up := 4) rfl (by decide) (by decide)) (wi_t (n := 4) hw (by decide))) ?_
  show lm_wp _ 188 46 [.ref 123, .int (nI j), .int (nI k), .int (nI N), .int (nI w), lm_jk] [.int 1] (hi, hl, X) _
  refine w_if_ne_t (t := 59) rfl rfl (by decide) ?_
  refine w_N 3 62 [.ref 123, .int (nI j), .int (nI k), .int (nI N), .int (nI w), lm_jk] [.int (nI k), .int (nI j), .ref 123] rfl ?_
  refine w_ca (w_vst rfl rfl rfl (Nat.le_of_ble_eq_true rfl) (Nat.le_of_ble_eq_true rfl) (M_kd S)) (m_noRules_1 P hj hk h0) ?_
  rintro _ _ ⟨rfl, hi9, rfl, P9⟩
  show lm_wp _ 188 65 [.ref 123, .int (nI j), .int (nI k), .int (nI N), .int (nI w), lm_jk] [.int (lkR (V j).1 (V k).1)] (hi9, hl, X) _
  refine w_N 2 69 [.ref 123, .int (nI j), .int (nI k), .int (nI N), .int (nI w), .int (lkR (V j).1 (V k).1)] [.int (lkR (V j).1 (V k).1)] rfl ?_
  refine w_if_eq_f (t := 78) rfl rfl h0 ?_
  refine w_N 3 77 [.ref 123, .int (nI j), .int (nI k), .int (nI N), .int (nI w), .int (lkR (V j).1 (V k).1)] [.int ((-1000000) + (lkR (V j).1 (V k).1))] rfl ?_
  refine w_ri rfl rfl ?_
  exact mq_ P9
theorem x_run00 {d : Nat} {hi : Nat → Nat → Int32} {hl : Nat → Nat → Int64} {X : lm_X} {hi0 : Nat → Nat → Int32} {hl0 : Nat → Nat → Int64} {C n ts : Nat} {T : lm_T} {R : Nat → Int32} {KO : ab_K} {V : ab_V} {tl F : Nat → Int32} (P : cP hi0 hl0 hi hl X C T n R KO V ts tl F) {B D : Nat} (Z : okZ B D T n R KO V ts tl) {j k N : Nat} {K A : Nat → Nat} (hj : j < 8) (hk : k < 8) (hN : N ≤ 60) (hK : ∀ h, h < 2 → 1 ≤ K h ∧ K h ≤ 6 ∧ A h ≤ 99) (e0 : (V j).1 = nI (10 + K 0)) (a0 : (V j).2.2.1 = A 0) (e1 : (V k).1 = nI (10 + K 1)) (a1 : (V k).2.2.1 = A 1) (hz : awk (R 10) = 0) (hC : C + 25 < 2147483648) : lm_w (d + 30) 106 [.ref 64, .int (nI j), .int (nI k), .int (nI N), .int 0] (hi, hl, X) (cQ hi0 hl0 X (C + 25) (.int (rnR T n K A (zrR R) N 20)) T n R KO V ts tl F) := by
  obtain ⟨S, O, H, HR, FO, HV, HT, HF, HK, E0, EL0⟩ := id P
  obtain ⟨hT, hO, hV, hts, htl, hDB, hB0, hKO⟩ := id Z
  have h0 : lkR (V j).1 (V k).1 = 0 := lkR_0.mpr ⟨rk_u (hK 0 (by decide)).1 (hK 0 (by decide)).2.1 e0, rk_u (hK 1 (by decide)).1 (hK 1 (by decide)).2.1 e1⟩
  have q := rn_eq T n K A R N
  refine lm_w_in (Nat.le_of_ble_eq_true rfl) ?_
  show lm_wp (d + 30) 106 0 [.ref 64, .int (nI j), .int (nI k), .int (nI N), .int 0, lm_jk, lm_jk] [] (hi, hl, X) _
  refine w_N 1 1 [.ref 64, .int (nI j), .int (nI k), .int (nI N), .int 0, lm_jk, lm_jk] [.int (nI j)] rfl ?_
  refine w_cc rfl (x_isShelf1 (wi_t (n := 7) (Nat.le_of_lt_succ hj) (by decide))) ?_
  show lm_wp _ 106 4 [.ref 64, .int (nI j), .int (nI k), .int (nI N), .int 0, lm_jk, lm_jk] [.int 1] (hi, hl, X) _
  refine w_if_eq_f (t := 34) rfl rfl (by decide) ?_
  refine w_N 1 8 [.ref 64, .int (nI j), .int (nI k), .int (nI N), .int 0, lm_jk, lm_jk] [.int (nI k)] rfl ?_
  refine w_cc rfl (x_isShelf1 (wi_t (n := 7) (Nat.le_of_lt_succ hk) (by decide))) ?_
  show lm_wp _ 106 11 [.ref 64, .int (nI j), .int (nI k), .int (nI N), .int 0, lm_jk, lm_jk] [.int 1] (hi, hl, X) _
  refine w_if_eq_f (t := 34) rfl rfl (by decide) ?_
  refine w_N 3 18 [.ref 64, .int (nI j), .int (nI k), .int (nI N), .int 0, lm_jk, lm_jk] [.int 60, .int 0, .int (nI N)] rfl ?_
  refine w_cc rfl (x_within1 (wi_t (n := 60) hN (by decide))) ?_
  show lm_wp _ 106 21 [.ref 64, .int (nI j), .int (nI k), .int (nI N), .int 0, lm_jk, lm_jk] [.int 1] (hi, hl, X) _
  refine w_if_eq_f (t := 34) rfl rfl (by decide) ?_
  refine w_N 3 28 [.ref 64, .int (nI j), .int (nI k), .int (nI N), .int 0, lm_jk, lm_jk] [.int 4, .int 0, .int 0] rfl ?_
  refine w_cc rfl (x_within1 (by decide)) ?_
  show lm_wp _ 106 31 [.ref 64, .int (nI j), .int (nI k), .int (nI N), .int 0, lm_jk, lm_jk] [.int 1] (hi, hl, X) _
  refine w_if_ne_t (t := 41) rfl rfl (by decide) ?_
  refine w_N 3 44 [.ref 64, .int (nI j), .int (nI k), .int (nI N), .int 0, lm_jk, lm_jk] [.int (nI k), .int (nI j), .ref 64] rfl ?_
  refine w_cc (w_vst rfl rfl rfl (Nat.le_of_ble_eq_true rfl) (Nat.le_of_ble_eq_true rfl) (A_k S 64 (by decide))) (lm_c_v (x_lackRules P hj hk) h0) ?_
  show lm_wp _ 106 47 [.ref 64, .int (nI j), .int (nI k), .int (nI N), .int 0, lm_jk, lm_jk] [.int 0] (hi, hl, X) _
  refine w_N 2 51 [.ref 64, .int (nI j), .int (nI k), .int (nI N), .int 0, .int 0, lm_jk] [.int 0] rfl ?_
  refine w_if_eq_t (t := 61) rfl rfl (by decide) ?_
  refine w_N 1 62 [.ref 64, .int (nI j), .int (nI k), .int (nI N), .int 0, .int 0, lm_jk] [.ref 64] rfl ?_
  refine w_gr 65 rfl rfl rfl (A_k S 64 (by decide)) (A_r S 64 0 (by decide)) ?_
  refine w_gi (v := R 10) rfl rfl rfl (T_kd (A_T65 S)) (HR.1) ?_
  refine w_cc rfl (c_awkz hz) ?_
  show lm_wp _ 106 71 [.ref 64, .int (nI j), .int (nI k), .int (nI N), .int 0, .int 0, lm_jk] [.int 0] (hi, hl, X) _
  refine w_if_ne_f (t := 78) rfl rfl (by decide) ?_
  refine w_N 4 82 [.ref 64, .int (nI j), .int (nI k), .int (nI N), .int 0, .int 0, .int 1] [.ref 64] rfl ?_
  refine w_gr 104 rfl rfl rfl (A_k S 64 (by decide)) (A_r S 64 8 (by decide)) ?_
  refine w_N 1 86 [.ref 64, .int (nI j), .int (nI k), .int (nI N), .int 0, .int 0, .int 1] [.ref 64, .ref 104] rfl ?_
  refine w_gr 97 rfl rfl rfl (A_k S 64 (by decide)) (A_r S 64 5 (by decide)) ?_
  refine w_N 1 91 [.ref 64, .int (nI j), .int (nI k), .int (nI N), .int 0, .int 0, .int 1] [.int 1, .ref 97, .ref 104] rfl ?_
  refine w_if_eq_f (t := 98) rfl rfl (by decide) ?_
  refine w_N 2 99 [.ref 64, .int (nI j), .int (nI k), .int (nI N), .int 0, .int 0, .int 1] [.int (nI j), .ref 97, .ref 104] rfl ?_
  refine w_aa j (107 + 2 * j) rfl ⟨by rw [A_k S 97 (by decide)]; decide, by rw [A_k S 97 (by decide)]; decide⟩ (show X.2.2.1 97 = 8 from A_l S 97 (by decide)) rfl hj (by decide) (A_sv S hj) ?_
  refine w_N 1 101 [.ref 64, .int (nI j), .int (nI k), .int (nI N), .int 0, .int 0, .int 1] [.ref 64, .ref (107 + 2 * j), .ref 104] rfl ?_
  refine w_gr 97 rfl rfl rfl (A_k S 64 (by decide)) (A_r S 64 5 (by decide)) ?_
  refine w_N 1 106 [.ref 64, .int (nI j), .int (nI k), .int (nI N), .int 0, .int 0, .int 1] [.int 1, .ref 97, .ref (107 + 2 * j), .ref 104] rfl ?_
  refine w_if_eq_f (t := 113) rfl rfl (by decide) ?_
  refine w_N 2 114 [.ref 64, .int (nI j), .int (nI k), .int (nI N), .int 0, .int 0, .int 1] [.int (nI k), .ref 97, .ref (107 + 2 * j), .ref 104] rfl ?_
  refine w_aa k (107 + 2 * k) rfl ⟨by rw [A_k S 97 (by decide)]; decide, by rw [A_k S 97 (by decide)]; decide⟩ (show X.2.2.1 97 = 8 from A_l S 97 (by decide)) rfl hk (by decide) (A_sv S hk) ?_
  refine w_N 1 116 [.ref 64, .int (nI j), .int (nI k), .int (nI N), .int 0, .int 0, .int 1] [.int (nI N), .ref (107 + 2 * k), .ref (107 + 2 * j), .ref 104] rfl ?_
  refine w_ca (w_vst rfl rfl rfl (Nat.le_of_ble_eq_true rfl) (Nat.le_of_ble_eq_true rfl) (A_k S 104 (by decide))) (z_goByRules (d := d + 14) (K := K) (A := A) S hT hO.1 hz (A_Sf S hj) (A_Sf S hk) (by omega) (by omega) hK ((HV j hj).1.trans e0) ((HV j hj).2.2.1.trans (congrArg nI a0)) ((HV k hk).1.trans e1) ((HV k hk).2.2.1.trans (congrArg nI a1)) (by omega) H FO HR.1) ?_
  rintro _ _ ⟨h5x, rfl, rfl, Z5, f5, FO5⟩
  have P := cP_fore P f5 FO5
  obtain ⟨S, O, H, HR, FO, HV, HT, HF, HK, E0, EL0⟩ := id P
  show lm_wp _ 106 119 [.ref 64, .int (nI j), .int (nI k), .int (nI N), .int 0, .int 0, .int 1] [] (h5x, hl, X) _
  refine w_N 1 121 [.ref 64, .int (nI j), .int (nI k), .int (nI N), .int 0, .int 0, .int 1] [.int 0] rfl ?_
  refine w_ts (t := 175) rfl (by decide) rfl ?_
  refine w_N 1 176 [.ref 64, .int (nI j), .int (nI k), .int (nI N), .int 0, .int 0, .int 1] [.ref 64] rfl ?_
  refine w_gr 104 rfl rfl rfl (A_k S 64 (by decide)) (A_r S 64 8 (by decide)) ?_
  refine w_gr 105 rfl rfl rfl (A_k S 104 (by decide)) (A_r S 104 2 (by decide)) ?_
  refine w_N 1 184 [.ref 64, .int (nI j), .int (nI k), .int (nI N), .int 0, .int 0, .int 1] [.int 0, .ref 105] rfl ?_
  refine w_ia 0 (v := rnZ T n K A (bgZ (R 10)) N 1) rfl (A_k S 105 (by decide)) (show X.2.2.1 105 = 2 from A_l S 105 (by decide)) rfl (by decide) (by decide) (Z5.2.1) ?_
  refine w_ri rfl rfl ?_
  rw [← q.2.1]
  exact cq_ P (by omega) hC
theorem x_run01 {d : Nat} {hi : Nat → Nat → Int32} {hl : Nat → Nat → Int64} {X : lm_X} {hi0 : Nat → Nat → Int32} {hl0 : Nat → Nat → Int64} {C n ts : Nat} {T : lm_T} {R : Nat → Int32} {KO : ab_K} {V : ab_V} {tl F : Nat → Int32} (P : cP hi0 hl0 hi hl X C T n R KO V ts tl F) {B D : Nat} (Z : okZ B D T n R KO V ts tl) {j k N : Nat} {K A : Nat → Nat} (hj : j < 8) (hk : k < 8) (hN : N ≤ 60) (hK : ∀ h, h < 2 → 1 ≤ K h ∧ K h ≤ 6 ∧ A h ≤ 99) (e0 : (V j).1 = nI (10 + K 0)) (a0 : (V j).2.2.1 = A 0) (e1 : (V k).1 = nI (10 + K 1)) (a1 : (V k).2.2.1 = A 1) (hz : awk (R 10) = 1) (hC : C + 25 < 2147483648) : lm_w (d + 30) 106 [.ref 64, .int (nI j), .int (nI k), .int (nI N), .int 0] (hi, hl, X) (cQ hi0 hl0 X (C + 25) (.int (rnR T n K A (zrR R) N 20)) T n R KO V ts tl F) := by
  obtain ⟨S, O, H, HR, FO, HV, HT, HF, HK, E0, EL0⟩ := id P
  obtain ⟨hT, hO, hV, hts, htl, hDB, hB0, hKO⟩ := id Z
  have h0 : lkR (V j).1 (V k).1 = 0 := lkR_0.mpr ⟨rk_u (hK 0 (by decide)).1 (hK 0 (by decide)).2.1 e0, rk_u (hK 1 (by decide)).1 (hK 1 (by decide)).2.1 e1⟩
  have q := rn_eq T n K A R N
  refine lm_w_in (Nat.le_of_ble_eq_true rfl) ?_
  show lm_wp (d + 30) 106 0 [.ref 64, .int (nI j), .int (nI k), .int (nI N), .int 0, lm_jk, lm_jk] [] (hi, hl, X) _
  refine w_N 1 1 [.ref 64, .int (nI j), .int (nI k), .int (nI N), .int 0, lm_jk, lm_jk] [.int (nI j)] rfl ?_
  refine w_cc rfl (x_isShelf1 (wi_t (n := 7) (Nat.le_of_lt_succ hj) (by decide))) ?_
  show lm_wp _ 106 4 [.ref 64, .int (nI j), .int (nI k), .int (nI N), .int 0, lm_jk, lm_jk] [.int 1] (hi, hl, X) _
  refine w_if_eq_f (t := 34) rfl rfl (by decide) ?_
  refine w_N 1 8 [.ref 64, .int (nI j), .int (nI k), .int (nI N), .int 0, lm_jk, lm_jk] [.int (nI k)] rfl ?_
  refine w_cc rfl (x_isShelf1 (wi_t (n := 7) (Nat.le_of_lt_succ hk) (by decide))) ?_
  show lm_wp _ 106 11 [.ref 64, .int (nI j), .int (nI k), .int (nI N), .int 0, lm_jk, lm_jk] [.int 1] (hi, hl, X) _
  refine w_if_eq_f (t := 34) rfl rfl (by decide) ?_
  refine w_N 3 18 [.ref 64, .int (nI j), .int (nI k), .int (nI N), .int 0, lm_jk, lm_jk] [.int 60, .int 0, .int (nI N)] rfl ?_
  refine w_cc rfl (x_within1 (wi_t (n := 60) hN (by decide))) ?_
  show lm_wp _ 106 21 [.ref 64, .int (nI j), .int (nI k), .int (nI N), .int 0, lm_jk, lm_jk] [.int 1] (hi, hl, X) _
  refine w_if_eq_f (t := 34) rfl rfl (by decide) ?_
  refine w_N 3 28 [.ref 64, .int (nI j), .int (nI k), .int (nI N), .int 0, lm_jk, lm_jk] [.int 4, .int 0, .int 0] rfl ?_
  refine w_cc rfl (x_within1 (by decide)) ?_
  show lm_wp _ 106 31 [.ref 64, .int (nI j), .int (nI k), .int (nI N), .int 0, lm_jk, lm_jk] [.int 1] (hi, hl, X) _
  refine w_if_ne_t (t := 41) rfl rfl (by decide) ?_
  refine w_N 3 44 [.ref 64, .int (nI j), .int (nI k), .int (nI N), .int 0, lm_jk, lm_jk] [.int (nI k), .int (nI j), .ref 64] rfl ?_
  refine w_cc (w_vst rfl rfl rfl (Nat.le_of_ble_eq_true rfl) (Nat.le_of_ble_eq_true rfl) (A_k S 64 (by decide))) (lm_c_v (x_lackRules P hj hk) h0) ?_
  show lm_wp _ 106 47 [.ref 64, .int (nI j), .int (nI k), .int (nI N), .int 0, lm_jk, lm_jk] [.int 0] (hi, hl, X) _
  refine w_N 2 51 [.ref 64, .int (nI j), .int (nI k), .int (nI N), .int 0, .int 0, lm_jk] [.int 0] rfl ?_
  refine w_if_eq_t (t := 61) rfl rfl (by decide) ?_
  refine w_N 1 62 [.ref 64, .int (nI j), .int (nI k), .int (nI N), .int 0, .int 0, lm_jk] [.ref 64] rfl ?_
  refine w_gr 65 rfl rfl rfl (A_k S 64 (by decide)) (A_r S 64 0 (by decide)) ?_
  refine w_gi (v := R 10) rfl rfl rfl (T_kd (A_T65 S)) (HR.1) ?_
  refine w_cc rfl (c_awkz hz) ?_
  show lm_wp _ 106 71 [.ref 64, .int (nI j), .int (nI k), .int (nI N), .int 0, .int 0, lm_jk] [.int 1] (hi, hl, X) _
  refine w_if_ne_t (t := 78) rfl rfl (by decide) ?_
  refine w_N 3 82 [.ref 64, .int (nI j), .int (nI k), .int (nI N), .int 0, .int 0, .int 0] [.ref 64] rfl ?_
  refine w_gr 104 rfl rfl rfl (A_k S 64 (by decide)) (A_r S 64 8 (by decide)) ?_
  refine w_N 1 86 [.ref 64, .int (nI j), .int (nI k), .int (nI N), .int 0, .int 0, .int 0] [.ref 64, .ref 104] rfl ?_
  refine w_gr 97 rfl rfl rfl (A_k S 64 (by decide)) (A_r S 64 5 (by decide)) ?_
  refine w_N 1 91 [.ref 64, .int (nI j), .int (nI k), .int (nI N), .int 0, .int 0, .int 0] [.int 0, .ref 97, .ref 104] rfl ?_
  refine w_if_eq_t (t := 98) rfl rfl (by decide) ?_
  refine w_N 1 99 [.ref 64, .int (nI j), .int (nI k), .int (nI N), .int 0, .int 0, .int 0] [.int (nI k), .ref 97, .ref 104] rfl ?_
  refine w_aa k (107 + 2 * k) rfl ⟨by rw [A_k S 97 (by decide)]; decide, by rw [A_k S 97 (by decide)]; decide⟩ (show X.2.2.1 97 = 8 from A_l S 97 (by decide)) rfl hk (by decide) (A_sv S hk) ?_
  refine w_N 1 101 [.ref 64, .int (nI j), .int (nI k), .int (nI N), .int 0, .int 0, .int 0] [.ref 64, .ref (107 + 2 * k), .ref 104] rfl ?_
  refine w_gr 97 rfl rfl rfl (A_k S 64 (by decide)) (A_r S 64 5 (by decide)) ?_
  refine w_N 1 106 [.ref 64, .int (nI j), .int (nI k), .int (nI N), .int 0, .int 0, .int 0] [.int 0, .ref 97, .ref (107 + 2 * k), .ref 104] rfl ?_
  refine w_if_eq_t (t := 113) rfl rfl (by decide) ?_
  refine w_N 1 114 [.ref 64, .int (nI j), .int (nI k), .int (nI N), .int 0, .int 0, .int 0] [.int (nI j), .ref 97, .ref (107 + 2 * k), .ref 104] rfl ?_
  refine w_aa j (107 + 2 * j) rfl ⟨by rw [A_k S 97 (by decide)]; decide, by rw [A_k S 97 (by decide)]; decide⟩ (show X.2.2.1 97 = 8 from A_l S 97 (by decide)) rfl hj (by decide) (A_sv S hj) ?_
  refine w_N 1 116 [.ref 64, .int (nI j), .int (nI k), .int (nI N), .int 0, .int 0, .int 0] [.int (nI N), .ref (107 + 2 * j), .ref (107 + 2 * k), .ref 104] rfl ?_
  refine w_ca (w_vst rfl rfl rfl (Nat.le_of_ble_eq_true rfl) (Nat.le_of_ble_eq_true rfl) (A_k S 104 (by decide))) (z_goByRules (d := d + 14) (K := K) (A := A) S hT hO.1 hz (A_Sf S hk) (A_Sf S hj) (by omega) (by omega) hK ((HV k hk).1.trans e1) ((HV k hk).2.2.1.trans (congrArg nI a1)) ((HV j hj).1.trans e0) ((HV j hj).2.2.1.trans (congrArg nI a0)) (by omega) H FO HR.1) ?_
  rintro _ _ ⟨h5x, rfl, rfl, Z5, f5, FO5⟩
  have P := cP_fore P f5 FO5
  obtain ⟨S, O, H, HR, FO, HV, HT, HF, HK, E0, EL0⟩ := id P
  show lm_wp _ 106 119 [.ref 64, .int (nI j), .int (nI k), .int (nI N), .int 0, .int 0, .int 0] [] (h5x, hl, X) _
  refine w_N 1 121 [.ref 64, .int (nI j), .int (nI k), .int (nI N), .int 0, .int 0, .int 0] [.int 0] rfl ?_
  refine w_ts (t := 175) rfl (by decide) rfl ?_
  refine w_N 1 176 [.ref 64, .int (nI j), .int (nI k), .int (nI N), .int 0, .int 0, .int 0] [.ref 64] rfl ?_
  refine w_gr 104 rfl rfl rfl (A_k S 64 (by decide)) (A_r S 64 8 (by decide)) ?_
  refine w_gr 105 rfl rfl rfl (A_k S 104 (by decide)) (A_r S 104 2 (by decide)) ?_
  refine w_N 1 184 [.ref 64, .int (nI j), .int (nI k), .int (nI N), .int 0, .int 0, .int 0] [.int 0, .ref 105] rfl ?_
  refine w_ia 0 (v := rnZ T n K A (bgZ (R 10)) N 1) rfl (A_k S 105 (by decide)) (show X.2.2.1 105 = 2 from A_l S 105 (by decide)) rfl (by decide) (by decide) (Z5.2.1) ?_
  refine w_ri rfl rfl ?_
  rw [← q.2.1]
  exact cq_ P (by omega) hC
theorem x_run0 {d : Nat} {hi : Nat → Nat → Int32} {hl : Nat → Nat → Int64} {X : lm_X} {hi0 : Nat → Nat → Int32} {hl0 : Nat → Nat → Int64} {C n ts : Nat} {T : lm_T} {R : Nat → Int32} {KO : ab_K} {V : ab_V} {tl F : Nat → Int32} (P : cP hi0 hl0 hi hl X C T n R KO V ts tl F) {B D : Nat} (Z : okZ B D T n R KO V ts tl) {j k N : Nat} {K A : Nat → Nat} (hj : j < 8) (hk : k < 8) (hN : N ≤ 60) (hK : ∀ h, h < 2 → 1 ≤ K h ∧ K h ≤ 6 ∧ A h ≤ 99) (e0 : (V j).1 = nI (10 + K 0)) (a0 : (V j).2.2.1 = A 0) (e1 : (V k).1 = nI (10 + K 1)) (a1 : (V k).2.2.1 = A 1) (hC : C + 25 < 2147483648) : lm_w (d + 30) 106 [.ref 64, .int (nI j), .int (nI k), .int (nI N), .int 0] (hi, hl, X) (cQ hi0 hl0 X (C + 25) (.int (rnR T n K A (zrR R) N 20)) T n R KO V ts tl F) := by
  have h := awk_lt (R 10)
  rcases (by omega : awk (R 10) = 0 ∨ awk (R 10) = 1) with h | h
  · exact x_run00 P Z hj hk hN hK e0 a0 e1 a1 h hC
  · exact x_run01 P Z hj hk hN hK e0 a0 e1 a1 h hC
theorem y_run0 {d : Nat} {hi : Nat → Nat → Int32} {hl : Nat → Nat → Int64} {X : lm_X} {hi0 : Nat → Nat → Int32} {hl0 : Nat → Nat → Int64} {X0 : lm_X} {n ts : Nat} {T : lm_T} {R : Nat → Int32} {KO : ab_K} {V : ab_V} {tl F : Nat → Int32} (P : mP hi0 hl0 X0 hi hl X T n R KO V ts tl F) {B D : Nat} (Z : okZ B D T n R KO V ts tl) {j k N : Nat} {K A : Nat → Nat} (hj : j < 8) (hk : k < 8) (hN : N ≤ 60) (hK : ∀ h, h < 2 → 1 ≤ K h ∧ K h ≤ 6 ∧ A h ≤ 99) (e0 : (V j).1 = nI (10 + K 0)) (a0 : (V j).2.2.1 = A 0) (e1 : (V k).1 = nI (10 + K 1)) (a1 : (V k).2.2.1 = A 1) : lm_w (d + 30) 188 [.ref 123, .int (nI j), .int (nI k), .int (nI N), .int 0] (hi, hl, X) (mQ hi0 hl0 X0 (.int (rnR T n K A (zrR R) N 20)) T n R KO V ts tl F) := by
  obtain ⟨SR, O, H, HR, HV, HT, HF, HK, E0, EL0, EX0⟩ := id P
  have S := SR.1
  obtain ⟨hT, hO, hV, hts, htl, hDB, hB0, hKO⟩ := id Z
  have h0 : lkR (V j).1 (V k).1 = 0 := lkR_0.mpr ⟨rk_u (hK 0 (by decide)).1 (hK 0 (by decide)).2.1 e0, rk_u (hK 1 (by decide)).1 (hK 1 (by decide)).2.1 e1⟩
  refine lm_w_in (Nat.le_of_ble_eq_true rfl) ?_
  show lm_wp (d + 30) 188 0 [.ref 123, .int (nI j), .int (nI k), .int (nI N), .int 0, lm_jk] [] (hi, hl, X) _
  refine w_N 4 6 [.ref 123, .int (nI j), .int (nI k), .int (nI N), .int 0, lm_jk] [.long 7, .long 0, .long ((nI j).toInt64)] rfl ?_
  refine w_cc rfl (lm_c_1 (m_in (x := nI j) (lo := 0) (up := 7) rfl (by decide) (by decide)) (wi_t (n := 7) (Nat.le_of_lt_succ hj) (by decide))) ?_
  show lm_wp _ 188 9 [.ref 123, .int (nI j), .int (nI k), .int (nI N), .int 0, lm_jk] [.int 1] (hi, hl, X) _
  refine w_if_eq_f (t := 49) rfl rfl (by decide) ?_
  refine w_N 4 18 [.ref 123, .int (nI j), .int (nI k), .int (nI N), .int 0, lm_jk] [.long 7, .long 0, .long ((nI k).toInt64)] rfl ?_
  refine w_cc rfl (lm_c_1 (m_in (x := nI k) (lo := 0) (up := 7) rfl (by decide) (by decide)) (wi_t (n := 7) (Nat.le_of_lt_succ hk) (by decide))) ?_
  show lm_wp _ 188 21 [.ref 123, .int (nI j), .int (nI k), .int (nI N), .int 0, lm_jk] [.int 1] (hi, hl, X) _
  refine w_if_eq_f (t := 49) rfl rfl (by decide) ?_
  refine w_N 4 30 [.ref 123, .int (nI j), .int (nI k), .int (nI N), .int 0, lm_jk] [.long 60, .long 0, .long ((nI N).toInt64)] rfl ?_
  refine w_cc rfl (lm_c_1 (m_in (x := nI N) (lo := 0) (up := 60) rfl (by decide) (by decide)) (wi_t (n := 60) hN (by decide))) ?_
  show lm_wp _ 188 33 [.ref 123, .int (nI j), .int (nI k), .int (nI N), .int 0, lm_jk] [.int 1] (hi, hl, X) _
  refine w_if_eq_f (t := 49) rfl rfl (by decide) ?_
  refine w_N 4 43 [.ref 123, .int (nI j), .int (nI k), .int (nI N), .int 0, lm_jk] [.long 4, .long 0, .long 0] rfl ?_
  refine w_cc rfl (lm_c_1 (m_in (x := 0) (lo := 0) (up := 4) (by decide) (by decide) (by decide)) (by decide)) ?_
  show lm_wp _ 188 46 [.ref 123, .int (nI j), .int (nI k), .int (nI N), .int 0, lm_jk] [.int 1] (hi, hl, X) _
  refine w_if_ne_t (t := 59) rfl rfl (by decide) ?_
  refine w_N 3 62 [.ref 123, .int (nI j), .int (nI k), .int (nI N), .int 0, lm_jk] [.int (nI k), .int (nI j), .ref 123] rfl ?_
  refine w_cc (w_vst rfl rfl rfl (Nat.le_of_ble_eq_true rfl) (Nat.le_of_ble_eq_true rfl) (M_kd S)) (m_noRules_0 P hj hk h0) ?_
  show lm_wp _ 188 65 [.ref 123, .int (nI j), .int (nI k), .int (nI N), .int 0, lm_jk] [.int 0] (hi, hl, X) _
  refine w_N 2 69 [.ref 123, .int (nI j), .int (nI k), .int (nI N), .int 0, .int 0] [.int 0] rfl ?_
  refine w_if_eq_t (t := 78) rfl rfl (by decide) ?_
  refine w_N 1 79 [.ref 123, .int (nI j), .int (nI k), .int (nI N), .int 0, .int 0] [.ref 123] rfl ?_
  refine w_ca (w_vst rfl rfl rfl (Nat.le_of_ble_eq_true rfl) (Nat.le_of_ble_eq_true rfl) (M_kd S)) (m_fresh (d := d + 27) SR H HR hO.2.2.2.2.1) ?_
  rintro _ _ ⟨h5x, hl5, X5, rfl, rfl, S5, S7, n23, SR5, H7, R7, f7, fl7, fx7⟩
  have P := mP_new P f7 fl7 fx7 SR5
  obtain ⟨SR, O, H, HR, HV, HT, HF, HK, E0, EL0, EX0⟩ := id P
  have S := SR.1
  show lm_wp _ 188 82 [.ref 123, .int (nI j), .int (nI k), .int (nI N), .int 0, .int 0] [.ref 700] (h5x, hl5, X5) _
  refine w_N 1 83 [.ref 123, .int (nI j), .int (nI k), .int (nI N), .int 0, .int 0] [.ref 123, .ref 700] rfl ?_
  refine w_gr 137 rfl rfl rfl (M_kd S) (M_r S (k := 5) (o := 14) rfl) ?_
  refine w_N 1 87 [.ref 123, .int (nI j), .int (nI k), .int (nI N), .int 0, .int 0] [.int (nI j), .ref 137, .ref 700] rfl ?_
  refine w_ia j (v := nI (K 0)) rfl (show X5.2.1 (137) = 1 from M_k S 14 (by decide)) (show X5.2.2.1 (137) = 8 from M_l S 14 (by decide)) rfl hj (by decide) (((HV j hj).2.2.2.1 (rk_u (hK 0 (by decide)).1 (hK 0 (by decide)).2.1 e0)).trans (rk_e e0)) ?_
  refine w_N 1 89 [.ref 123, .int (nI j), .int (nI k), .int (nI N), .int 0, .int 0] [.ref 123, .int (nI (K 0)), .ref 700] rfl ?_
  refine w_gr 138 rfl rfl rfl (M_kd S) (M_r S (k := 6) (o := 15) rfl) ?_
  refine w_N 1 93 [.ref 123, .int (nI j), .int (nI k), .int (nI N), .int 0, .int 0] [.int (nI j), .ref 138, .int (nI (K 0)), .ref 700] rfl ?_
  refine w_ia j (v := nI (A 0)) rfl (show X5.2.1 (138) = 1 from M_k S 15 (by decide)) (show X5.2.2.1 (138) = 8 from M_l S 15 (by decide)) rfl hj (by decide) ((HV j hj).2.2.2.2.1.trans (congrArg nI a0)) ?_
  refine w_N 1 95 [.ref 123, .int (nI j), .int (nI k), .int (nI N), .int 0, .int 0] [.ref 123, .int (nI (A 0)), .int (nI (K 0)), .ref 700] rfl ?_
  refine w_gr 137 rfl rfl rfl (M_kd S) (M_r S (k := 5) (o := 14) rfl) ?_
  refine w_N 1 99 [.ref 123, .int (nI j), .int (nI k), .int (nI N), .int 0, .int 0] [.int (nI k), .ref 137, .int (nI (A 0)), .int (nI (K 0)), .ref 700] rfl ?_
  refine w_ia k (v := nI (K 1)) rfl (show X5.2.1 (137) = 1 from M_k S 14 (by decide)) (show X5.2.2.1 (137) = 8 from M_l S 14 (by decide)) rfl hk (by decide) (((HV k hk).2.2.2.1 (rk_u (hK 1 (by decide)).1 (hK 1 (by decide)).2.1 e1)).trans (rk_e e1)) ?_
  refine w_N 1 101 [.ref 123, .int (nI j), .int (nI k), .int (nI N), .int 0, .int 0] [.ref 123, .int (nI (K 1)), .int (nI (A 0)), .int (nI (K 0)), .ref 700] rfl ?_
  refine w_gr 138 rfl rfl rfl (M_kd S) (M_r S (k := 6) (o := 15) rfl) ?_
  refine w_N 1 105 [.ref 123, .int (nI j), .int (nI k), .int (nI N), .int 0, .int 0] [.int (nI k), .ref 138, .int (nI (K 1)), .int (nI (A 0)), .int (nI (K 0)), .ref 700] rfl ?_
  refine w_ia k (v := nI (A 1)) rfl (show X5.2.1 (138) = 1 from M_k S 15 (by decide)) (show X5.2.2.1 (138) = 8 from M_l S 15 (by decide)) rfl hk (by decide) ((HV k hk).2.2.2.2.1.trans (congrArg nI a1)) ?_
  refine w_N 1 107 [.ref 123, .int (nI j), .int (nI k), .int (nI N), .int 0, .int 0] [.int (nI N), .int (nI (A 1)), .int (nI (K 1)), .int (nI (A 0)), .int (nI (K 0)), .ref 700] rfl ?_
  refine w_ca (w_vst rfl rfl rfl (Nat.le_of_ble_eq_true rfl) (Nat.le_of_ble_eq_true rfl) (M_kd S7)) (m_runs (d := d + 21) (K := K) (A := A) S7 hT (okR_zr hO) (by omega) (by omega) hK H7 R7) ?_
  rintro _ _ ⟨h6x, rfl, rfl, H8, R8, Q8, B8, L8⟩
  have P := mP_tried P (fun a ha => Q8.1 a (by omega))
  obtain ⟨SR, O, H, HR, HV, HT, HF, HK, E0, EL0, EX0⟩ := id P
  have S := SR.1
  show lm_wp _ 188 110 [.ref 123, .int (nI j), .int (nI k), .int (nI N), .int 0, .int 0] [] (h6x, hl5, X5) _
  refine w_N 1 112 [.ref 123, .int (nI j), .int (nI k), .int (nI N), .int 0, .int 0] [.int 0] rfl ?_
  refine w_ts (t := 164) rfl (by decide) rfl ?_
  refine w_N 1 165 [.ref 123, .int (nI j), .int (nI k), .int (nI N), .int 0, .int 0] [.ref 123] rfl ?_
  refine w_gr 700 rfl rfl rfl (M_kd S) n23 ?_
  refine w_gr 733 rfl rfl rfl (M_kd S7) (M_r S7 (k := 17) (o := 33) rfl) ?_
  refine w_N 1 173 [.ref 123, .int (nI j), .int (nI k), .int (nI N), .int 0, .int 0] [.int 0, .ref 733] rfl ?_
  refine w_ia 0 (v := rnR T n K A (zrR R) N 20) rfl (show X5.2.1 (733) = 1 from M_k S7 33 (by decide)) (show X5.2.2.1 (733) = 2 from M_l S7 33 (by decide)) rfl (by decide) (by decide) (R8.2.2.2.2.2.2.1) ?_
  refine w_ri rfl rfl ?_
  exact mq_ P
theorem x_run10 {d : Nat} {hi : Nat → Nat → Int32} {hl : Nat → Nat → Int64} {X : lm_X} {hi0 : Nat → Nat → Int32} {hl0 : Nat → Nat → Int64} {C n ts : Nat} {T : lm_T} {R : Nat → Int32} {KO : ab_K} {V : ab_V} {tl F : Nat → Int32} (P : cP hi0 hl0 hi hl X C T n R KO V ts tl F) {B D : Nat} (Z : okZ B D T n R KO V ts tl) {j k N : Nat} {K A : Nat → Nat} (hj : j < 8) (hk : k < 8) (hN : N ≤ 60) (hK : ∀ h, h < 2 → 1 ≤ K h ∧ K h ≤ 6 ∧ A h ≤ 99) (e0 : (V j).1 = nI (10 + K 0)) (a0 : (V j).2.2.1 = A 0) (e1 : (V k).1 = nI (10 + K 1)) (a1 : (V k).2.2.1 = A 1) (hz : awk (R 10) = 0) (hC : C + 25 < 2147483648) : lm_w (d + 30) 106 [.ref 64, .int (nI j), .int (nI k), .int (nI N), .int 1] (hi, hl, X) (cQ hi0 hl0 X (C + 25) (.int (rnR T n K A (zrR R) N 21)) T n R KO V ts tl F) := by
  obtain ⟨S, O, H, HR, FO, HV, HT, HF, HK, E0, EL0⟩ := id P
  obtain ⟨hT, hO, hV, hts, htl, hDB, hB0, hKO⟩ := id Z
  have h0 : lkR (V j).1 (V k).1 = 0 := lkR_0.mpr ⟨rk_u (hK 0 (by decide)).1 (hK 0 (by decide)).2.1 e0, rk_u (hK 1 (by decide)).1 (hK 1 (by decide)).2.1 e1⟩
  have q := rn_eq T n K A R N
  refine lm_w_in (Nat.le_of_ble_eq_true rfl) ?_
  show lm_wp (d + 30) 106 0 [.ref 64, .int (nI j), .int (nI k), .int (nI N), .int 1, lm_jk, lm_jk] [] (hi, hl, X) _
  refine w_N 1 1 [.ref 64, .int (nI j), .int (nI k), .int (nI N), .int 1, lm_jk, lm_jk] [.int (nI j)] rfl ?_
  refine w_cc rfl (x_isShelf1 (wi_t (n := 7) (Nat.le_of_lt_succ hj) (by decide))) ?_
  show lm_wp _ 106 4 [.ref 64, .int (nI j), .int (nI k), .int (nI N), .int 1, lm_jk, lm_jk] [.int 1] (hi, hl, X) _
  refine w_if_eq_f (t := 34) rfl rfl (by decide) ?_
  refine w_N 1 8 [.ref 64, .int (nI j), .int (nI k), .int (nI N), .int 1, lm_jk, lm_jk] [.int (nI k)] rfl ?_
  refine w_cc rfl (x_isShelf1 (wi_t (n := 7) (Nat.le_of_lt_succ hk) (by decide))) ?_
  show lm_wp _ 106 11 [.ref 64, .int (nI j), .int (nI k), .int (nI N), .int 1, lm_jk, lm_jk] [.int 1] (hi, hl, X) _
  refine w_if_eq_f (t := 34) rfl rfl (by decide) ?_
  refine w_N 3 18 [.ref 64, .int (nI j), .int (nI k), .int (nI N), .int 1, lm_jk, lm_jk] [.int 60, .int 0, .int (nI N)] rfl ?_
  refine w_cc rfl (x_within1 (wi_t (n := 60) hN (by decide))) ?_
  show lm_wp _ 106 21 [.ref 64, .int (nI j), .int (nI k), .int (nI N), .int 1, lm_jk, lm_jk] [.int 1] (hi, hl, X) _
  refine w_if_eq_f (t := 34) rfl rfl (by decide) ?_
  refine w_N 3 28 [.ref 64, .int (nI j), .int (nI k), .int (nI N), .int 1, lm_jk, lm_jk] [.int 4, .int 0, .int 1] rfl ?_
  refine w_cc rfl (x_within1 (by decide)) ?_
  show lm_wp _ 106 31 [.ref 64, .int (nI j), .int (nI k), .int (nI N), .int 1, lm_jk, lm_jk] [.int 1] (hi, hl, X) _
  refine w_if_ne_t (t := 41) rfl rfl (by decide) ?_
  refine w_N 3 44 [.ref 64, .int (nI j), .int (nI k), .int (nI N), .int 1, lm_jk, lm_jk] [.int (nI k), .int (nI j), .ref 64] rfl ?_
  refine w_cc (w_vst rfl rfl rfl (Nat.le_of_ble_eq_true rfl) (Nat.le_of_ble_eq_true rfl) (A_k S 64 (by decide))) (lm_c_v (x_lackRules P hj hk) h0) ?_
  show lm_wp _ 106 47 [.ref 64, .int (nI j), .int (nI k), .int (nI N), .int 1, lm_jk, lm_jk] [.int 0] (hi, hl, X) _
  refine w_N 2 51 [.ref 64, .int (nI j), .int (nI k), .int (nI N), .int 1, .int 0, lm_jk] [.int 0] rfl ?_
  refine w_if_eq_t (t := 61) rfl rfl (by decide) ?_
  refine w_N 1 62 [.ref 64, .int (nI j), .int (nI k), .int (nI N), .int 1, .int 0, lm_jk] [.ref 64] rfl ?_
  refine w_gr 65 rfl rfl rfl (A_k S 64 (by decide)) (A_r S 64 0 (by decide)) ?_
  refine w_gi (v := R 10) rfl rfl rfl (T_kd (A_T65 S)) (HR.1) ?_
  refine w_cc rfl (c_awkz hz) ?_
  show lm_wp _ 106 71 [.ref 64, .int (nI j), .int (nI k), .int (nI N), .int 1, .int 0, lm_jk] [.int 0] (hi, hl, X) _
  refine w_if_ne_f (t := 78) rfl rfl (by decide) ?_
  refine w_N 4 82 [.ref 64, .int (nI j), .int (nI k), .int (nI N), .int 1, .int 0, .int 1] [.ref 64] rfl ?_
  refine w_gr 104 rfl rfl rfl (A_k S 64 (by decide)) (A_r S 64 8 (by decide)) ?_
  refine w_N 1 86 [.ref 64, .int (nI j), .int (nI k), .int (nI N), .int 1, .int 0, .int 1] [.ref 64, .ref 104] rfl ?_
  refine w_gr 97 rfl rfl rfl (A_k S 64 (by decide)) (A_r S 64 5 (by decide)) ?_
  refine w_N 1 91 [.ref 64, .int (nI j), .int (nI k), .int (nI N), .int 1, .int 0, .int 1] [.int 1, .ref 97, .ref 104] rfl ?_
  refine w_if_eq_f (t := 98) rfl rfl (by decide) ?_
  refine w_N 2 99 [.ref 64, .int (nI j), .int (nI k), .int (nI N), .int 1, .int 0, .int 1] [.int (nI j), .ref 97, .ref 104] rfl ?_
  refine w_aa j (107 + 2 * j) rfl ⟨by rw [A_k S 97 (by decide)]; decide, by rw [A_k S 97 (by decide)]; decide⟩ (show X.2.2.1 97 = 8 from A_l S 97 (by decide)) rfl hj (by decide) (A_sv S hj) ?_
  refine w_N 1 101 [.ref 64, .int (nI j), .int (nI k), .int (nI N), .int 1, .int 0, .int 1] [.ref 64, .ref (107 + 2 * j), .ref 104] rfl ?_
  refine w_gr 97 rfl rfl rfl (A_k S 64 (by decide)) (A_r S 64 5 (by decide)) ?_
  refine w_N 1 106 [.ref 64, .int (nI j), .int (nI k), .int (nI N), .int 1, .int 0, .int 1] [.int 1, .ref 97, .ref (107 + 2 * j), .ref 104] rfl ?_
  refine w_if_eq_f (t := 113) rfl rfl (by decide) ?_
  refine w_N 2 114 [.ref 64, .int (nI j), .int (nI k), .int (nI N), .int 1, .int 0, .int 1] [.int (nI k), .ref 97, .ref (107 + 2 * j), .ref 104] rfl ?_
  refine w_aa k (107 + 2 * k) rfl ⟨by rw [A_k S 97 (by decide)]; decide, by rw [A_k S 97 (by decide)]; decide⟩ (show X.2.2.1 97 = 8 from A_l S 97 (by decide)) rfl hk (by decide) (A_sv S hk) ?_
  refine w_N 1 116 [.ref 64, .int (nI j), .int (nI k), .int (nI N), .int 1, .int 0, .int 1] [.int (nI N), .ref (107 + 2 * k), .ref (107 + 2 * j), .ref 104] rfl ?_
  refine w_ca (w_vst rfl rfl rfl (Nat.le_of_ble_eq_true rfl) (Nat.le_of_ble_eq_true rfl) (A_k S 104 (by decide))) (z_goByRules (d := d + 14) (K := K) (A := A) S hT hO.1 hz (A_Sf S hj) (A_Sf S hk) (by omega) (by omega) hK ((HV j hj).1.trans e0) ((HV j hj).2.2.1.trans (congrArg nI a0)) ((HV k hk).1.trans e1) ((HV k hk).2.2.1.trans (congrArg nI a1)) (by omega) H FO HR.1) ?_
  rintro _ _ ⟨h5x, rfl, rfl, Z5, f5, FO5⟩
  have P := cP_fore P f5 FO5
  obtain ⟨S, O, H, HR, FO, HV, HT, HF, HK, E0, EL0⟩ := id P
  show lm_wp _ 106 119 [.ref 64, .int (nI j), .int (nI k), .int (nI N), .int 1, .int 0, .int 1] [] (h5x, hl, X) _
  refine w_N 1 121 [.ref 64, .int (nI j), .int (nI k), .int (nI N), .int 1, .int 0, .int 1] [.int 1] rfl ?_
  refine w_ts (t := 175) rfl (by decide) rfl ?_
  refine w_N 1 176 [.ref 64, .int (nI j), .int (nI k), .int (nI N), .int 1, .int 0, .int 1] [.ref 64] rfl ?_
  refine w_gr 104 rfl rfl rfl (A_k S 64 (by decide)) (A_r S 64 8 (by decide)) ?_
  refine w_gr 105 rfl rfl rfl (A_k S 104 (by decide)) (A_r S 104 2 (by decide)) ?_
  refine w_N 1 184 [.ref 64, .int (nI j), .int (nI k), .int (nI N), .int 1, .int 0, .int 1] [.int 1, .ref 105] rfl ?_
  refine w_ia 1 (v := rnZ T n K A (bgZ (R 10)) N 2) rfl (A_k S 105 (by decide)) (show X.2.2.1 105 = 2 from A_l S 105 (by decide)) rfl (by decide) (by decide) (Z5.2.2.1) ?_
  refine w_ri rfl rfl ?_
  rw [← q.2.2.1]
  exact cq_ P (by omega) hC
theorem x_run11 {d : Nat} {hi : Nat → Nat → Int32} {hl : Nat → Nat → Int64} {X : lm_X} {hi0 : Nat → Nat → Int32} {hl0 : Nat → Nat → Int64} {C n ts : Nat} {T : lm_T} {R : Nat → Int32} {KO : ab_K} {V : ab_V} {tl F : Nat → Int32} (P : cP hi0 hl0 hi hl X C T n R KO V ts tl F) {B D : Nat} (Z : okZ B D T n R KO V ts tl) {j k N : Nat} {K A : Nat → Nat} (hj : j < 8) (hk : k < 8) (hN : N ≤ 60) (hK : ∀ h, h < 2 → 1 ≤ K h ∧ K h ≤ 6 ∧ A h ≤ 99) (e0 : (V j).1 = nI (10 + K 0)) (a0 : (V j).2.2.1 = A 0) (e1 : (V k).1 = nI (10 + K 1)) (a1 : (V k).2.2.1 = A 1) (hz : awk (R 10) = 1) (hC : C + 25 < 2147483648) : lm_w (d + 30) 106 [.ref 64, .int (nI j), .int (nI k), .int (nI N), .int 1] (hi, hl, X) (cQ hi0 hl0 X (C + 25) (.int (rnR T n K A (zrR R) N 21)) T n R KO V ts tl F) := by
  obtain ⟨S, O, H, HR, FO, HV, HT, HF, HK, E0, EL0⟩ := id P
  obtain ⟨hT, hO, hV, hts, htl, hDB, hB0, hKO⟩ := id Z
  have h0 : lkR (V j).1 (V k).1 = 0 := lkR_0.mpr ⟨rk_u (hK 0 (by decide)).1 (hK 0 (by decide)).2.1 e0, rk_u (hK 1 (by decide)).1 (hK 1 (by decide)).2.1 e1⟩
  have q := rn_eq T n K A R N
  refine lm_w_in (Nat.le_of_ble_eq_true rfl) ?_
  show lm_wp (d + 30) 106 0 [.ref 64, .int (nI j), .int (nI k), .int (nI N), .int 1, lm_jk, lm_jk] [] (hi, hl, X) _
  refine w_N 1 1 [.ref 64, .int (nI j), .int (nI k), .int (nI N), .int 1, lm_jk, lm_jk] [.int (nI j)] rfl ?_
  refine w_cc rfl (x_isShelf1 (wi_t (n := 7) (Nat.le_of_lt_succ hj) (by decide))) ?_
  show lm_wp _ 106 4 [.ref 64, .int (nI j), .int (nI k), .int (nI N), .int 1, lm_jk, lm_jk] [.int 1] (hi, hl, X) _
  refine w_if_eq_f (t := 34) rfl rfl (by decide) ?_
  refine w_N 1 8 [.ref 64, .int (nI j), .int (nI k), .int (nI N), .int 1, lm_jk, lm_jk] [.int (nI k)] rfl ?_
  refine w_cc rfl (x_isShelf1 (wi_t (n := 7) (Nat.le_of_lt_succ hk) (by decide))) ?_
  show lm_wp _ 106 11 [.ref 64, .int (nI j), .int (nI k), .int (nI N), .int 1, lm_jk, lm_jk] [.int 1] (hi, hl, X) _
  refine w_if_eq_f (t := 34) rfl rfl (by decide) ?_
  refine w_N 3 18 [.ref 64, .int (nI j), .int (nI k), .int (nI N), .int 1, lm_jk, lm_jk] [.int 60, .int 0, .int (nI N)] rfl ?_
  refine w_cc rfl (x_within1 (wi_t (n := 60) hN (by decide))) ?_
  show lm_wp _ 106 21 [.ref 64, .int (nI j), .int (nI k), .int (nI N), .int 1, lm_jk, lm_jk] [.int 1] (hi, hl, X) _
  refine w_if_eq_f (t := 34) rfl rfl (by decide) ?_
  refine w_N 3 28 [.ref 64, .int (nI j), .int (nI k), .int (nI N), .int 1, lm_jk, lm_jk] [.int 4, .int 0, .int 1] rfl ?_
  refine w_cc rfl (x_within1 (by decide)) ?_
  show lm_wp _ 106 31 [.ref 64, .int (nI j), .int (nI k), .int (nI N), .int 1, lm_jk, lm_jk] [.int 1] (hi, hl, X) _
  refine w_if_ne_t (t := 41) rfl rfl (by decide) ?_
  refine w_N 3 44 [.ref 64, .int (nI j), .int (nI k), .int (nI N), .int 1, lm_jk, lm_jk] [.int (nI k), .int (nI j), .ref 64] rfl ?_
  refine w_cc (w_vst rfl rfl rfl (Nat.le_of_ble_eq_true rfl) (Nat.le_of_ble_eq_true rfl) (A_k S 64 (by decide))) (lm_c_v (x_lackRules P hj hk) h0) ?_
  show lm_wp _ 106 47 [.ref 64, .int (nI j), .int (nI k), .int (nI N), .int 1, lm_jk, lm_jk] [.int 0] (hi, hl, X) _
  refine w_N 2 51 [.ref 64, .int (nI j), .int (nI k), .int (nI N), .int 1, .int 0, lm_jk] [.int 0] rfl ?_
  refine w_if_eq_t (t := 61) rfl rfl (by decide) ?_
  refine w_N 1 62 [.ref 64, .int (nI j), .int (nI k), .int (nI N), .int 1, .int 0, lm_jk] [.ref 64] rfl ?_
  refine w_gr 65 rfl rfl rfl (A_k S 64 (by decide)) (A_r S 64 0 (by decide)) ?_
  refine w_gi (v := R 10) rfl rfl rfl (T_kd (A_T65 S)) (HR.1) ?_
  refine w_cc rfl (c_awkz hz) ?_
  show lm_wp _ 106 71 [.ref 64, .int (nI j), .int (nI k), .int (nI N), .int 1, .int 0, lm_jk] [.int 1] (hi, hl, X) _
  refine w_if_ne_t (t := 78) rfl rfl (by decide) ?_
  refine w_N 3 82 [.ref 64, .int (nI j), .int (nI k), .int (nI N), .int 1, .int 0, .int 0] [.ref 64] rfl ?_
  refine w_gr 104 rfl rfl rfl (A_k S 64 (by decide)) (A_r S 64 8 (by decide)) ?_
  refine w_N 1 86 [.ref 64, .int (nI j), .int (nI k), .int (nI N), .int 1, .int 0, .int 0] [.ref 64, .ref 104] rfl ?_
  refine w_gr 97 rfl rfl rfl (A_k S 64 (by decide)) (A_r S 64 5 (by decide)) ?_
  refine w_N 1 91 [.ref 64, .int (nI j), .int (nI k), .int (nI N), .int 1, .int 0, .int 0] [.int 0, .ref 97, .ref 104] rfl ?_
  refine w_if_eq_t (t := 98) rfl rfl (by decide) ?_
  refine w_N 1 99 [.ref 64, .int (nI j), .int (nI k), .int (nI N), .int 1, .int 0, .int 0] [.int (nI k), .ref 97, .ref 104] rfl ?_
  refine w_aa k (107 + 2 * k) rfl ⟨by rw [A_k S 97 (by decide)]; decide, by rw [A_k S 97 (by decide)]; decide⟩ (show X.2.2.1 97 = 8 from A_l S 97 (by decide)) rfl hk (by decide) (A_sv S hk) ?_
  refine w_N 1 101 [.ref 64, .int (nI j), .int (nI k), .int (nI N), .int 1, .int 0, .int 0] [.ref 64, .ref (107 + 2 * k), .ref 104] rfl ?_
  refine w_gr 97 rfl rfl rfl (A_k S 64 (by decide)) (A_r S 64 5 (by decide)) ?_
  refine w_N 1 106 [.ref 64, .int (nI j), .int (nI k), .int (nI N), .int 1, .int 0, .int 0] [.int 0, .ref 97, .ref (107 + 2 * k), .ref 104] rfl ?_
  refine w_if_eq_t (t := 113) rfl rfl (by decide) ?_
  refine w_N 1 114 [.ref 64, .int (nI j), .int (nI k), .int (nI N), .int 1, .int 0, .int 0] [.int (nI j), .ref 97, .ref (107 + 2 * k), .ref 104] rfl ?_
  refine w_aa j (107 + 2 * j) rfl ⟨by rw [A_k S 97 (by decide)]; decide, by rw [A_k S 97 (by decide)]; decide⟩ (show X.2.2.1 97 = 8 from A_l S 97 (by decide)) rfl hj (by decide) (A_sv S hj) ?_
  refine w_N 1 116 [.ref 64, .int (nI j), .int (nI k), .int (nI N), .int 1, .int 0, .int 0] [.int (nI N), .ref (107 + 2 * j), .ref (107 + 2 * k), .ref 104] rfl ?_
  refine w_ca (w_vst rfl rfl rfl (Nat.le_of_ble_eq_true rfl) (Nat.le_of_ble_eq_true rfl) (A_k S 104 (by decide))) (z_goByRules (d := d + 14) (K := K) (A := A) S hT hO.1 hz (A_Sf S hk) (A_Sf S hj) (by omega) (by omega) hK ((HV k hk).1.trans e1) ((HV k hk).2.2.1.trans (congrArg nI a1)) ((HV j hj).1.trans e0) ((HV j hj).2.2.1.trans (congrArg nI a0)) (by omega) H FO HR.1) ?_
  rintro _ _ ⟨h5x, rfl, rfl, Z5, f5, FO5⟩
  have P := cP_fore P f5 FO5
  obtain ⟨S, O, H, HR, FO, HV, HT, HF, HK, E0, EL0⟩ := id P
  show lm_wp _ 106 119 [.ref 64, .int (nI j), .int (nI k), .int (nI N), .int 1, .int 0, .int 0] [] (h5x, hl, X) _
  refine w_N 1 121 [.ref 64, .int (nI j), .int (nI k), .int (nI N), .int 1, .int 0, .int 0] [.int 1] rfl ?_
  refine w_ts (t := 175) rfl (by decide) rfl ?_
  refine w_N 1 176 [.ref 64, .int (nI j), .int (nI k), .int (nI N), .int 1, .int 0, .int 0] [.ref 64] rfl ?_
  refine w_gr 104 rfl rfl rfl (A_k S 64 (by decide)) (A_r S 64 8 (by decide)) ?_
  refine w_gr 105 rfl rfl rfl (A_k S 104 (by decide)) (A_r S 104 2 (by decide)) ?_
  refine w_N 1 184 [.ref 64, .int (nI j), .int (nI k), .int (nI N), .int 1, .int 0, .int 0] [.int 1, .ref 105] rfl ?_
  refine w_ia 1 (v := rnZ T n K A (bgZ (R 10)) N 2) rfl (A_k S 105 (by decide)) (show X.2.2.1 105 = 2 from A_l S 105 (by decide)) rfl (by decide) (by decide) (Z5.2.2.1) ?_
  refine w_ri rfl rfl ?_
  rw [← q.2.2.1]
  exact cq_ P (by omega) hC
theorem x_run1 {d : Nat} {hi : Nat → Nat → Int32} {hl : Nat → Nat → Int64} {X : lm_X} {hi0 : Nat → Nat → Int32} {hl0 : Nat → Nat → Int64} {C n ts : Nat} {T : lm_T} {R : Nat → Int32} {KO : ab_K} {V : ab_V} {tl F : Nat → Int32} (P : cP hi0 hl0 hi hl X C T n R KO V ts tl F) {B D : Nat} (Z : okZ B D T n R KO V ts tl) {j k N : Nat} {K A : Nat → Nat} (hj : j < 8) (hk : k < 8) (hN : N ≤ 60) (hK : ∀ h, h < 2 → 1 ≤ K h ∧ K h ≤ 6 ∧ A h ≤ 99) (e0 : (V j).1 = nI (10 + K 0)) (a0 : (V j).2.2.1 = A 0) (e1 : (V k).1 = nI (10 + K 1)) (a1 : (V k).2.2.1 = A 1) (hC : C + 25 < 2147483648) : lm_w (d + 30) 106 [.ref 64, .int (nI j), .int (nI k), .int (nI N), .int 1] (hi, hl, X) (cQ hi0 hl0 X (C + 25) (.int (rnR T n K A (zrR R) N 21)) T n R KO V ts tl F) := by
  have h := awk_lt (R 10)
  rcases (by omega : awk (R 10) = 0 ∨ awk (R 10) = 1) with h | h
  · exact x_run10 P Z hj hk hN hK e0 a0 e1 a1 h hC
  · exact x_run11 P Z hj hk hN hK e0 a0 e1 a1 h hC
theorem y_run1 {d : Nat} {hi : Nat → Nat → Int32} {hl : Nat → Nat → Int64} {X : lm_X} {hi0 : Nat → Nat → Int32} {hl0 : Nat → Nat → Int64} {X0 : lm_X} {n ts : Nat} {T : lm_T} {R : Nat → Int32} {KO : ab_K} {V : ab_V} {tl F : Nat → Int32} (P : mP hi0 hl0 X0 hi hl X T n R KO V ts tl F) {B D : Nat} (Z : okZ B D T n R KO V ts tl) {j k N : Nat} {K A : Nat → Nat} (hj : j < 8) (hk : k < 8) (hN : N ≤ 60) (hK : ∀ h, h < 2 → 1 ≤ K h ∧ K h ≤ 6 ∧ A h ≤ 99) (e0 : (V j).1 = nI (10 + K 0)) (a0 : (V j).2.2.1 = A 0) (e1 : (V k).1 = nI (10 + K 1)) (a1 : (V k).2.2.1 = A 1) : lm_w (d + 30) 188 [.ref 123, .int (nI j), .int (nI k), .int (nI N), .int 1] (hi, hl, X) (mQ hi0 hl0 X0 (.int (rnR T n K A (zrR R) N 21)) T n R KO V ts tl F) := by
  obtain ⟨SR, O, H, HR, HV, HT, HF, HK, E0, EL0, EX0⟩ := id P
  have S := SR.1
  obtain ⟨hT, hO, hV, hts, htl, hDB, hB0, hKO⟩ := id Z
  have h0 : lkR (V j).1 (V k).1 = 0 := lkR_0.mpr ⟨rk_u (hK 0 (by decide)).1 (hK 0 (by decide)).2.1 e0, rk_u (hK 1 (by decide)).1 (hK 1 (by decide)).2.1 e1⟩
  refine lm_w_in (Nat.le_of_ble_eq_true rfl) ?_
  show lm_wp (d + 30) 188 0 [.ref 123, .int (nI j), .int (nI k), .int (nI N), .int 1, lm_jk] [] (hi, hl, X) _
  refine w_N 4 6 [.ref 123, .int (nI j), .int (nI k), .int (nI N), .int 1, lm_jk] [.long 7, .long 0, .long ((nI j).toInt64)] rfl ?_
  refine w_cc rfl (lm_c_1 (m_in (x := nI j) (lo := 0) (up := 7) rfl (by decide) (by decide)) (wi_t (n := 7) (Nat.le_of_lt_succ hj) (by decide))) ?_
  show lm_wp _ 188 9 [.ref 123, .int (nI j), .int (nI k), .int (nI N), .int 1, lm_jk] [.int 1] (hi, hl, X) _
  refine w_if_eq_f (t := 49) rfl rfl (by decide) ?_
  refine w_N 4 18 [.ref 123, .int (nI j), .int (nI k), .int (nI N), .int 1, lm_jk] [.long 7, .long 0, .long ((nI k).toInt64)] rfl ?_
  refine w_cc rfl (lm_c_1 (m_in (x := nI k) (lo := 0) (up := 7) rfl (by decide) (by decide)) (wi_t (n := 7) (Nat.le_of_lt_succ hk) (by decide))) ?_
  show lm_wp _ 188 21 [.ref 123, .int (nI j), .int (nI k), .int (nI N), .int 1, lm_jk] [.int 1] (hi, hl, X) _
  refine w_if_eq_f (t := 49) rfl rfl (by decide) ?_
  refine w_N 4 30 [.ref 123, .int (nI j), .int (nI k), .int (nI N), .int 1, lm_jk] [.long 60, .long 0, .long ((nI N).toInt64)] rfl ?_
  refine w_cc rfl (lm_c_1 (m_in (x := nI N) (lo := 0) (up := 60) rfl (by decide) (by decide)) (wi_t (n := 60) hN (by decide))) ?_
  show lm_wp _ 188 33 [.ref 123, .int (nI j), .int (nI k), .int (nI N), .int 1, lm_jk] [.int 1] (hi, hl, X) _
  refine w_if_eq_f (t := 49) rfl rfl (by decide) ?_
  refine w_N 4 43 [.ref 123, .int (nI j), .int (nI k), .int (nI N), .int 1, lm_jk] [.long 4, .long 0, .long 1] rfl ?_
  refine w_cc rfl (lm_c_1 (m_in (x := 1) (lo := 0) (up := 4) (by decide) (by decide) (by decide)) (by decide)) ?_
  show lm_wp _ 188 46 [.ref 123, .int (nI j), .int (nI k), .int (nI N), .int 1, lm_jk] [.int 1] (hi, hl, X) _
  refine w_if_ne_t (t := 59) rfl rfl (by decide) ?_
  refine w_N 3 62 [.ref 123, .int (nI j), .int (nI k), .int (nI N), .int 1, lm_jk] [.int (nI k), .int (nI j), .ref 123] rfl ?_
  refine w_cc (w_vst rfl rfl rfl (Nat.le_of_ble_eq_true rfl) (Nat.le_of_ble_eq_true rfl) (M_kd S)) (m_noRules_0 P hj hk h0) ?_
  show lm_wp _ 188 65 [.ref 123, .int (nI j), .int (nI k), .int (nI N), .int 1, lm_jk] [.int 0] (hi, hl, X) _
  refine w_N 2 69 [.ref 123, .int (nI j), .int (nI k), .int (nI N), .int 1, .int 0] [.int 0] rfl ?_
  refine w_if_eq_t (t := 78) rfl rfl (by decide) ?_
  refine w_N 1 79 [.ref 123, .int (nI j), .int (nI k), .int (nI N), .int 1, .int 0] [.ref 123] rfl ?_
  refine w_ca (w_vst rfl rfl rfl (Nat.le_of_ble_eq_true rfl) (Nat.le_of_ble_eq_true rfl) (M_kd S)) (m_fresh (d := d + 27) SR H HR hO.2.2.2.2.1) ?_
  rintro _ _ ⟨h5x, hl5, X5, rfl, rfl, S5, S7, n23, SR5, H7, R7, f7, fl7, fx7⟩
  have P := mP_new P f7 fl7 fx7 SR5
  obtain ⟨SR, O, H, HR, HV, HT, HF, HK, E0, EL0, EX0⟩ := id P
  have S := SR.1
  show lm_wp _ 188 82 [.ref 123, .int (nI j), .int (nI k), .int (nI N), .int 1, .int 0] [.ref 700] (h5x, hl5, X5) _
  refine w_N 1 83 [.ref 123, .int (nI j), .int (nI k), .int (nI N), .int 1, .int 0] [.ref 123, .ref 700] rfl ?_
  refine w_gr 137 rfl rfl rfl (M_kd S) (M_r S (k := 5) (o := 14) rfl) ?_
  refine w_N 1 87 [.ref 123, .int (nI j), .int (nI k), .int (nI N), .int 1, .int 0] [.int (nI j), .ref 137, .ref 700] rfl ?_
  refine w_ia j (v := nI (K 0)) rfl (show X5.2.1 (137) = 1 from M_k S 14 (by decide)) (show X5.2.2.1 (137) = 8 from M_l S 14 (by decide)) rfl hj (by decide) (((HV j hj).2.2.2.1 (rk_u (hK 0 (by decide)).1 (hK 0 (by decide)).2.1 e0)).trans (rk_e e0)) ?_
  refine w_N 1 89 [.ref 123, .int (nI j), .int (nI k), .int (nI N), .int 1, .int 0] [.ref 123, .int (nI (K 0)), .ref 700] rfl ?_
  refine w_gr 138 rfl rfl rfl (M_kd S) (M_r S (k := 6) (o := 15) rfl) ?_
  refine w_N 1 93 [.ref 123, .int (nI j), .int (nI k), .int (nI N), .int 1, .int 0] [.int (nI j), .ref 138, .int (nI (K 0)), .ref 700] rfl ?_
  refine w_ia j (v := nI (A 0)) rfl (show X5.2.1 (138) = 1 from M_k S 15 (by decide)) (show X5.2.2.1 (138) = 8 from M_l S 15 (by decide)) rfl hj (by decide) ((HV j hj).2.2.2.2.1.trans (congrArg nI a0)) ?_
  refine w_N 1 95 [.ref 123, .int (nI j), .int (nI k), .int (nI N), .int 1, .int 0] [.ref 123, .int (nI (A 0)), .int (nI (K 0)), .ref 700] rfl ?_
  refine w_gr 137 rfl rfl rfl (M_kd S) (M_r S (k := 5) (o := 14) rfl) ?_
  refine w_N 1 99 [.ref 123, .int (nI j), .int (nI k), .int (nI N), .int 1, .int 0] [.int (nI k), .ref 137, .int (nI (A 0)), .int (nI (K 0)), .ref 700] rfl ?_
  refine w_ia k (v := nI (K 1)) rfl (show X5.2.1 (137) = 1 from M_k S 14 (by decide)) (show X5.2.2.1 (137) = 8 from M_l S 14 (by decide)) rfl hk (by decide) (((HV k hk).2.2.2.1 (rk_u (hK 1 (by decide)).1 (hK 1 (by decide)).2.1 e1)).trans (rk_e e1)) ?_
  refine w_N 1 101 [.ref 123, .int (nI j), .int (nI k), .int (nI N), .int 1, .int 0] [.ref 123, .int (nI (K 1)), .int (nI (A 0)), .int (nI (K 0)), .ref 700] rfl ?_
  refine w_gr 138 rfl rfl rfl (M_kd S) (M_r S (k := 6) (o := 15) rfl) ?_
  refine w_N 1 105 [.ref 123, .int (nI j), .int (nI k), .int (nI N), .int 1, .int 0] [.int (nI k), .ref 138, .int (nI (K 1)), .int (nI (A 0)), .int (nI (K 0)), .ref 700] rfl ?_
  refine w_ia k (v := nI (A 1)) rfl (show X5.2.1 (138) = 1 from M_k S 15 (by decide)) (show X5.2.2.1 (138) = 8 from M_l S 15 (by decide)) rfl hk (by decide) ((HV k hk).2.2.2.2.1.trans (congrArg nI a1)) ?_
  refine w_N 1 107 [.ref 123, .int (nI j), .int (nI k), .int (nI N), .int 1, .int 0] [.int (nI N), .int (nI (A 1)), .int (nI (K 1)), .int (nI (A 0)), .int (nI (K 0)), .ref 700] rfl ?_
  refine w_ca (w_vst rfl rfl rfl (Nat.le_of_ble_eq_true rfl) (Nat.le_of_ble_eq_true rfl) (M_kd S7)) (m_runs (d := d + 21) (K := K) (A := A) S7 hT (okR_zr hO) (by omega) (by omega) hK H7 R7) ?_
  rintro _ _ ⟨h6x, rfl, rfl, H8, R8, Q8, B8, L8⟩
  have P := mP_tried P (fun a ha => Q8.1 a (by omega))
  obtain ⟨SR, O, H, HR, HV, HT, HF, HK, E0, EL0, EX0⟩ := id P
  have S := SR.1
  show lm_wp _ 188 110 [.ref 123, .int (nI j), .int (nI k), .int (nI N), .int 1, .int 0] [] (h6x, hl5, X5) _
  refine w_N 1 112 [.ref 123, .int (nI j), .int (nI k), .int (nI N), .int 1, .int 0] [.int 1] rfl ?_
  refine w_ts (t := 164) rfl (by decide) rfl ?_
  refine w_N 1 165 [.ref 123, .int (nI j), .int (nI k), .int (nI N), .int 1, .int 0] [.ref 123] rfl ?_
  refine w_gr 700 rfl rfl rfl (M_kd S) n23 ?_
  refine w_gr 733 rfl rfl rfl (M_kd S7) (M_r S7 (k := 17) (o := 33) rfl) ?_
  refine w_N 1 173 [.ref 123, .int (nI j), .int (nI k), .int (nI N), .int 1, .int 0] [.int 1, .ref 733] rfl ?_
  refine w_ia 1 (v := rnR T n K A (zrR R) N 21) rfl (show X5.2.1 (733) = 1 from M_k S7 33 (by decide)) (show X5.2.2.1 (733) = 2 from M_l S7 33 (by decide)) rfl (by decide) (by decide) (R8.2.2.2.2.2.2.2) ?_
  refine w_ri rfl rfl ?_
  exact mq_ P
theorem x_run20 {d : Nat} {hi : Nat → Nat → Int32} {hl : Nat → Nat → Int64} {X : lm_X} {hi0 : Nat → Nat → Int32} {hl0 : Nat → Nat → Int64} {C n ts : Nat} {T : lm_T} {R : Nat → Int32} {KO : ab_K} {V : ab_V} {tl F : Nat → Int32} (P : cP hi0 hl0 hi hl X C T n R KO V ts tl F) {B D : Nat} (Z : okZ B D T n R KO V ts tl) {j k N : Nat} {K A : Nat → Nat} (hj : j < 8) (hk : k < 8) (hN : N ≤ 60) (hK : ∀ h, h < 2 → 1 ≤ K h ∧ K h ≤ 6 ∧ A h ≤ 99) (e0 : (V j).1 = nI (10 + K 0)) (a0 : (V j).2.2.1 = A 0) (e1 : (V k).1 = nI (10 + K 1)) (a1 : (V k).2.2.1 = A 1) (hz : awk (R 10) = 0) (hC : C + 25 < 2147483648) : lm_w (d + 30) 106 [.ref 64, .int (nI j), .int (nI k), .int (nI N), .int 2] (hi, hl, X) (cQ hi0 hl0 X (C + 25) (.int (s_marks (rnR T n K A (zrR R) N 10))) T n R KO V ts tl F) := by
  obtain ⟨S, O, H, HR, FO, HV, HT, HF, HK, E0, EL0⟩ := id P
  obtain ⟨hT, hO, hV, hts, htl, hDB, hB0, hKO⟩ := id Z
  have h0 : lkR (V j).1 (V k).1 = 0 := lkR_0.mpr ⟨rk_u (hK 0 (by decide)).1 (hK 0 (by decide)).2.1 e0, rk_u (hK 1 (by decide)).1 (hK 1 (by decide)).2.1 e1⟩
  have q := rn_eq T n K A R N
  refine lm_w_in (Nat.le_of_ble_eq_true rfl) ?_
  show lm_wp (d + 30) 106 0 [.ref 64, .int (nI j), .int (nI k), .int (nI N), .int 2, lm_jk, lm_jk] [] (hi, hl, X) _
  refine w_N 1 1 [.ref 64, .int (nI j), .int (nI k), .int (nI N), .int 2, lm_jk, lm_jk] [.int (nI j)] rfl ?_
  refine w_cc rfl (x_isShelf1 (wi_t (n := 7) (Nat.le_of_lt_succ hj) (by decide))) ?_
  show lm_wp _ 106 4 [.ref 64, .int (nI j), .int (nI k), .int (nI N), .int 2, lm_jk, lm_jk] [.int 1] (hi, hl, X) _
  refine w_if_eq_f (t := 34) rfl rfl (by decide) ?_
  refine w_N 1 8 [.ref 64, .int (nI j), .int (nI k), .int (nI N), .int 2, lm_jk, lm_jk] [.int (nI k)] rfl ?_
  refine w_cc rfl (x_isShelf1 (wi_t (n := 7) (Nat.le_of_lt_succ hk) (by decide))) ?_
  show lm_wp _ 106 11 [.ref 64, .int (nI j), .int (nI k), .int (nI N), .int 2, lm_jk, lm_jk] [.int 1] (hi, hl, X) _
  refine w_if_eq_f (t := 34) rfl rfl (by decide) ?_
  refine w_N 3 18 [.ref 64, .int (nI j), .int (nI k), .int (nI N), .int 2, lm_jk, lm_jk] [.int 60, .int 0, .int (nI N)] rfl ?_
  refine w_cc rfl (x_within1 (wi_t (n := 60) hN (by decide))) ?_
  show lm_wp _ 106 21 [.ref 64, .int (nI j), .int (nI k), .int (nI N), .int 2, lm_jk, lm_jk] [.int 1] (hi, hl, X) _
  refine w_if_eq_f (t := 34) rfl rfl (by decide) ?_
  refine w_N 3 28 [.ref 64, .int (nI j), .int (nI k), .int (nI N), .int 2, lm_jk, lm_jk] [.int 4, .int 0, .int 2] rfl ?_
  refine w_cc rfl (x_within1 (by decide)) ?_
  show lm_wp _ 106 31 [.ref 64, .int (nI j), .int (nI k), .int (nI N), .int 2, lm_jk, lm_jk] [.int 1] (hi, hl, X) _
  refine w_if_ne_t (t := 41) rfl rfl (by decide) ?_
  refine w_N 3 44 [.ref 64, .int (nI j), .int (nI k), .int (nI N), .int 2, lm_jk, lm_jk] [.int (nI k), .int (nI j), .ref 64] rfl ?_
  refine w_cc (w_vst rfl rfl rfl (Nat.le_of_ble_eq_true rfl) (Nat.le_of_ble_eq_true rfl) (A_k S 64 (by decide))) (lm_c_v (x_lackRules P hj hk) h0) ?_
  show lm_wp _ 106 47 [.ref 64, .int (nI j), .int (nI k), .int (nI N), .int 2, lm_jk, lm_jk] [.int 0] (hi, hl, X) _
  refine w_N 2 51 [.ref 64, .int (nI j), .int (nI k), .int (nI N), .int 2, .int 0, lm_jk] [.int 0] rfl ?_
  refine w_if_eq_t (t := 61) rfl rfl (by decide) ?_
  refine w_N 1 62 [.ref 64, .int (nI j), .int (nI k), .int (nI N), .int 2, .int 0, lm_jk] [.ref 64] rfl ?_
  refine w_gr 65 rfl rfl rfl (A_k S 64 (by decide)) (A_r S 64 0 (by decide)) ?_
  refine w_gi (v := R 10) rfl rfl rfl (T_kd (A_T65 S)) (HR.1) ?_
  refine w_cc rfl (c_awkz hz) ?_
  show lm_wp _ 106 71 [.ref 64, .int (nI j), .int (nI k), .int (nI N), .int 2, .int 0, lm_jk] [.int 0] (hi, hl, X) _
  refine w_if_ne_f (t := 78) rfl rfl (by decide) ?_
  refine w_N 4 82 [.ref 64, .int (nI j), .int (nI k), .int (nI N), .int 2, .int 0, .int 1] [.ref 64] rfl ?_
  refine w_gr 104 rfl rfl rfl (A_k S 64 (by decide)) (A_r S 64 8 (by decide)) ?_
  refine w_N 1 86 [.ref 64, .int (nI j), .int (nI k), .int (nI N), .int 2, .int 0, .int 1] [.ref 64, .ref 104] rfl ?_
  refine w_gr 97 rfl rfl rfl (A_k S 64 (by decide)) (A_r S 64 5 (by decide)) ?_
  refine w_N 1 91 [.ref 64, .int (nI j), .int (nI k), .int (nI N), .int 2, .int 0, .int 1] [.int 1, .ref 97, .ref 104] rfl ?_
  refine w_if_eq_f (t := 98) rfl rfl (by decide) ?_
  refine w_N 2 99 [.ref 64, .int (nI j), .int (nI k), .int (nI N), .int 2, .int 0, .int 1] [.int (nI j), .ref 97, .ref 104] rfl ?_
  refine w_aa j (107 + 2 * j) rfl ⟨by rw [A_k S 97 (by decide)]; decide, by rw [A_k S 97 (by decide)]; decide⟩ (show X.2.2.1 97 = 8 from A_l S 97 (by decide)) rfl hj (by decide) (A_sv S hj) ?_
  refine w_N 1 101 [.ref 64, .int (nI j), .int (nI k), .int (nI N), .int 2, .int 0, .int 1] [.ref 64, .ref (107 + 2 * j), .ref 104] rfl ?_
  refine w_gr 97 rfl rfl rfl (A_k S 64 (by decide)) (A_r S 64 5 (by decide)) ?_
  refine w_N 1 106 [.ref 64, .int (nI j), .int (nI k), .int (nI N), .int 2, .int 0, .int 1] [.int 1, .ref 97, .ref (107 + 2 * j), .ref 104] rfl ?_
  refine w_if_eq_f (t := 113) rfl rfl (by decide) ?_
  refine w_N 2 114 [.ref 64, .int (nI j), .int (nI k), .int (nI N), .int 2, .int 0, .int 1] [.int (nI k), .ref 97, .ref (107 + 2 * j), .ref 104] rfl ?_
  refine w_aa k (107 + 2 * k) rfl ⟨by rw [A_k S 97 (by decide)]; decide, by rw [A_k S 97 (by decide)]; decide⟩ (show X.2.2.1 97 = 8 from A_l S 97 (by decide)) rfl hk (by decide) (A_sv S hk) ?_
  refine w_N 1 116 [.ref 64, .int (nI j), .int (nI k), .int (nI N), .int 2, .int 0, .int 1] [.int (nI N), .ref (107 + 2 * k), .ref (107 + 2 * j), .ref 104] rfl ?_
  refine w_ca (w_vst rfl rfl rfl (Nat.le_of_ble_eq_true rfl) (Nat.le_of_ble_eq_true rfl) (A_k S 104 (by decide))) (z_goByRules (d := d + 14) (K := K) (A := A) S hT hO.1 hz (A_Sf S hj) (A_Sf S hk) (by omega) (by omega) hK ((HV j hj).1.trans e0) ((HV j hj).2.2.1.trans (congrArg nI a0)) ((HV k hk).1.trans e1) ((HV k hk).2.2.1.trans (congrArg nI a1)) (by omega) H FO HR.1) ?_
  rintro _ _ ⟨h5x, rfl, rfl, Z5, f5, FO5⟩
  have P := cP_fore P f5 FO5
  obtain ⟨S, O, H, HR, FO, HV, HT, HF, HK, E0, EL0⟩ := id P
  show lm_wp _ 106 119 [.ref 64, .int (nI j), .int (nI k), .int (nI N), .int 2, .int 0, .int 1] [] (h5x, hl, X) _
  refine w_N 1 121 [.ref 64, .int (nI j), .int (nI k), .int (nI N), .int 2, .int 0, .int 1] [.int 2] rfl ?_
  refine w_ts (t := 148) rfl (by decide) rfl ?_
  refine w_N 1 149 [.ref 64, .int (nI j), .int (nI k), .int (nI N), .int 2, .int 0, .int 1] [.ref 64] rfl ?_
  refine w_gr 104 rfl rfl rfl (A_k S 64 (by decide)) (A_r S 64 8 (by decide)) ?_
  refine w_gi (v := rnZ T n K A (bgZ (R 10)) N 0) rfl rfl rfl (A_k S 104 (by decide)) (Z5.1) ?_
  refine w_cc rfl c_X4_marksIn ?_
  show lm_wp _ 106 158 [.ref 64, .int (nI j), .int (nI k), .int (nI N), .int 2, .int 0, .int 1] [.int (s_marks (rnZ T n K A (bgZ (R 10)) N 0))] (h5x, hl, X) _
  refine w_ri rfl rfl ?_
  rw [← q.1]
  exact cq_ P (by omega) hC
theorem x_run21 {d : Nat} {hi : Nat → Nat → Int32} {hl : Nat → Nat → Int64} {X : lm_X} {hi0 : Nat → Nat → Int32} {hl0 : Nat → Nat → Int64} {C n ts : Nat} {T : lm_T} {R : Nat → Int32} {KO : ab_K} {V : ab_V} {tl F : Nat → Int32} (P : cP hi0 hl0 hi hl X C T n R KO V ts tl F) {B D : Nat} (Z : okZ B D T n R KO V ts tl) {j k N : Nat} {K A : Nat → Nat} (hj : j < 8) (hk : k < 8) (hN : N ≤ 60) (hK : ∀ h, h < 2 → 1 ≤ K h ∧ K h ≤ 6 ∧ A h ≤ 99) (e0 : (V j).1 = nI (10 + K 0)) (a0 : (V j).2.2.1 = A 0) (e1 : (V k).1 = nI (10 + K 1)) (a1 : (V k).2.2.1 = A 1) (hz : awk (R 10) = 1) (hC : C + 25 < 2147483648) : lm_w (d + 30) 106 [.ref 64, .int (nI j), .int (nI k), .int (nI N), .int 2] (hi, hl, X) (cQ hi0 hl0 X (C + 25) (.int (s_marks (rnR T n K A (zrR R) N 10))) T n R KO V ts tl F) := by
  obtain ⟨S, O, H, HR, FO, HV, HT, HF, HK, E0, EL0⟩ := id P
  obtain ⟨hT, hO, hV, hts, htl, hDB, hB0, hKO⟩ := id Z
  have h0 : lkR (V j).1 (V k).1 = 0 := lkR_0.mpr ⟨rk_u (hK 0 (by decide)).1 (hK 0 (by decide)).2.1 e0, rk_u (hK 1 (by decide)).1 (hK 1 (by decide)).2.1 e1⟩
  have q := rn_eq T n K A R N
  refine lm_w_in (Nat.le_of_ble_eq_true rfl) ?_
  show lm_wp (d + 30) 106 0 [.ref 64, .int (nI j), .int (nI k), .int (nI N), .int 2, lm_jk, lm_jk] [] (hi, hl, X) _
  refine w_N 1 1 [.ref 64, .int (nI j), .int (nI k), .int (nI N), .int 2, lm_jk, lm_jk] [.int (nI j)] rfl ?_
  refine w_cc rfl (x_isShelf1 (wi_t (n := 7) (Nat.le_of_lt_succ hj) (by decide))) ?_
  show lm_wp _ 106 4 [.ref 64, .int (nI j), .int (nI k), .int (nI N), .int 2, lm_jk, lm_jk] [.int 1] (hi, hl, X) _
  refine w_if_eq_f (t := 34) rfl rfl (by decide) ?_
  refine w_N 1 8 [.ref 64, .int (nI j), .int (nI k), .int (nI N), .int 2, lm_jk, lm_jk] [.int (nI k)] rfl ?_
  refine w_cc rfl (x_isShelf1 (wi_t (n := 7) (Nat.le_of_lt_succ hk) (by decide))) ?_
  show lm_wp _ 106 11 [.ref 64, .int (nI j), .int (nI k), .int (nI N), .int 2, lm_jk, lm_jk] [.int 1] (hi, hl, X) _
  refine w_if_eq_f (t := 34) rfl rfl (by decide) ?_
  refine w_N 3 18 [.ref 64, .int (nI j), .int (nI k), .int (nI N), .int 2, lm_jk, lm_jk] [.int 60, .int 0, .int (nI N)] rfl ?_
  refine w_cc rfl (x_within1 (wi_t (n := 60) hN (by decide))) ?_
  show lm_wp _ 106 21 [.ref 64, .int (nI j), .int (nI k), .int (nI N), .int 2, lm_jk, lm_jk] [.int 1] (hi, hl, X) _
  refine w_if_eq_f (t := 34) rfl rfl (by decide) ?_
  refine w_N 3 28 [.ref 64, .int (nI j), .int (nI k), .int (nI N), .int 2, lm_jk, lm_jk] [.int 4, .int 0, .int 2] rfl ?_
  refine w_cc rfl (x_within1 (by decide)) ?_
  show lm_wp _ 106 31 [.ref 64, .int (nI j), .int (nI k), .int (nI N), .int 2, lm_jk, lm_jk] [.int 1] (hi, hl, X) _
  refine w_if_ne_t (t := 41) rfl rfl (by decide) ?_
  refine w_N 3 44 [.ref 64, .int (nI j), .int (nI k), .int (nI N), .int 2, lm_jk, lm_jk] [.int (nI k), .int (nI j), .ref 64] rfl ?_
  refine w_cc (w_vst rfl rfl rfl (Nat.le_of_ble_eq_true rfl) (Nat.le_of_ble_eq_true rfl) (A_k S 64 (by decide))) (lm_c_v (x_lackRules P hj hk) h0) ?_
  show lm_wp _ 106 47 [.ref 64, .int (nI j), .int (nI k), .int (nI N), .int 2, lm_jk, lm_jk] [.int 0] (hi, hl, X) _
  refine w_N 2 51 [.ref 64, .int (nI j), .int (nI k), .int (nI N), .int 2, .int 0, lm_jk] [.int 0] rfl ?_
  refine w_if_eq_t (t := 61) rfl rfl (by decide) ?_
  refine w_N 1 62 [.ref 64, .int (nI j), .int (nI k), .int (nI N), .int 2, .int 0, lm_jk] [.ref 64] rfl ?_
  refine w_gr 65 rfl rfl rfl (A_k S 64 (by decide)) (A_r S 64 0 (by decide)) ?_
  refine w_gi (v := R 10) rfl rfl rfl (T_kd (A_T65 S)) (HR.1) ?_
  refine w_cc rfl (c_awkz hz) ?_
  show lm_wp _ 106 71 [.ref 64, .int (nI j), .int (nI k), .int (nI N), .int 2, .int 0, lm_jk] [.int 1] (hi, hl, X) _
  refine w_if_ne_t (t := 78) rfl rfl (by decide) ?_
  refine w_N 3 82 [.ref 64, .int (nI j), .int (nI k), .int (nI N), .int 2, .int 0, .int 0] [.ref 64] rfl ?_
  refine w_gr 104 rfl rfl rfl (A_k S 64 (by decide)) (A_r S 64 8 (by decide)) ?_
  refine w_N 1 86 [.ref 64, .int (nI j), .int (nI k), .int (nI N), .int 2, .int 0, .int 0] [.ref 64, .ref 104] rfl ?_
  refine w_gr 97 rfl rfl rfl (A_k S 64 (by decide)) (A_r S 64 5 (by decide)) ?_
  refine w_N 1 91 [.ref 64, .int (nI j), .int (nI k), .int (nI N), .int 2, .int 0, .int 0] [.int 0, .ref 97, .ref 104] rfl ?_
  refine w_if_eq_t (t := 98) rfl rfl (by decide) ?_
  refine w_N 1 99 [.ref 64, .int (nI j), .int (nI k), .int (nI N), .int 2, .int 0, .int 0] [.int (nI k), .ref 97, .ref 104] rfl ?_
  refine w_aa k (107 + 2 * k) rfl ⟨by rw [A_k S 97 (by decide)]; decide, by rw [A_k S 97 (by decide)]; decide⟩ (show X.2.2.1 97 = 8 from A_l S 97 (by decide)) rfl hk (by decide) (A_sv S hk) ?_
  refine w_N 1 101 [.ref 64, .int (nI j), .int (nI k), .int (nI N), .int 2, .int 0, .int 0] [.ref 64, .ref (107 + 2 * k), .ref 104] rfl ?_
  refine w_gr 97 rfl rfl rfl (A_k S 64 (by decide)) (A_r S 64 5 (by decide)) ?_
  refine w_N 1 106 [.ref 64, .int (nI j), .int (nI k), .int (nI N), .int 2, .int 0, .int 0] [.int 0, .ref 97, .ref (107 + 2 * k), .ref 104] rfl ?_
  refine w_if_eq_t (t := 113) rfl rfl (by decide) ?_
  refine w_N 1 114 [.ref 64, .int (nI j), .int (nI k), .int (nI N), .int 2, .int 0, .int 0] [.int (nI j), .ref 97, .ref (107 + 2 * k), .ref 104] rfl ?_
  refine w_aa j (107 + 2 * j) rfl ⟨by rw [A_k S 97 (by decide)]; decide, by rw [A_k S 97 (by decide)]; decide⟩ (show X.2.2.1 97 = 8 from A_l S 97 (by decide)) rfl hj (by decide) (A_sv S hj) ?_
  refine w_N 1 116 [.ref 64, .int (nI j), .int (nI k), .int (nI N), .int 2, .int 0, .int 0] [.int (nI N), .ref (107 + 2 * j), .ref (107 + 2 * k), .ref 104] rfl ?_
  refine w_ca (w_vst rfl rfl rfl (Nat.le_of_ble_eq_true rfl) (Nat.le_of_ble_eq_true rfl) (A_k S 104 (by decide))) (z_goByRules (d := d + 14) (K := K) (A := A) S hT hO.1 hz (A_Sf S hk) (A_Sf S hj) (by omega) (by omega) hK ((HV k hk).1.trans e1) ((HV k hk).2.2.1.trans (congrArg nI a1)) ((HV j hj).1.trans e0) ((HV j hj).2.2.1.trans (congrArg nI a0)) (by omega) H FO HR.1) ?_
  rintro _ _ ⟨h5x, rfl, rfl, Z5, f5, FO5⟩
  have P := cP_fore P f5 FO5
  obtain ⟨S, O, H, HR, FO, HV, HT, HF, HK, E0, EL0⟩ := id P
  show lm_wp _ 106 119 [.ref 64, .int (nI j), .int (nI k), .int (nI N), .int 2, .int 0, .int 0] [] (h5x, hl, X) _
  refine w_N 1 121 [.ref 64, .int (nI j), .int (nI k), .int (nI N), .int 2, .int 0, .int 0] [.int 2] rfl ?_
  refine w_ts (t := 148) rfl (by decide) rfl ?_
  refine w_N 1 149 [.ref 64, .int (nI j), .int (nI k), .int (nI N), .int 2, .int 0, .int 0] [.ref 64] rfl ?_
  refine w_gr 104 rfl rfl rfl (A_k S 64 (by decide)) (A_r S 64 8 (by decide)) ?_
  refine w_gi (v := rnZ T n K A (bgZ (R 10)) N 0) rfl rfl rfl (A_k S 104 (by decide)) (Z5.1) ?_
  refine w_cc rfl c_X4_marksIn ?_
  show lm_wp _ 106 158 [.ref 64, .int (nI j), .int (nI k), .int (nI N), .int 2, .int 0, .int 0] [.int (s_marks (rnZ T n K A (bgZ (R 10)) N 0))] (h5x, hl, X) _
  refine w_ri rfl rfl ?_
  rw [← q.1]
  exact cq_ P (by omega) hC
theorem x_run2 {d : Nat} {hi : Nat → Nat → Int32} {hl : Nat → Nat → Int64} {X : lm_X} {hi0 : Nat → Nat → Int32} {hl0 : Nat → Nat → Int64} {C n ts : Nat} {T : lm_T} {R : Nat → Int32} {KO : ab_K} {V : ab_V} {tl F : Nat → Int32} (P : cP hi0 hl0 hi hl X C T n R KO V ts tl F) {B D : Nat} (Z : okZ B D T n R KO V ts tl) {j k N : Nat} {K A : Nat → Nat} (hj : j < 8) (hk : k < 8) (hN : N ≤ 60) (hK : ∀ h, h < 2 → 1 ≤ K h ∧ K h ≤ 6 ∧ A h ≤ 99) (e0 : (V j).1 = nI (10 + K 0)) (a0 : (V j).2.2.1 = A 0) (e1 : (V k).1 = nI (10 + K 1)) (a1 : (V k).2.2.1 = A 1) (hC : C + 25 < 2147483648) : lm_w (d + 30) 106 [.ref 64, .int (nI j), .int (nI k), .int (nI N), .int 2] (hi, hl, X) (cQ hi0 hl0 X (C + 25) (.int (s_marks (rnR T n K A (zrR R) N 10))) T n R KO V ts tl F) := by
  have h := awk_lt (R 10)
  rcases (by omega : awk (R 10) = 0 ∨ awk (R 10) = 1) with h | h
  · exact x_run20 P Z hj hk hN hK e0 a0 e1 a1 h hC
  · exact x_run21 P Z hj hk hN hK e0 a0 e1 a1 h hC
theorem y_run2 {d : Nat} {hi : Nat → Nat → Int32} {hl : Nat → Nat → Int64} {X : lm_X} {hi0 : Nat → Nat → Int32} {hl0 : Nat → Nat → Int64} {X0 : lm_X} {n ts : Nat} {T : lm_T} {R : Nat → Int32} {KO : ab_K} {V : ab_V} {tl F : Nat → Int32} (P : mP hi0 hl0 X0 hi hl X T n R KO V ts tl F) {B D : Nat} (Z : okZ B D T n R KO V ts tl) {j k N : Nat} {K A : Nat → Nat} (hj : j < 8) (hk : k < 8) (hN : N ≤ 60) (hK : ∀ h, h < 2 → 1 ≤ K h ∧ K h ≤ 6 ∧ A h ≤ 99) (e0 : (V j).1 = nI (10 + K 0)) (a0 : (V j).2.2.1 = A 0) (e1 : (V k).1 = nI (10 + K 1)) (a1 : (V k).2.2.1 = A 1) : lm_w (d + 30) 188 [.ref 123, .int (nI j), .int (nI k), .int (nI N), .int 2] (hi, hl, X) (mQ hi0 hl0 X0 (.int (s_marks (rnR T n K A (zrR R) N 10))) T n R KO V ts tl F) := by
  obtain ⟨SR, O, H, HR, HV, HT, HF, HK, E0, EL0, EX0⟩ := id P
  have S := SR.1
  obtain ⟨hT, hO, hV, hts, htl, hDB, hB0, hKO⟩ := id Z
  have h0 : lkR (V j).1 (V k).1 = 0 := lkR_0.mpr ⟨rk_u (hK 0 (by decide)).1 (hK 0 (by decide)).2.1 e0, rk_u (hK 1 (by decide)).1 (hK 1 (by decide)).2.1 e1⟩
  refine lm_w_in (Nat.le_of_ble_eq_true rfl) ?_
  show lm_wp (d + 30) 188 0 [.ref 123, .int (nI j), .int (nI k), .int (nI N), .int 2, lm_jk] [] (hi, hl, X) _
  refine w_N 4 6 [.ref 123, .int (nI j), .int (nI k), .int (nI N), .int 2, lm_jk] [.long 7, .long 0, .long ((nI j).toInt64)] rfl ?_
  refine w_cc rfl (lm_c_1 (m_in (x := nI j) (lo := 0) (up := 7) rfl (by decide) (by decide)) (wi_t (n := 7) (Nat.le_of_lt_succ hj) (by decide))) ?_
  show lm_wp _ 188 9 [.ref 123, .int (nI j), .int (nI k), .int (nI N), .int 2, lm_jk] [.int 1] (hi, hl, X) _
  refine w_if_eq_f (t := 49) rfl rfl (by decide) ?_
  refine w_N 4 18 [.ref 123, .int (nI j), .int (nI k), .int (nI N), .int 2, lm_jk] [.long 7, .long 0, .long ((nI k).toInt64)] rfl ?_
  refine w_cc rfl (lm_c_1 (m_in (x := nI k) (lo := 0) (up := 7) rfl (by decide) (by decide)) (wi_t (n := 7) (Nat.le_of_lt_succ hk) (by decide))) ?_
  show lm_wp _ 188 21 [.ref 123, .int (nI j), .int (nI k), .int (nI N), .int 2, lm_jk] [.int 1] (hi, hl, X) _
  refine w_if_eq_f (t := 49) rfl rfl (by decide) ?_
  refine w_N 4 30 [.ref 123, .int (nI j), .int (nI k), .int (nI N), .int 2, lm_jk] [.long 60, .long 0, .long ((nI N).toInt64)] rfl ?_
  refine w_cc rfl (lm_c_1 (m_in (x := nI N) (lo := 0) (up := 60) rfl (by decide) (by decide)) (wi_t (n := 60) hN (by decide))) ?_
  show lm_wp _ 188 33 [.ref 123, .int (nI j), .int (nI k), .int (nI N), .int 2, lm_jk] [.int 1] (hi, hl, X) _
  refine w_if_eq_f (t := 49) rfl rfl (by decide) ?_
  refine w_N 4 43 [.ref 123, .int (nI j), .int (nI k), .int (nI N), .int 2, lm_jk] [.long 4, .long 0, .long 2] rfl ?_
  refine w_cc rfl (lm_c_1 (m_in (x := 2) (lo := 0) (up := 4) (by decide) (by decide) (by decide)) (by decide)) ?_
  show lm_wp _ 188 46 [.ref 123, .int (nI j), .int (nI k), .int (nI N), .int 2, lm_jk] [.int 1] (hi, hl, X) _
  refine w_if_ne_t (t := 59) rfl rfl (by decide) ?_
  refine w_N 3 62 [.ref 123, .int (nI j), .int (nI k), .int (nI N), .int 2, lm_jk] [.int (nI k), .int (nI j), .ref 123] rfl ?_
  refine w_cc (w_vst rfl rfl rfl (Nat.le_of_ble_eq_true rfl) (Nat.le_of_ble_eq_true rfl) (M_kd S)) (m_noRules_0 P hj hk h0) ?_
  show lm_wp _ 188 65 [.ref 123, .int (nI j), .int (nI k), .int (nI N), .int 2, lm_jk] [.int 0] (hi, hl, X) _
  refine w_N 2 69 [.ref 123, .int (nI j), .int (nI k), .int (nI N), .int 2, .int 0] [.int 0] rfl ?_
  refine w_if_eq_t (t := 78) rfl rfl (by decide) ?_
  refine w_N 1 79 [.ref 123, .int (nI j), .int (nI k), .int (nI N), .int 2, .int 0] [.ref 123] rfl ?_
  refine w_ca (w_vst rfl rfl rfl (Nat.le_of_ble_eq_true rfl) (Nat.le_of_ble_eq_true rfl) (M_kd S)) (m_fresh (d := d + 27) SR H HR hO.2.2.2.2.1) ?_
  rintro _ _ ⟨h5x, hl5, X5, rfl, rfl, S5, S7, n23, SR5, H7, R7, f7, fl7, fx7⟩
  have P := mP_new P f7 fl7 fx7 SR5
  obtain ⟨SR, O, H, HR, HV, HT, HF, HK, E0, EL0, EX0⟩ := id P
  have S := SR.1
  show lm_wp _ 188 82 [.ref 123, .int (nI j), .int (nI k), .int (nI N), .int 2, .int 0] [.ref 700] (h5x, hl5, X5) _
  refine w_N 1 83 [.ref 123, .int (nI j), .int (nI k), .int (nI N), .int 2, .int 0] [.ref 123, .ref 700] rfl ?_
  refine w_gr 137 rfl rfl rfl (M_kd S) (M_r S (k := 5) (o := 14) rfl) ?_
  refine w_N 1 87 [.ref 123, .int (nI j), .int (nI k), .int (nI N), .int 2, .int 0] [.int (nI j), .ref 137, .ref 700] rfl ?_
  refine w_ia j (v := nI (K 0)) rfl (show X5.2.1 (137) = 1 from M_k S 14 (by decide)) (show X5.2.2.1 (137) = 8 from M_l S 14 (by decide)) rfl hj (by decide) (((HV j hj).2.2.2.1 (rk_u (hK 0 (by decide)).1 (hK 0 (by decide)).2.1 e0)).trans (rk_e e0)) ?_
  refine w_N 1 89 [.ref 123, .int (nI j), .int (nI k), .int (nI N), .int 2, .int 0] [.ref 123, .int (nI (K 0)), .ref 700] rfl ?_
  refine w_gr 138 rfl rfl rfl (M_kd S) (M_r S (k := 6) (o := 15) rfl) ?_
  refine w_N 1 93 [.ref 123, .int (nI j), .int (nI k), .int (nI N), .int 2, .int 0] [.int (nI j), .ref 138, .int (nI (K 0)), .ref 700] rfl ?_
  refine w_ia j (v := nI (A 0)) rfl (show X5.2.1 (138) = 1 from M_k S 15 (by decide)) (show X5.2.2.1 (138) = 8 from M_l S 15 (by decide)) rfl hj (by decide) ((HV j hj).2.2.2.2.1.trans (congrArg nI a0)) ?_
  refine w_N 1 95 [.ref 123, .int (nI j), .int (nI k), .int (nI N), .int 2, .int 0] [.ref 123, .int (nI (A 0)), .int (nI (K 0)), .ref 700] rfl ?_
  refine w_gr 137 rfl rfl rfl (M_kd S) (M_r S (k := 5) (o := 14) rfl) ?_
  refine w_N 1 99 [.ref 123, .int (nI j), .int (nI k), .int (nI N), .int 2, .int 0] [.int (nI k), .ref 137, .int (nI (A 0)), .int (nI (K 0)), .ref 700] rfl ?_
  refine w_ia k (v := nI (K 1)) rfl (show X5.2.1 (137) = 1 from M_k S 14 (by decide)) (show X5.2.2.1 (137) = 8 from M_l S 14 (by decide)) rfl hk (by decide) (((HV k hk).2.2.2.1 (rk_u (hK 1 (by decide)).1 (hK 1 (by decide)).2.1 e1)).trans (rk_e e1)) ?_
  refine w_N 1 101 [.ref 123, .int (nI j), .int (nI k), .int (nI N), .int 2, .int 0] [.ref 123, .int (nI (K 1)), .int (nI (A 0)), .int (nI (K 0)), .ref 700] rfl ?_
  refine w_gr 138 rfl rfl rfl (M_kd S) (M_r S (k := 6) (o := 15) rfl) ?_
  refine w_N 1 105 [.ref 123, .int (nI j), .int (nI k), .int (nI N), .int 2, .int 0] [.int (nI k), .ref 138, .int (nI (K 1)), .int (nI (A 0)), .int (nI (K 0)), .ref 700] rfl ?_
  refine w_ia k (v := nI (A 1)) rfl (show X5.2.1 (138) = 1 from M_k S 15 (by decide)) (show X5.2.2.1 (138) = 8 from M_l S 15 (by decide)) rfl hk (by decide) ((HV k hk).2.2.2.2.1.trans (congrArg nI a1)) ?_
  refine w_N 1 107 [.ref 123, .int (nI j), .int (nI k), .int (nI N), .int 2, .int 0] [.int (nI N), .int (nI (A 1)), .int (nI (K 1)), .int (nI (A 0)), .int (nI (K 0)), .ref 700] rfl ?_
  refine w_ca (w_vst rfl rfl rfl (Nat.le_of_ble_eq_true rfl) (Nat.le_of_ble_eq_true rfl) (M_kd S7)) (m_runs (d := d + 21) (K := K) (A := A) S7 hT (okR_zr hO) (by omega) (by omega) hK H7 R7) ?_
  rintro _ _ ⟨h6x, rfl, rfl, H8, R8, Q8, B8, L8⟩
  have P := mP_tried P (fun a ha => Q8.1 a (by omega))
  obtain ⟨SR, O, H, HR, HV, HT, HF, HK, E0, EL0, EX0⟩ := id P
  have S := SR.1
  show lm_wp _ 188 110 [.ref 123, .int (nI j), .int (nI k), .int (nI N), .int 2, .int 0] [] (h6x, hl5, X5) _
  refine w_N 1 112 [.ref 123, .int (nI j), .int (nI k), .int (nI N), .int 2, .int 0] [.int 2] rfl ?_
  refine w_ts (t := 140) rfl (by decide) rfl ?_
  refine w_N 1 141 [.ref 123, .int (nI j), .int (nI k), .int (nI N), .int 2, .int 0] [.ref 123] rfl ?_
  refine w_gr 700 rfl rfl rfl (M_kd S) n23 ?_
  refine w_gi (v := s_marks (rnR T n K A (zrR R) N 10)) rfl rfl rfl (M_kd S7) (R8.1.1) ?_
  refine w_ri rfl rfl ?_
  exact mq_ P
theorem x_run30 {d : Nat} {hi : Nat → Nat → Int32} {hl : Nat → Nat → Int64} {X : lm_X} {hi0 : Nat → Nat → Int32} {hl0 : Nat → Nat → Int64} {C n ts : Nat} {T : lm_T} {R : Nat → Int32} {KO : ab_K} {V : ab_V} {tl F : Nat → Int32} (P : cP hi0 hl0 hi hl X C T n R KO V ts tl F) {B D : Nat} (Z : okZ B D T n R KO V ts tl) {j k N : Nat} {K A : Nat → Nat} (hj : j < 8) (hk : k < 8) (hN : N ≤ 60) (hK : ∀ h, h < 2 → 1 ≤ K h ∧ K h ≤ 6 ∧ A h ≤ 99) (e0 : (V j).1 = nI (10 + K 0)) (a0 : (V j).2.2.1 = A 0) (e1 : (V k).1 = nI (10 + K 1)) (a1 : (V k).2.2.1 = A 1) (hz : awk (R 10) = 0) (hC : C + 25 < 2147483648) : lm_w (d + 30) 106 [.ref 64, .int (nI j), .int (nI k), .int (nI N), .int 3] (hi, hl, X) (cQ hi0 hl0 X (C + 25) (.int (rnB T n K A (zrR R) N)) T n R KO V ts tl F) := by
  obtain ⟨S, O, H, HR, FO, HV, HT, HF, HK, E0, EL0⟩ := id P
  obtain ⟨hT, hO, hV, hts, htl, hDB, hB0, hKO⟩ := id Z
  have h0 : lkR (V j).1 (V k).1 = 0 := lkR_0.mpr ⟨rk_u (hK 0 (by decide)).1 (hK 0 (by decide)).2.1 e0, rk_u (hK 1 (by decide)).1 (hK 1 (by decide)).2.1 e1⟩
  have q := rn_eq T n K A R N
  refine lm_w_in (Nat.le_of_ble_eq_true rfl) ?_
  show lm_wp (d + 30) 106 0 [.ref 64, .int (nI j), .int (nI k), .int (nI N), .int 3, lm_jk, lm_jk] [] (hi, hl, X) _
  refine w_N 1 1 [.ref 64, .int (nI j), .int (nI k), .int (nI N), .int 3, lm_jk, lm_jk] [.int (nI j)] rfl ?_
  refine w_cc rfl (x_isShelf1 (wi_t (n := 7) (Nat.le_of_lt_succ hj) (by decide))) ?_
  show lm_wp _ 106 4 [.ref 64, .int (nI j), .int (nI k), .int (nI N), .int 3, lm_jk, lm_jk] [.int 1] (hi, hl, X) _
  refine w_if_eq_f (t := 34) rfl rfl (by decide) ?_
  refine w_N 1 8 [.ref 64, .int (nI j), .int (nI k), .int (nI N), .int 3, lm_jk, lm_jk] [.int (nI k)] rfl ?_
  refine w_cc rfl (x_isShelf1 (wi_t (n := 7) (Nat.le_of_lt_succ hk) (by decide))) ?_
  show lm_wp _ 106 11 [.ref 64, .int (nI j), .int (nI k), .int (nI N), .int 3, lm_jk, lm_jk] [.int 1] (hi, hl, X) _
  refine w_if_eq_f (t := 34) rfl rfl (by decide) ?_
  refine w_N 3 18 [.ref 64, .int (nI j), .int (nI k), .int (nI N), .int 3, lm_jk, lm_jk] [.int 60, .int 0, .int (nI N)] rfl ?_
  refine w_cc rfl (x_within1 (wi_t (n := 60) hN (by decide))) ?_
  show lm_wp _ 106 21 [.ref 64, .int (nI j), .int (nI k), .int (nI N), .int 3, lm_jk, lm_jk] [.int 1] (hi, hl, X) _
  refine w_if_eq_f (t := 34) rfl rfl (by decide) ?_
  refine w_N 3 28 [.ref 64, .int (nI j), .int (nI k), .int (nI N), .int 3, lm_jk, lm_jk] [.int 4, .int 0, .int 3] rfl ?_
  refine w_cc rfl (x_within1 (by decide)) ?_
  show lm_wp _ 106 31 [.ref 64, .int (nI j), .int (nI k), .int (nI N), .int 3, lm_jk, lm_jk] [.int 1] (hi, hl, X) _
  refine w_if_ne_t (t := 41) rfl rfl (by decide) ?_
  refine w_N 3 44 [.ref 64, .int (nI j), .int (nI k), .int (nI N), .int 3, lm_jk, lm_jk] [.int (nI k), .int (nI j), .ref 64] rfl ?_
  refine w_cc (w_vst rfl rfl rfl (Nat.le_of_ble_eq_true rfl) (Nat.le_of_ble_eq_true rfl) (A_k S 64 (by decide))) (lm_c_v (x_lackRules P hj hk) h0) ?_
  show lm_wp _ 106 47 [.ref 64, .int (nI j), .int (nI k), .int (nI N), .int 3, lm_jk, lm_jk] [.int 0] (hi, hl, X) _
  refine w_N 2 51 [.ref 64, .int (nI j), .int (nI k), .int (nI N), .int 3, .int 0, lm_jk] [.int 0] rfl ?_
  refine w_if_eq_t (t := 61) rfl rfl (by decide) ?_
  refine w_N 1 62 [.ref 64, .int (nI j), .int (nI k), .int (nI N), .int 3, .int 0, lm_jk] [.ref 64] rfl ?_
  refine w_gr 65 rfl rfl rfl (A_k S 64 (by decide)) (A_r S 64 0 (by decide)) ?_
  refine w_gi (v := R 10) rfl rfl rfl (T_kd (A_T65 S)) (HR.1) ?_
  refine w_cc rfl (c_awkz hz) ?_
  show lm_wp _ 106 71 [.ref 64, .int (nI j), .int (nI k), .int (nI N), .int 3, .int 0, lm_jk] [.int 0] (hi, hl, X) _
  refine w_if_ne_f (t := 78) rfl rfl (by decide) ?_
  refine w_N 4 82 [.ref 64, .int (nI j), .int (nI k), .int (nI N), .int 3, .int 0, .int 1] [.ref 64] rfl ?_
  refine w_gr 104 rfl rfl rfl (A_k S 64 (by decide)) (A_r S 64 8 (by decide)) ?_
  refine w_N 1 86 [.ref 64, .int (nI j), .int (nI k), .int (nI N), .int 3, .int 0, .int 1] [.ref 64, .ref 104] rfl ?_
  refine w_gr 97 rfl rfl rfl (A_k S 64 (by decide)) (A_r S 64 5 (by decide)) ?_
  refine w_N 1 91 [.ref 64, .int (nI j), .int (nI k), .int (nI N), .int 3, .int 0, .int 1] [.int 1, .ref 97, .ref 104] rfl ?_
  refine w_if_eq_f (t := 98) rfl rfl (by decide) ?_
  refine w_N 2 99 [.ref 64, .int (nI j), .int (nI k), .int (nI N), .int 3, .int 0, .int 1] [.int (nI j), .ref 97, .ref 104] rfl ?_
  refine w_aa j (107 + 2 * j) rfl ⟨by rw [A_k S 97 (by decide)]; decide, by rw [A_k S 97 (by decide)]; decide⟩ (show X.2.2.1 97 = 8 from A_l S 97 (by decide)) rfl hj (by decide) (A_sv S hj) ?_
  refine w_N 1 101 [.ref 64, .int (nI j), .int (nI k), .int (nI N), .int 3, .int 0, .int 1] [.ref 64, .ref (107 + 2 * j), .ref 104] rfl ?_
  refine w_gr 97 rfl rfl rfl (A_k S 64 (by decide)) (A_r S 64 5 (by decide)) ?_
  refine w_N 1 106 [.ref 64, .int (nI j), .int (nI k), .int (nI N), .int 3, .int 0, .int 1] [.int 1, .ref 97, .ref (107 + 2 * j), .ref 104] rfl ?_
  refine w_if_eq_f (t := 113) rfl rfl (by decide) ?_
  refine w_N 2 114 [.ref 64, .int (nI j), .int (nI k), .int (nI N), .int 3, .int 0, .int 1] [.int (nI k), .ref 97, .ref (107 + 2 * j), .ref 104] rfl ?_
  refine w_aa k (107 + 2 * k) rfl ⟨by rw [A_k S 97 (by decide)]; decide, by rw [A_k S 97 (by decide)]; decide⟩ (show X.2.2.1 97 = 8 from A_l S 97 (by decide)) rfl hk (by decide) (A_sv S hk) ?_
  refine w_N 1 116 [.ref 64, .int (nI j), .int (nI k), .int (nI N), .int 3, .int 0, .int 1] [.int (nI N), .ref (107 + 2 * k), .ref (107 + 2 * j), .ref 104] rfl ?_
  refine w_ca (w_vst rfl rfl rfl (Nat.le_of_ble_eq_true rfl) (Nat.le_of_ble_eq_true rfl) (A_k S 104 (by decide))) (z_goByRules (d := d + 14) (K := K) (A := A) S hT hO.1 hz (A_Sf S hj) (A_Sf S hk) (by omega) (by omega) hK ((HV j hj).1.trans e0) ((HV j hj).2.2.1.trans (congrArg nI a0)) ((HV k hk).1.trans e1) ((HV k hk).2.2.1.trans (congrArg nI a1)) (by omega) H FO HR.1) ?_
  rintro _ _ ⟨h5x, rfl, rfl, Z5, f5, FO5⟩
  have P := cP_fore P f5 FO5
  obtain ⟨S, O, H, HR, FO, HV, HT, HF, HK, E0, EL0⟩ := id P
  show lm_wp _ 106 119 [.ref 64, .int (nI j), .int (nI k), .int (nI N), .int 3, .int 0, .int 1] [] (h5x, hl, X) _
  refine w_N 1 121 [.ref 64, .int (nI j), .int (nI k), .int (nI N), .int 3, .int 0, .int 1] [.int 3] rfl ?_
  refine w_ts (t := 159) rfl (by decide) rfl ?_
  refine w_N 1 160 [.ref 64, .int (nI j), .int (nI k), .int (nI N), .int 3, .int 0, .int 1] [.ref 64] rfl ?_
  refine w_gr 104 rfl rfl rfl (A_k S 64 (by decide)) (A_r S 64 8 (by decide)) ?_
  refine w_gi (v := rnZ T n K A (bgZ (R 10)) N 3) rfl rfl rfl (A_k S 104 (by decide)) (Z5.2.2.2.1) ?_
  refine w_ri rfl rfl ?_
  rw [← q.2.2.2.1]
  exact cq_ P (by omega) hC
theorem x_run31 {d : Nat} {hi : Nat → Nat → Int32} {hl : Nat → Nat → Int64} {X : lm_X} {hi0 : Nat → Nat → Int32} {hl0 : Nat → Nat → Int64} {C n ts : Nat} {T : lm_T} {R : Nat → Int32} {KO : ab_K} {V : ab_V} {tl F : Nat → Int32} (P : cP hi0 hl0 hi hl X C T n R KO V ts tl F) {B D : Nat} (Z : okZ B D T n R KO V ts tl) {j k N : Nat} {K A : Nat → Nat} (hj : j < 8) (hk : k < 8) (hN : N ≤ 60) (hK : ∀ h, h < 2 → 1 ≤ K h ∧ K h ≤ 6 ∧ A h ≤ 99) (e0 : (V j).1 = nI (10 + K 0)) (a0 : (V j).2.2.1 = A 0) (e1 : (V k).1 = nI (10 + K 1)) (a1 : (V k).2.2.1 = A 1) (hz : awk (R 10) = 1) (hC : C + 25 < 2147483648) : lm_w (d + 30) 106 [.ref 64, .int (nI j), .int (nI k), .int (nI N), .int 3] (hi, hl, X) (cQ hi0 hl0 X (C + 25) (.int (rnB T n K A (zrR R) N)) T n R KO V ts tl F) := by
  obtain ⟨S, O, H, HR, FO, HV, HT, HF, HK, E0, EL0⟩ := id P
  obtain ⟨hT, hO, hV, hts, htl, hDB, hB0, hKO⟩ := id Z
  have h0 : lkR (V j).1 (V k).1 = 0 := lkR_0.mpr ⟨rk_u (hK 0 (by decide)).1 (hK 0 (by decide)).2.1 e0, rk_u (hK 1 (by decide)).1 (hK 1 (by decide)).2.1 e1⟩
  have q := rn_eq T n K A R N
  refine lm_w_in (Nat.le_of_ble_eq_true rfl) ?_
  show lm_wp (d + 30) 106 0 [.ref 64, .int (nI j), .int (nI k), .int (nI N), .int 3, lm_jk, lm_jk] [] (hi, hl, X) _
  refine w_N 1 1 [.ref 64, .int (nI j), .int (nI k), .int (nI N), .int 3, lm_jk, lm_jk] [.int (nI j)] rfl ?_
  refine w_cc rfl (x_isShelf1 (wi_t (n := 7) (Nat.le_of_lt_succ hj) (by decide))) ?_
  show lm_wp _ 106 4 [.ref 64, .int (nI j), .int (nI k), .int (nI N), .int 3, lm_jk, lm_jk] [.int 1] (hi, hl, X) _
  refine w_if_eq_f (t := 34) rfl rfl (by decide) ?_
  refine w_N 1 8 [.ref 64, .int (nI j), .int (nI k), .int (nI N), .int 3, lm_jk, lm_jk] [.int (nI k)] rfl ?_
  refine w_cc rfl (x_isShelf1 (wi_t (n := 7) (Nat.le_of_lt_succ hk) (by decide))) ?_
  show lm_wp _ 106 11 [.ref 64, .int (nI j), .int (nI k), .int (nI N), .int 3, lm_jk, lm_jk] [.int 1] (hi, hl, X) _
  refine w_if_eq_f (t := 34) rfl rfl (by decide) ?_
  refine w_N 3 18 [.ref 64, .int (nI j), .int (nI k), .int (nI N), .int 3, lm_jk, lm_jk] [.int 60, .int 0, .int (nI N)] rfl ?_
  refine w_cc rfl (x_within1 (wi_t (n := 60) hN (by decide))) ?_
  show lm_wp _ 106 21 [.ref 64, .int (nI j), .int (nI k), .int (nI N), .int 3, lm_jk, lm_jk] [.int 1] (hi, hl, X) _
  refine w_if_eq_f (t := 34) rfl rfl (by decide) ?_
  refine w_N 3 28 [.ref 64, .int (nI j), .int (nI k), .int (nI N), .int 3, lm_jk, lm_jk] [.int 4, .int 0, .int 3] rfl ?_
  refine w_cc rfl (x_within1 (by decide)) ?_
  show lm_wp _ 106 31 [.ref 64, .int (nI j), .int (nI k), .int (nI N), .int 3, lm_jk, lm_jk] [.int 1] (hi, hl, X) _
  refine w_if_ne_t (t := 41) rfl rfl (by decide) ?_
  refine w_N 3 44 [.ref 64, .int (nI j), .int (nI k), .int (nI N), .int 3, lm_jk, lm_jk] [.int (nI k), .int (nI j), .ref 64] rfl ?_
  refine w_cc (w_vst rfl rfl rfl (Nat.le_of_ble_eq_true rfl) (Nat.le_of_ble_eq_true rfl) (A_k S 64 (by decide))) (lm_c_v (x_lackRules P hj hk) h0) ?_
  show lm_wp _ 106 47 [.ref 64, .int (nI j), .int (nI k), .int (nI N), .int 3, lm_jk, lm_jk] [.int 0] (hi, hl, X) _
  refine w_N 2 51 [.ref 64, .int (nI j), .int (nI k), .int (nI N), .int 3, .int 0, lm_jk] [.int 0] rfl ?_
  refine w_if_eq_t (t := 61) rfl rfl (by decide) ?_
  refine w_N 1 62 [.ref 64, .int (nI j), .int (nI k), .int (nI N), .int 3, .int 0, lm_jk] [.ref 64] rfl ?_
  refine w_gr 65 rfl rfl rfl (A_k S 64 (by decide)) (A_r S 64 0 (by decide)) ?_
  refine w_gi (v := R 10) rfl rfl rfl (T_kd (A_T65 S)) (HR.1) ?_
  refine w_cc rfl (c_awkz hz) ?_
  show lm_wp _ 106 71 [.ref 64, .int (nI j), .int (nI k), .int (nI N), .int 3, .int 0, lm_jk] [.int 1] (hi, hl, X) _
  refine w_if_ne_t (t := 78) rfl rfl (by decide) ?_
  refine w_N 3 82 [.ref 64, .int (nI j), .int (nI k), .int (nI N), .int 3, .int 0, .int 0] [.ref 64] rfl ?_
  refine w_gr 104 rfl rfl rfl (A_k S 64 (by decide)) (A_r S 64 8 (by decide)) ?_
  refine w_N 1 86 [.ref 64, .int (nI j), .int (nI k), .int (nI N), .int 3, .int 0, .int 0] [.ref 64, .ref 104] rfl ?_
  refine w_gr 97 rfl rfl rfl (A_k S 64 (by decide)) (A_r S 64 5 (by decide)) ?_
  refine w_N 1 91 [.ref 64, .int (nI j), .int (nI k), .int (nI N), .int 3, .int 0, .int 0] [.int 0, .ref 97, .ref 104] rfl ?_
  refine w_if_eq_t (t := 98) rfl rfl (by decide) ?_
  refine w_N 1 99 [.ref 64, .int (nI j), .int (nI k), .int (nI N), .int 3, .int 0, .int 0] [.int (nI k), .ref 97, .ref 104] rfl ?_
  refine w_aa k (107 + 2 * k) rfl ⟨by rw [A_k S 97 (by decide)]; decide, by rw [A_k S 97 (by decide)]; decide⟩ (show X.2.2.1 97 = 8 from A_l S 97 (by decide)) rfl hk (by decide) (A_sv S hk) ?_
  refine w_N 1 101 [.ref 64, .int (nI j), .int (nI k), .int (nI N), .int 3, .int 0, .int 0] [.ref 64, .ref (107 + 2 * k), .ref 104] rfl ?_
  refine w_gr 97 rfl rfl rfl (A_k S 64 (by decide)) (A_r S 64 5 (by decide)) ?_
  refine w_N 1 106 [.ref 64, .int (nI j), .int (nI k), .int (nI N), .int 3, .int 0, .int 0] [.int 0, .ref 97, .ref (107 + 2 * k), .ref 104] rfl ?_
  refine w_if_eq_t (t := 113) rfl rfl (by decide) ?_
  refine w_N 1 114 [.ref 64, .int (nI j), .int (nI k), .int (nI N), .int 3, .int 0, .int 0] [.int (nI j), .ref 97, .ref (107 + 2 * k), .ref 104] rfl ?_
  refine w_aa j (107 + 2 * j) rfl ⟨by rw [A_k S 97 (by decide)]; decide, by rw [A_k S 97 (by decide)]; decide⟩ (show X.2.2.1 97 = 8 from A_l S 97 (by decide)) rfl hj (by decide) (A_sv S hj) ?_
  refine w_N 1 116 [.ref 64, .int (nI j), .int (nI k), .int (nI N), .int 3, .int 0, .int 0] [.int (nI N), .ref (107 + 2 * j), .ref (107 + 2 * k), .ref 104] rfl ?_
  refine w_ca (w_vst rfl rfl rfl (Nat.le_of_ble_eq_true rfl) (Nat.le_of_ble_eq_true rfl) (A_k S 104 (by decide))) (z_goByRules (d := d + 14) (K := K) (A := A) S hT hO.1 hz (A_Sf S hk) (A_Sf S hj) (by omega) (by omega) hK ((HV k hk).1.trans e1) ((HV k hk).2.2.1.trans (congrArg nI a1)) ((HV j hj).1.trans e0) ((HV j hj).2.2.1.trans (congrArg nI a0)) (by omega) H FO HR.1) ?_
  rintro _ _ ⟨h5x, rfl, rfl, Z5, f5, FO5⟩
  have P := cP_fore P f5 FO5
  obtain ⟨S, O, H, HR, FO, HV, HT, HF, HK, E0, EL0⟩ := id P
  show lm_wp _ 106 119 [.ref 64, .int (nI j), .int (nI k), .int (nI N), .int 3, .int 0, .int 0] [] (h5x, hl, X) _
  refine w_N 1 121 [.ref 64, .int (nI j), .int (nI k), .int (nI N), .int 3, .int 0, .int 0] [.int 3] rfl ?_
  refine w_ts (t := 159) rfl (by decide) rfl ?_
  refine w_N 1 160 [.ref 64, .int (nI j), .int (nI k), .int (nI N), .int 3, .int 0, .int 0] [.ref 64] rfl ?_
  refine w_gr 104 rfl rfl rfl (A_k S 64 (by decide)) (A_r S 64 8 (by decide)) ?_
  refine w_gi (v := rnZ T n K A (bgZ (R 10)) N 3) rfl rfl rfl (A_k S 104 (by decide)) (Z5.2.2.2.1) ?_
  refine w_ri rfl rfl ?_
  rw [← q.2.2.2.1]
  exact cq_ P (by omega) hC
theorem x_run3 {d : Nat} {hi : Nat → Nat → Int32} {hl : Nat → Nat → Int64} {X : lm_X} {hi0 : Nat → Nat → Int32} {hl0 : Nat → Nat → Int64} {C n ts : Nat} {T : lm_T} {R : Nat → Int32} {KO : ab_K} {V : ab_V} {tl F : Nat → Int32} (P : cP hi0 hl0 hi hl X C T n R KO V ts tl F) {B D : Nat} (Z : okZ B D T n R KO V ts tl) {j k N : Nat} {K A : Nat → Nat} (hj : j < 8) (hk : k < 8) (hN : N ≤ 60) (hK : ∀ h, h < 2 → 1 ≤ K h ∧ K h ≤ 6 ∧ A h ≤ 99) (e0 : (V j).1 = nI (10 + K 0)) (a0 : (V j).2.2.1 = A 0) (e1 : (V k).1 = nI (10 + K 1)) (a1 : (V k).2.2.1 = A 1) (hC : C + 25 < 2147483648) : lm_w (d + 30) 106 [.ref 64, .int (nI j), .int (nI k), .int (nI N), .int 3] (hi, hl, X) (cQ hi0 hl0 X (C + 25) (.int (rnB T n K A (zrR R) N)) T n R KO V ts tl F) := by
  have h := awk_lt (R 10)
  rcases (by omega : awk (R 10) = 0 ∨ awk (R 10) = 1) with h | h
  · exact x_run30 P Z hj hk hN hK e0 a0 e1 a1 h hC
  · exact x_run31 P Z hj hk hN hK e0 a0 e1 a1 h hC
theorem y_run3 {d : Nat} {hi : Nat → Nat → Int32} {hl : Nat → Nat → Int64} {X : lm_X} {hi0 : Nat → Nat → Int32} {hl0 : Nat → Nat → Int64} {X0 : lm_X} {n ts : Nat} {T : lm_T} {R : Nat → Int32} {KO : ab_K} {V : ab_V} {tl F : Nat → Int32} (P : mP hi0 hl0 X0 hi hl X T n R KO V ts tl F) {B D : Nat} (Z : okZ B D T n R KO V ts tl) {j k N : Nat} {K A : Nat → Nat} (hj : j < 8) (hk : k < 8) (hN : N ≤ 60) (hK : ∀ h, h < 2 → 1 ≤ K h ∧ K h ≤ 6 ∧ A h ≤ 99) (e0 : (V j).1 = nI (10 + K 0)) (a0 : (V j).2.2.1 = A 0) (e1 : (V k).1 = nI (10 + K 1)) (a1 : (V k).2.2.1 = A 1) : lm_w (d + 30) 188 [.ref 123, .int (nI j), .int (nI k), .int (nI N), .int 3] (hi, hl, X) (mQ hi0 hl0 X0 (.int (rnB T n K A (zrR R) N)) T n R KO V ts tl F) := by
  obtain ⟨SR, O, H, HR, HV, HT, HF, HK, E0, EL0, EX0⟩ := id P
  have S := SR.1
  obtain ⟨hT, hO, hV, hts, htl, hDB, hB0, hKO⟩ := id Z
  have h0 : lkR (V j).1 (V k).1 = 0 := lkR_0.mpr ⟨rk_u (hK 0 (by decide)).1 (hK 0 (by decide)).2.1 e0, rk_u (hK 1 (by decide)).1 (hK 1 (by decide)).2.1 e1⟩
  refine lm_w_in (Nat.le_of_ble_eq_true rfl) ?_
  show lm_wp (d + 30) 188 0 [.ref 123, .int (nI j), .int (nI k), .int (nI N), .int 3, lm_jk] [] (hi, hl, X) _
  refine w_N 4 6 [.ref 123, .int (nI j), .int (nI k), .int (nI N), .int 3, lm_jk] [.long 7, .long 0, .long ((nI j).toInt64)] rfl ?_
  refine w_cc rfl (lm_c_1 (m_in (x := nI j) (lo := 0) (up := 7) rfl (by decide) (by decide)) (wi_t (n := 7) (Nat.le_of_lt_succ hj) (by decide))) ?_
  show lm_wp _ 188 9 [.ref 123, .int (nI j), .int (nI k), .int (nI N), .int 3, lm_jk] [.int 1] (hi, hl, X) _
  refine w_if_eq_f (t := 49) rfl rfl (by decide) ?_
  refine w_N 4 18 [.ref 123, .int (nI j), .int (nI k), .int (nI N), .int 3, lm_jk] [.long 7, .long 0, .long ((nI k).toInt64)] rfl ?_
  refine w_cc rfl (lm_c_1 (m_in (x := nI k) (lo := 0) (up := 7) rfl (by decide) (by decide)) (wi_t (n := 7) (Nat.le_of_lt_succ hk) (by decide))) ?_
  show lm_wp _ 188 21 [.ref 123, .int (nI j), .int (nI k), .int (nI N), .int 3, lm_jk] [.int 1] (hi, hl, X) _
  refine w_if_eq_f (t := 49) rfl rfl (by decide) ?_
  refine w_N 4 30 [.ref 123, .int (nI j), .int (nI k), .int (nI N), .int 3, lm_jk] [.long 60, .long 0, .long ((nI N).toInt64)] rfl ?_
  refine w_cc rfl (lm_c_1 (m_in (x := nI N) (lo := 0) (up := 60) rfl (by decide) (by decide)) (wi_t (n := 60) hN (by decide))) ?_
  show lm_wp _ 188 33 [.ref 123, .int (nI j), .int (nI k), .int (nI N), .int 3, lm_jk] [.int 1] (hi, hl, X) _
  refine w_if_eq_f (t := 49) rfl rfl (by decide) ?_
  refine w_N 4 43 [.ref 123, .int (nI j), .int (nI k), .int (nI N), .int 3, lm_jk] [.long 4, .long 0, .long 3] rfl ?_
  refine w_cc rfl (lm_c_1 (m_in (x := 3) (lo := 0) (up := 4) (by decide) (by decide) (by decide)) (by decide)) ?_
  show lm_wp _ 188 46 [.ref 123, .int (nI j), .int (nI k), .int (nI N), .int 3, lm_jk] [.int 1] (hi, hl, X) _
  refine w_if_ne_t (t := 59) rfl rfl (by decide) ?_
  refine w_N 3 62 [.ref 123, .int (nI j), .int (nI k), .int (nI N), .int 3, lm_jk] [.int (nI k), .int (nI j), .ref 123] rfl ?_
  refine w_cc (w_vst rfl rfl rfl (Nat.le_of_ble_eq_true rfl) (Nat.le_of_ble_eq_true rfl) (M_kd S)) (m_noRules_0 P hj hk h0) ?_
  show lm_wp _ 188 65 [.ref 123, .int (nI j), .int (nI k), .int (nI N), .int 3, lm_jk] [.int 0] (hi, hl, X) _
  refine w_N 2 69 [.ref 123, .int (nI j), .int (nI k), .int (nI N), .int 3, .int 0] [.int 0] rfl ?_
  refine w_if_eq_t (t := 78) rfl rfl (by decide) ?_
  refine w_N 1 79 [.ref 123, .int (nI j), .int (nI k), .int (nI N), .int 3, .int 0] [.ref 123] rfl ?_
  refine w_ca (w_vst rfl rfl rfl (Nat.le_of_ble_eq_true rfl) (Nat.le_of_ble_eq_true rfl) (M_kd S)) (m_fresh (d := d + 27) SR H HR hO.2.2.2.2.1) ?_
  rintro _ _ ⟨h5x, hl5, X5, rfl, rfl, S5, S7, n23, SR5, H7, R7, f7, fl7, fx7⟩
  have P := mP_new P f7 fl7 fx7 SR5
  obtain ⟨SR, O, H, HR, HV, HT, HF, HK, E0, EL0, EX0⟩ := id P
  have S := SR.1
  show lm_wp _ 188 82 [.ref 123, .int (nI j), .int (nI k), .int (nI N), .int 3, .int 0] [.ref 700] (h5x, hl5, X5) _
  refine w_N 1 83 [.ref 123, .int (nI j), .int (nI k), .int (nI N), .int 3, .int 0] [.ref 123, .ref 700] rfl ?_
  refine w_gr 137 rfl rfl rfl (M_kd S) (M_r S (k := 5) (o := 14) rfl) ?_
  refine w_N 1 87 [.ref 123, .int (nI j), .int (nI k), .int (nI N), .int 3, .int 0] [.int (nI j), .ref 137, .ref 700] rfl ?_
  refine w_ia j (v := nI (K 0)) rfl (show X5.2.1 (137) = 1 from M_k S 14 (by decide)) (show X5.2.2.1 (137) = 8 from M_l S 14 (by decide)) rfl hj (by decide) (((HV j hj).2.2.2.1 (rk_u (hK 0 (by decide)).1 (hK 0 (by decide)).2.1 e0)).trans (rk_e e0)) ?_
  refine w_N 1 89 [.ref 123, .int (nI j), .int (nI k), .int (nI N), .int 3, .int 0] [.ref 123, .int (nI (K 0)), .ref 700] rfl ?_
  refine w_gr 138 rfl rfl rfl (M_kd S) (M_r S (k := 6) (o := 15) rfl) ?_
  refine w_N 1 93 [.ref 123, .int (nI j), .int (nI k), .int (nI N), .int 3, .int 0] [.int (nI j), .ref 138, .int (nI (K 0)), .ref 700] rfl ?_
  refine w_ia j (v := nI (A 0)) rfl (show X5.2.1 (138) = 1 from M_k S 15 (by decide)) (show X5.2.2.1 (138) = 8 from M_l S 15 (by decide)) rfl hj (by decide) ((HV j hj).2.2.2.2.1.trans (congrArg nI a0)) ?_
  refine w_N 1 95 [.ref 123, .int (nI j), .int (nI k), .int (nI N), .int 3, .int 0] [.ref 123, .int (nI (A 0)), .int (nI (K 0)), .ref 700] rfl ?_
  refine w_gr 137 rfl rfl rfl (M_kd S) (M_r S (k := 5) (o := 14) rfl) ?_
  refine w_N 1 99 [.ref 123, .int (nI j), .int (nI k), .int (nI N), .int 3, .int 0] [.int (nI k), .ref 137, .int (nI (A 0)), .int (nI (K 0)), .ref 700] rfl ?_
  refine w_ia k (v := nI (K 1)) rfl (show X5.2.1 (137) = 1 from M_k S 14 (by decide)) (show X5.2.2.1 (137) = 8 from M_l S 14 (by decide)) rfl hk (by decide) (((HV k hk).2.2.2.1 (rk_u (hK 1 (by decide)).1 (hK 1 (by decide)).2.1 e1)).trans (rk_e e1)) ?_
  refine w_N 1 101 [.ref 123, .int (nI j), .int (nI k), .int (nI N), .int 3, .int 0] [.ref 123, .int (nI (K 1)), .int (nI (A 0)), .int (nI (K 0)), .ref 700] rfl ?_
  refine w_gr 138 rfl rfl rfl (M_kd S) (M_r S (k := 6) (o := 15) rfl) ?_
  refine w_N 1 105 [.ref 123, .int (nI j), .int (nI k), .int (nI N), .int 3, .int 0] [.int (nI k), .ref 138, .int (nI (K 1)), .int (nI (A 0)), .int (nI (K 0)), .ref 700] rfl ?_
  refine w_ia k (v := nI (A 1)) rfl (show X5.2.1 (138) = 1 from M_k S 15 (by decide)) (show X5.2.2.1 (138) = 8 from M_l S 15 (by decide)) rfl hk (by decide) ((HV k hk).2.2.2.2.1.trans (congrArg nI a1)) ?_
  refine w_N 1 107 [.ref 123, .int (nI j), .int (nI k), .int (nI N), .int 3, .int 0] [.int (nI N), .int (nI (A 1)), .int (nI (K 1)), .int (nI (A 0)), .int (nI (K 0)), .ref 700] rfl ?_
  refine w_ca (w_vst rfl rfl rfl (Nat.le_of_ble_eq_true rfl) (Nat.le_of_ble_eq_true rfl) (M_kd S7)) (m_runs (d := d + 21) (K := K) (A := A) S7 hT (okR_zr hO) (by omega) (by omega) hK H7 R7) ?_
  rintro _ _ ⟨h6x, rfl, rfl, H8, R8, Q8, B8, L8⟩
  have P := mP_tried P (fun a ha => Q8.1 a (by omega))
  obtain ⟨SR, O, H, HR, HV, HT, HF, HK, E0, EL0, EX0⟩ := id P
  have S := SR.1
  show lm_wp _ 188 110 [.ref 123, .int (nI j), .int (nI k), .int (nI N), .int 3, .int 0] [] (h6x, hl5, X5) _
  refine w_N 1 112 [.ref 123, .int (nI j), .int (nI k), .int (nI N), .int 3, .int 0] [.int 3] rfl ?_
  refine w_ts (t := 148) rfl (by decide) rfl ?_
  refine w_N 1 149 [.ref 123, .int (nI j), .int (nI k), .int (nI N), .int 3, .int 0] [.ref 123] rfl ?_
  refine w_gr 700 rfl rfl rfl (M_kd S) n23 ?_
  refine w_gi (v := rnB T n K A (zrR R) N) rfl rfl rfl (M_kd S7) (B8) ?_
  refine w_ri rfl rfl ?_
  exact mq_ P
theorem x_run40 {d : Nat} {hi : Nat → Nat → Int32} {hl : Nat → Nat → Int64} {X : lm_X} {hi0 : Nat → Nat → Int32} {hl0 : Nat → Nat → Int64} {C n ts : Nat} {T : lm_T} {R : Nat → Int32} {KO : ab_K} {V : ab_V} {tl F : Nat → Int32} (P : cP hi0 hl0 hi hl X C T n R KO V ts tl F) {B D : Nat} (Z : okZ B D T n R KO V ts tl) {j k N : Nat} {K A : Nat → Nat} (hj : j < 8) (hk : k < 8) (hN : N ≤ 60) (hK : ∀ h, h < 2 → 1 ≤ K h ∧ K h ≤ 6 ∧ A h ≤ 99) (e0 : (V j).1 = nI (10 + K 0)) (a0 : (V j).2.2.1 = A 0) (e1 : (V k).1 = nI (10 + K 1)) (a1 : (V k).2.2.1 = A 1) (hz : awk (R 10) = 0) (hC : C + 25 < 2147483648) : lm_w (d + 30) 106 [.ref 64, .int (nI j), .int (nI k), .int (nI N), .int 4] (hi, hl, X) (cQ hi0 hl0 X (C + 25) (.int (rnL T n K A (zrR R) N)) T n R KO V ts tl F) := by
  obtain ⟨S, O, H, HR, FO, HV, HT, HF, HK, E0, EL0⟩ := id P
  obtain ⟨hT, hO, hV, hts, htl, hDB, hB0, hKO⟩ := id Z
  have h0 : lkR (V j).1 (V k).1 = 0 := lkR_0.mpr ⟨rk_u (hK 0 (by decide)).1 (hK 0 (by decide)).2.1 e0, rk_u (hK 1 (by decide)).1 (hK 1 (by decide)).2.1 e1⟩
  have q := rn_eq T n K A R N
  refine lm_w_in (Nat.le_of_ble_eq_true rfl) ?_
  show lm_wp (d + 30) 106 0 [.ref 64, .int (nI j), .int (nI k), .int (nI N), .int 4, lm_jk, lm_jk] [] (hi, hl, X) _
  refine w_N 1 1 [.ref 64, .int (nI j), .int (nI k), .int (nI N), .int 4, lm_jk, lm_jk] [.int (nI j)] rfl ?_
  refine w_cc rfl (x_isShelf1 (wi_t (n := 7) (Nat.le_of_lt_succ hj) (by decide))) ?_
  show lm_wp _ 106 4 [.ref 64, .int (nI j), .int (nI k), .int (nI N), .int 4, lm_jk, lm_jk] [.int 1] (hi, hl, X) _
  refine w_if_eq_f (t := 34) rfl rfl (by decide) ?_
  refine w_N 1 8 [.ref 64, .int (nI j), .int (nI k), .int (nI N), .int 4, lm_jk, lm_jk] [.int (nI k)] rfl ?_
  refine w_cc rfl (x_isShelf1 (wi_t (n := 7) (Nat.le_of_lt_succ hk) (by decide))) ?_
  show lm_wp _ 106 11 [.ref 64, .int (nI j), .int (nI k), .int (nI N), .int 4, lm_jk, lm_jk] [.int 1] (hi, hl, X) _
  refine w_if_eq_f (t := 34) rfl rfl (by decide) ?_
  refine w_N 3 18 [.ref 64, .int (nI j), .int (nI k), .int (nI N), .int 4, lm_jk, lm_jk] [.int 60, .int 0, .int (nI N)] rfl ?_
  refine w_cc rfl (x_within1 (wi_t (n := 60) hN (by decide))) ?_
  show lm_wp _ 106 21 [.ref 64, .int (nI j), .int (nI k), .int (nI N), .int 4, lm_jk, lm_jk] [.int 1] (hi, hl, X) _
  refine w_if_eq_f (t := 34) rfl rfl (by decide) ?_
  refine w_N 3 28 [.ref 64, .int (nI j), .int (nI k), .int (nI N), .int 4, lm_jk, lm_jk] [.int 4, .int 0, .int 4] rfl ?_
  refine w_cc rfl (x_within1 (by decide)) ?_
  show lm_wp _ 106 31 [.ref 64, .int (nI j), .int (nI k), .int (nI N), .int 4, lm_jk, lm_jk] [.int 1] (hi, hl, X) _
  refine w_if_ne_t (t := 41) rfl rfl (by decide) ?_
  refine w_N 3 44 [.ref 64, .int (nI j), .int (nI k), .int (nI N), .int 4, lm_jk, lm_jk] [.int (nI k), .int (nI j), .ref 64] rfl ?_
  refine w_cc (w_vst rfl rfl rfl (Nat.le_of_ble_eq_true rfl) (Nat.le_of_ble_eq_true rfl) (A_k S 64 (by decide))) (lm_c_v (x_lackRules P hj hk) h0) ?_
  show lm_wp _ 106 47 [.ref 64, .int (nI j), .int (nI k), .int (nI N), .int 4, lm_jk, lm_jk] [.int 0] (hi, hl, X) _
  refine w_N 2 51 [.ref 64, .int (nI j), .int (nI k), .int (nI N), .int 4, .int 0, lm_jk] [.int 0] rfl ?_
  refine w_if_eq_t (t := 61) rfl rfl (by decide) ?_
  refine w_N 1 62 [.ref 64, .int (nI j), .int (nI k), .int (nI N), .int 4, .int 0, lm_jk] [.ref 64] rfl ?_
  refine w_gr 65 rfl rfl rfl (A_k S 64 (by decide)) (A_r S 64 0 (by decide)) ?_
  refine w_gi (v := R 10) rfl rfl rfl (T_kd (A_T65 S)) (HR.1) ?_
  refine w_cc rfl (c_awkz hz) ?_
  show lm_wp _ 106 71 [.ref 64, .int (nI j), .int (nI k), .int (nI N), .int 4, .int 0, lm_jk] [.int 0] (hi, hl, X) _
  refine w_if_ne_f (t := 78) rfl rfl (by decide) ?_
  refine w_N 4 82 [.ref 64, .int (nI j), .int (nI k), .int (nI N), .int 4, .int 0, .int 1] [.ref 64] rfl ?_
  refine w_gr 104 rfl rfl rfl (A_k S 64 (by decide)) (A_r S 64 8 (by decide)) ?_
  refine w_N 1 86 [.ref 64, .int (nI j), .int (nI k), .int (nI N), .int 4, .int 0, .int 1] [.ref 64, .ref 104] rfl ?_
  refine w_gr 97 rfl rfl rfl (A_k S 64 (by decide)) (A_r S 64 5 (by decide)) ?_
  refine w_N 1 91 [.ref 64, .int (nI j), .int (nI k), .int (nI N), .int 4, .int 0, .int 1] [.int 1, .ref 97, .ref 104] rfl ?_
  refine w_if_eq_f (t := 98) rfl rfl (by decide) ?_
  refine w_N 2 99 [.ref 64, .int (nI j), .int (nI k), .int (nI N), .int 4, .int 0, .int 1] [.int (nI j), .ref 97, .ref 104] rfl ?_
  refine w_aa j (107 + 2 * j) rfl ⟨by rw [A_k S 97 (by decide)]; decide, by rw [A_k S 97 (by decide)]; decide⟩ (show X.2.2.1 97 = 8 from A_l S 97 (by decide)) rfl hj (by decide) (A_sv S hj) ?_
  refine w_N 1 101 [.ref 64, .int (nI j), .int (nI k), .int (nI N), .int 4, .int 0, .int 1] [.ref 64, .ref (107 + 2 * j), .ref 104] rfl ?_
  refine w_gr 97 rfl rfl rfl (A_k S 64 (by decide)) (A_r S 64 5 (by decide)) ?_
  refine w_N 1 106 [.ref 64, .int (nI j), .int (nI k), .int (nI N), .int 4, .int 0, .int 1] [.int 1, .ref 97, .ref (107 + 2 * j), .ref 104] rfl ?_
  refine w_if_eq_f (t := 113) rfl rfl (by decide) ?_
  refine w_N 2 114 [.ref 64, .int (nI j), .int (nI k), .int (nI N), .int 4, .int 0, .int 1] [.int (nI k), .ref 97, .ref (107 + 2 * j), .ref 104] rfl ?_
  refine w_aa k (107 + 2 * k) rfl ⟨by rw [A_k S 97 (by decide)]; decide, by rw [A_k S 97 (by decide)]; decide⟩ (show X.2.2.1 97 = 8 from A_l S 97 (by decide)) rfl hk (by decide) (A_sv S hk) ?_
  refine w_N 1 116 [.ref 64, .int (nI j), .int (nI k), .int (nI N), .int 4, .int 0, .int 1] [.int (nI N), .ref (107 + 2 * k), .ref (107 + 2 * j), .ref 104] rfl ?_
  refine w_ca (w_vst rfl rfl rfl (Nat.le_of_ble_eq_true rfl) (Nat.le_of_ble_eq_true rfl) (A_k S 104 (by decide))) (z_goByRules (d := d + 14) (K := K) (A := A) S hT hO.1 hz (A_Sf S hj) (A_Sf S hk) (by omega) (by omega) hK ((HV j hj).1.trans e0) ((HV j hj).2.2.1.trans (congrArg nI a0)) ((HV k hk).1.trans e1) ((HV k hk).2.2.1.trans (congrArg nI a1)) (by omega) H FO HR.1) ?_
  rintro _ _ ⟨h5x, rfl, rfl, Z5, f5, FO5⟩
  have P := cP_fore P f5 FO5
  obtain ⟨S, O, H, HR, FO, HV, HT, HF, HK, E0, EL0⟩ := id P
  show lm_wp _ 106 119 [.ref 64, .int (nI j), .int (nI k), .int (nI N), .int 4, .int 0, .int 1] [] (h5x, hl, X) _
  refine w_N 1 121 [.ref 64, .int (nI j), .int (nI k), .int (nI N), .int 4, .int 0, .int 1] [.int 4] rfl ?_
  refine w_ts (t := 167) rfl (by decide) rfl ?_
  refine w_N 1 168 [.ref 64, .int (nI j), .int (nI k), .int (nI N), .int 4, .int 0, .int 1] [.ref 64] rfl ?_
  refine w_gr 104 rfl rfl rfl (A_k S 64 (by decide)) (A_r S 64 8 (by decide)) ?_
  refine w_gi (v := rnZ T n K A (bgZ (R 10)) N 4) rfl rfl rfl (A_k S 104 (by decide)) (Z5.2.2.2.2) ?_
  refine w_ri rfl rfl ?_
  rw [← q.2.2.2.2]
  exact cq_ P (by omega) hC
theorem x_run41 {d : Nat} {hi : Nat → Nat → Int32} {hl : Nat → Nat → Int64} {X : lm_X} {hi0 : Nat → Nat → Int32} {hl0 : Nat → Nat → Int64} {C n ts : Nat} {T : lm_T} {R : Nat → Int32} {KO : ab_K} {V : ab_V} {tl F : Nat → Int32} (P : cP hi0 hl0 hi hl X C T n R KO V ts tl F) {B D : Nat} (Z : okZ B D T n R KO V ts tl) {j k N : Nat} {K A : Nat → Nat} (hj : j < 8) (hk : k < 8) (hN : N ≤ 60) (hK : ∀ h, h < 2 → 1 ≤ K h ∧ K h ≤ 6 ∧ A h ≤ 99) (e0 : (V j).1 = nI (10 + K 0)) (a0 : (V j).2.2.1 = A 0) (e1 : (V k).1 = nI (10 + K 1)) (a1 : (V k).2.2.1 = A 1) (hz : awk (R 10) = 1) (hC : C + 25 < 2147483648) : lm_w (d + 30) 106 [.ref 64, .int (nI j), .int (nI k), .int (nI N), .int 4] (hi, hl, X) (cQ hi0 hl0 X (C + 25) (.int (rnL T n K A (zrR R) N)) T n R KO V ts tl F) := by
  obtain ⟨S, O, H, HR, FO, HV, HT, HF, HK, E0, EL0⟩ := id P
  obtain ⟨hT, hO, hV, hts, htl, hDB, hB0, hKO⟩ := id Z
  have h0 : lkR (V j).1 (V k).1 = 0 := lkR_0.mpr ⟨rk_u (hK 0 (by decide)).1 (hK 0 (by decide)).2.1 e0, rk_u (hK 1 (by decide)).1 (hK 1 (by decide)).2.1 e1⟩
  have q := rn_eq T n K A R N
  refine lm_w_in (Nat.le_of_ble_eq_true rfl) ?_
  show lm_wp (d + 30) 106 0 [.ref 64, .int (nI j), .int (nI k), .int (nI N), .int 4, lm_jk, lm_jk] [] (hi, hl, X) _
  refine w_N 1 1 [.ref 64, .int (nI j), .int (nI k), .int (nI N), .int 4, lm_jk, lm_jk] [.int (nI j)] rfl ?_
  refine w_cc rfl (x_isShelf1 (wi_t (n := 7) (Nat.le_of_lt_succ hj) (by decide))) ?_
  show lm_wp _ 106 4 [.ref 64, .int (nI j), .int (nI k), .int (nI N), .int 4, lm_jk, lm_jk] [.int 1] (hi, hl, X) _
  refine w_if_eq_f (t := 34) rfl rfl (by decide) ?_
  refine w_N 1 8 [.ref 64, .int (nI j), .int (nI k), .int (nI N), .int 4, lm_jk, lm_jk] [.int (nI k)] rfl ?_
  refine w_cc rfl (x_isShelf1 (wi_t (n := 7) (Nat.le_of_lt_succ hk) (by decide))) ?_
  show lm_wp _ 106 11 [.ref 64, .int (nI j), .int (nI k), .int (nI N), .int 4, lm_jk, lm_jk] [.int 1] (hi, hl, X) _
  refine w_if_eq_f (t := 34) rfl rfl (by decide) ?_
  refine w_N 3 18 [.ref 64, .int (nI j), .int (nI k), .int (nI N), .int 4, lm_jk, lm_jk] [.int 60, .int 0, .int (nI N)] rfl ?_
  refine w_cc rfl (x_within1 (wi_t (n := 60) hN (by decide))) ?_
  show lm_wp _ 106 21 [.ref 64, .int (nI j), .int (nI k), .int (nI N), .int 4, lm_jk, lm_jk] [.int 1] (hi, hl, X) _
  refine w_if_eq_f (t := 34) rfl rfl (by decide) ?_
  refine w_N 3 28 [.ref 64, .int (nI j), .int (nI k), .int (nI N), .int 4, lm_jk, lm_jk] [.int 4, .int 0, .int 4] rfl ?_
  refine w_cc rfl (x_within1 (by decide)) ?_
  show lm_wp _ 106 31 [.ref 64, .int (nI j), .int (nI k), .int (nI N), .int 4, lm_jk, lm_jk] [.int 1] (hi, hl, X) _
  refine w_if_ne_t (t := 41) rfl rfl (by decide) ?_
  refine w_N 3 44 [.ref 64, .int (nI j), .int (nI k), .int (nI N), .int 4, lm_jk, lm_jk] [.int (nI k), .int (nI j), .ref 64] rfl ?_
  refine w_cc (w_vst rfl rfl rfl (Nat.le_of_ble_eq_true rfl) (Nat.le_of_ble_eq_true rfl) (A_k S 64 (by decide))) (lm_c_v (x_lackRules P hj hk) h0) ?_
  show lm_wp _ 106 47 [.ref 64, .int (nI j), .int (nI k), .int (nI N), .int 4, lm_jk, lm_jk] [.int 0] (hi, hl, X) _
  refine w_N 2 51 [.ref 64, .int (nI j), .int (nI k), .int (nI N), .int 4, .int 0, lm_jk] [.int 0] rfl ?_
  refine w_if_eq_t (t := 61) rfl rfl (by decide) ?_
  refine w_N 1 62 [.ref 64, .int (nI j), .int (nI k), .int (nI N), .int 4, .int 0, lm_jk] [.ref 64] rfl ?_
  refine w_gr 65 rfl rfl rfl (A_k S 64 (by decide)) (A_r S 64 0 (by decide)) ?_
  refine w_gi (v := R 10) rfl rfl rfl (T_kd (A_T65 S)) (HR.1) ?_
  refine w_cc rfl (c_awkz hz) ?_
  show lm_wp _ 106 71 [.ref 64, .int (nI j), .int (nI k), .int (nI N), .int 4, .int 0, lm_jk] [.int 1] (hi, hl, X) _
  refine w_if_ne_t (t := 78) rfl rfl (by decide) ?_
  refine w_N 3 82 [.ref 64, .int (nI j), .int (nI k), .int (nI N), .int 4, .int 0, .int 0] [.ref 64] rfl ?_
  refine w_gr 104 rfl rfl rfl (A_k S 64 (by decide)) (A_r S 64 8 (by decide)) ?_
  refine w_N 1 86 [.ref 64, .int (nI j), .int (nI k), .int (nI N), .int 4, .int 0, .int 0] [.ref 64, .ref 104] rfl ?_
  refine w_gr 97 rfl rfl rfl (A_k S 64 (by decide)) (A_r S 64 5 (by decide)) ?_
  refine w_N 1 91 [.ref 64, .int (nI j), .int (nI k), .int (nI N), .int 4, .int 0, .int 0] [.int 0, .ref 97, .ref 104] rfl ?_
  refine w_if_eq_t (t := 98) rfl rfl (by decide) ?_
  refine w_N 1 99 [.ref 64, .int (nI j), .int (nI k), .int (nI N), .int 4, .int 0, .int 0] [.int (nI k), .ref 97, .ref 104] rfl ?_
  refine w_aa k (107 + 2 * k) rfl ⟨by rw [A_k S 97 (by decide)]; decide, by rw [A_k S 97 (by decide)]; decide⟩ (show X.2.2.1 97 = 8 from A_l S 97 (by decide)) rfl hk (by decide) (A_sv S hk) ?_
  refine w_N 1 101 [.ref 64, .int (nI j), .int (nI k), .int (nI N), .int 4, .int 0, .int 0] [.ref 64, .ref (107 + 2 * k), .ref 104] rfl ?_
  refine w_gr 97 rfl rfl rfl (A_k S 64 (by decide)) (A_r S 64 5 (by decide)) ?_
  refine w_N 1 106 [.ref 64, .int (nI j), .int (nI k), .int (nI N), .int 4, .int 0, .int 0] [.int 0, .ref 97, .ref (107 + 2 * k), .ref 104] rfl ?_
  refine w_if_eq_t (t := 113) rfl rfl (by decide) ?_
  refine w_N 1 114 [.ref 64, .int (nI j), .int (nI k), .int (nI N), .int 4, .int 0, .int 0] [.int (nI j), .ref 97, .ref (107 + 2 * k), .ref 104] rfl ?_
  refine w_aa j (107 + 2 * j) rfl ⟨by rw [A_k S 97 (by decide)]; decide, by rw [A_k S 97 (by decide)]; decide⟩ (show X.2.2.1 97 = 8 from A_l S 97 (by decide)) rfl hj (by decide) (A_sv S hj) ?_
  refine w_N 1 116 [.ref 64, .int (nI j), .int (nI k), .int (nI N), .int 4, .int 0, .int 0] [.int (nI N), .ref (107 + 2 * j), .ref (107 + 2 * k), .ref 104] rfl ?_
  refine w_ca (w_vst rfl rfl rfl (Nat.le_of_ble_eq_true rfl) (Nat.le_of_ble_eq_true rfl) (A_k S 104 (by decide))) (z_goByRules (d := d + 14) (K := K) (A := A) S hT hO.1 hz (A_Sf S hk) (A_Sf S hj) (by omega) (by omega) hK ((HV k hk).1.trans e1) ((HV k hk).2.2.1.trans (congrArg nI a1)) ((HV j hj).1.trans e0) ((HV j hj).2.2.1.trans (congrArg nI a0)) (by omega) H FO HR.1) ?_
  rintro _ _ ⟨h5x, rfl, rfl, Z5, f5, FO5⟩
  have P := cP_fore P f5 FO5
  obtain ⟨S, O, H, HR, FO, HV, HT, HF, HK, E0, EL0⟩ := id P
  show lm_wp _ 106 119 [.ref 64, .int (nI j), .int (nI k), .int (nI N), .int 4, .int 0, .int 0] [] (h5x, hl, X) _
  refine w_N 1 121 [.ref 64, .int (nI j), .int (nI k), .int (nI N), .int 4, .int 0, .int 0] [.int 4] rfl ?_
  refine w_ts (t := 167) rfl (by decide) rfl ?_
  refine w_N 1 168 [.ref 64, .int (nI j), .int (nI k), .int (nI N), .int 4, .int 0, .int 0] [.ref 64] rfl ?_
  refine w_gr 104 rfl rfl rfl (A_k S 64 (by decide)) (A_r S 64 8 (by decide)) ?_
  refine w_gi (v := rnZ T n K A (bgZ (R 10)) N 4) rfl rfl rfl (A_k S 104 (by decide)) (Z5.2.2.2.2) ?_
  refine w_ri rfl rfl ?_
  rw [← q.2.2.2.2]
  exact cq_ P (by omega) hC
theorem x_run4 {d : Nat} {hi : Nat → Nat → Int32} {hl : Nat → Nat → Int64} {X : lm_X} {hi0 : Nat → Nat → Int32} {hl0 : Nat → Nat → Int64} {C n ts : Nat} {T : lm_T} {R : Nat → Int32} {KO : ab_K} {V : ab_V} {tl F : Nat → Int32} (P : cP hi0 hl0 hi hl X C T n R KO V ts tl F) {B D : Nat} (Z : okZ B D T n R KO V ts tl) {j k N : Nat} {K A : Nat → Nat} (hj : j < 8) (hk : k < 8) (hN : N ≤ 60) (hK : ∀ h, h < 2 → 1 ≤ K h ∧ K h ≤ 6 ∧ A h ≤ 99) (e0 : (V j).1 = nI (10 + K 0)) (a0 : (V j).2.2.1 = A 0) (e1 : (V k).1 = nI (10 + K 1)) (a1 : (V k).2.2.1 = A 1) (hC : C + 25 < 2147483648) : lm_w (d + 30) 106 [.ref 64, .int (nI j), .int (nI k), .int (nI N), .int 4] (hi, hl, X) (cQ hi0 hl0 X (C + 25) (.int (rnL T n K A (zrR R) N)) T n R KO V ts tl F) := by
  have h := awk_lt (R 10)
  rcases (by omega : awk (R 10) = 0 ∨ awk (R 10) = 1) with h | h
  · exact x_run40 P Z hj hk hN hK e0 a0 e1 a1 h hC
  · exact x_run41 P Z hj hk hN hK e0 a0 e1 a1 h hC
theorem y_run4 {d : Nat} {hi : Nat → Nat → Int32} {hl : Nat → Nat → Int64} {X : lm_X} {hi0 : Nat → Nat → Int32} {hl0 : Nat → Nat → Int64} {X0 : lm_X} {n ts : Nat} {T : lm_T} {R : Nat → Int32} {KO : ab_K} {V : ab_V} {tl F : Nat → Int32} (P : mP hi0 hl0 X0 hi hl X T n R KO V ts tl F) {B D : Nat} (Z : okZ B D T n R KO V ts tl) {j k N : Nat} {K A : Nat → Nat} (hj : j < 8) (hk : k < 8) (hN : N ≤ 60) (hK : ∀ h, h < 2 → 1 ≤ K h ∧ K h ≤ 6 ∧ A h ≤ 99) (e0 : (V j).1 = nI (10 + K 0)) (a0 : (V j).2.2.1 = A 0) (e1 : (V k).1 = nI (10 + K 1)) (a1 : (V k).2.2.1 = A 1) : lm_w (d + 30) 188 [.ref 123, .int (nI j), .int (nI k), .int (nI N), .int 4] (hi, hl, X) (mQ hi0 hl0 X0 (.int (rnL T n K A (zrR R) N)) T n R KO V ts tl F) := by
  obtain ⟨SR, O, H, HR, HV, HT, HF, HK, E0, EL0, EX0⟩ := id P
  have S := SR.1
  obtain ⟨hT, hO, hV, hts, htl, hDB, hB0, hKO⟩ := id Z
  have h0 : lkR (V j).1 (V k).1 = 0 := lkR_0.mpr ⟨rk_u (hK 0 (by decide)).1 (hK 0 (by decide)).2.1 e0, rk_u (hK 1 (by decide)).1 (hK 1 (by decide)).2.1 e1⟩
  refine lm_w_in (Nat.le_of_ble_eq_true rfl) ?_
  show lm_wp (d + 30) 188 0 [.ref 123, .int (nI j), .int (nI k), .int (nI N), .int 4, lm_jk] [] (hi, hl, X) _
  refine w_N 4 6 [.ref 123, .int (nI j), .int (nI k), .int (nI N), .int 4, lm_jk] [.long 7, .long 0, .long ((nI j).toInt64)] rfl ?_
  refine w_cc rfl (lm_c_1 (m_in (x := nI j) (lo := 0) (up := 7) rfl (by decide) (by decide)) (wi_t (n := 7) (Nat.le_of_lt_succ hj) (by decide))) ?_
  show lm_wp _ 188 9 [.ref 123, .int (nI j), .int (nI k), .int (nI N), .int 4, lm_jk] [.int 1] (hi, hl, X) _
  refine w_if_eq_f (t := 49) rfl rfl (by decide) ?_
  refine w_N 4 18 [.ref 123, .int (nI j), .int (nI k), .int (nI N), .int 4, lm_jk] [.long 7, .long 0, .long ((nI k).toInt64)] rfl ?_
  refine w_cc rfl (lm_c_1 (m_in (x := nI k) (lo := 0) (up := 7) rfl (by decide) (by decide)) (wi_t (n := 7) (Nat.le_of_lt_succ hk) (by decide))) ?_
  show lm_wp _ 188 21 [.ref 123, .int (nI j), .int (nI k), .int (nI N), .int 4, lm_jk] [.int 1] (hi, hl, X) _
  refine w_if_eq_f (t := 49) rfl rfl (by decide) ?_
  refine w_N 4 30 [.ref 123, .int (nI j), .int (nI k), .int (nI N), .int 4, lm_jk] [.long 60, .long 0, .long ((nI N).toInt64)] rfl ?_
  refine w_cc rfl (lm_c_1 (m_in (x := nI N) (lo := 0) (up := 60) rfl (by decide) (by decide)) (wi_t (n := 60) hN (by decide))) ?_
  show lm_wp _ 188 33 [.ref 123, .int (nI j), .int (nI k), .int (nI N), .int 4, lm_jk] [.int 1] (hi, hl, X) _
  refine w_if_eq_f (t := 49) rfl rfl (by decide) ?_
  refine w_N 4 43 [.ref 123, .int (nI j), .int (nI k), .int (nI N), .int 4, lm_jk] [.long 4, .long 0, .long 4] rfl ?_
  refine w_cc rfl (lm_c_1 (m_in (x := 4) (lo := 0) (up := 4) (by decide) (by decide) (by decide)) (by decide)) ?_
  show lm_wp _ 188 46 [.ref 123, .int (nI j), .int (nI k), .int (nI N), .int 4, lm_jk] [.int 1] (hi, hl, X) _
  refine w_if_ne_t (t := 59) rfl rfl (by decide) ?_
  refine w_N 3 62 [.ref 123, .int (nI j), .int (nI k), .int (nI N), .int 4, lm_jk] [.int (nI k), .int (nI j), .ref 123] rfl ?_
  refine w_cc (w_vst rfl rfl rfl (Nat.le_of_ble_eq_true rfl) (Nat.le_of_ble_eq_true rfl) (M_kd S)) (m_noRules_0 P hj hk h0) ?_
  show lm_wp _ 188 65 [.ref 123, .int (nI j), .int (nI k), .int (nI N), .int 4, lm_jk] [.int 0] (hi, hl, X) _
  refine w_N 2 69 [.ref 123, .int (nI j), .int (nI k), .int (nI N), .int 4, .int 0] [.int 0] rfl ?_
  refine w_if_eq_t (t := 78) rfl rfl (by decide) ?_
  refine w_N 1 79 [.ref 123, .int (nI j), .int (nI k), .int (nI N), .int 4, .int 0] [.ref 123] rfl ?_
  refine w_ca (w_vst rfl rfl rfl (Nat.le_of_ble_eq_true rfl) (Nat.le_of_ble_eq_true rfl) (M_kd S)) (m_fresh (d := d + 27) SR H HR hO.2.2.2.2.1) ?_
  rintro _ _ ⟨h5x, hl5, X5, rfl, rfl, S5, S7, n23, SR5, H7, R7, f7, fl7, fx7⟩
  have P := mP_new P f7 fl7 fx7 SR5
  obtain ⟨SR, O, H, HR, HV, HT, HF, HK, E0, EL0, EX0⟩ := id P
  have S := SR.1
  show lm_wp _ 188 82 [.ref 123, .int (nI j), .int (nI k), .int (nI N), .int 4, .int 0] [.ref 700] (h5x, hl5, X5) _
  refine w_N 1 83 [.ref 123, .int (nI j), .int (nI k), .int (nI N), .int 4, .int 0] [.ref 123, .ref 700] rfl ?_
  refine w_gr 137 rfl rfl rfl (M_kd S) (M_r S (k := 5) (o := 14) rfl) ?_
  refine w_N 1 87 [.ref 123, .int (nI j), .int (nI k), .int (nI N), .int 4, .int 0] [.int (nI j), .ref 137, .ref 700] rfl ?_
  refine w_ia j (v := nI (K 0)) rfl (show X5.2.1 (137) = 1 from M_k S 14 (by decide)) (show X5.2.2.1 (137) = 8 from M_l S 14 (by decide)) rfl hj (by decide) (((HV j hj).2.2.2.1 (rk_u (hK 0 (by decide)).1 (hK 0 (by decide)).2.1 e0)).trans (rk_e e0)) ?_
  refine w_N 1 89 [.ref 123, .int (nI j), .int (nI k), .int (nI N), .int 4, .int 0] [.ref 123, .int (nI (K 0)), .ref 700] rfl ?_
  refine w_gr 138 rfl rfl rfl (M_kd S) (M_r S (k := 6) (o := 15) rfl) ?_
  refine w_N 1 93 [.ref 123, .int (nI j), .int (nI k), .int (nI N), .int 4, .int 0] [.int (nI j), .ref 138, .int (nI (K 0)), .ref 700] rfl ?_
  refine w_ia j (v := nI (A 0)) rfl (show X5.2.1 (138) = 1 from M_k S 15 (by decide)) (show X5.2.2.1 (138) = 8 from M_l S 15 (by decide)) rfl hj (by decide) ((HV j hj).2.2.2.2.1.trans (congrArg nI a0)) ?_
  refine w_N 1 95 [.ref 123, .int (nI j), .int (nI k), .int (nI N), .int 4, .int 0] [.ref 123, .int (nI (A 0)), .int (nI (K 0)), .ref 700] rfl ?_
  refine w_gr 137 rfl rfl rfl (M_kd S) (M_r S (k := 5) (o := 14) rfl) ?_
  refine w_N 1 99 [.ref 123, .int (nI j), .int (nI k), .int (nI N), .int 4, .int 0] [.int (nI k), .ref 137, .int (nI (A 0)), .int (nI (K 0)), .ref 700] rfl ?_
  refine w_ia k (v := nI (K 1)) rfl (show X5.2.1 (137) = 1 from M_k S 14 (by decide)) (show X5.2.2.1 (137) = 8 from M_l S 14 (by decide)) rfl hk (by decide) (((HV k hk).2.2.2.1 (rk_u (hK 1 (by decide)).1 (hK 1 (by decide)).2.1 e1)).trans (rk_e e1)) ?_
  refine w_N 1 101 [.ref 123, .int (nI j), .int (nI k), .int (nI N), .int 4, .int 0] [.ref 123, .int (nI (K 1)), .int (nI (A 0)), .int (nI (K 0)), .ref 700] rfl ?_
  refine w_gr 138 rfl rfl rfl (M_kd S) (M_r S (k := 6) (o := 15) rfl) ?_
  refine w_N 1 105 [.ref 123, .int (nI j), .int (nI k), .int (nI N), .int 4, .int 0] [.int (nI k), .ref 138, .int (nI (K 1)), .int (nI (A 0)), .int (nI (K 0)), .ref 700] rfl ?_
  refine w_ia k (v := nI (A 1)) rfl (show X5.2.1 (138) = 1 from M_k S 15 (by decide)) (show X5.2.2.1 (138) = 8 from M_l S 15 (by decide)) rfl hk (by decide) ((HV k hk).2.2.2.2.1.trans (congrArg nI a1)) ?_
  refine w_N 1 107 [.ref 123, .int (nI j), .int (nI k), .int (nI N), .int 4, .int 0] [.int (nI N), .int (nI (A 1)), .int (nI (K 1)), .int (nI (A 0)), .int (nI (K 0)), .ref 700] rfl ?_
  refine w_ca (w_vst rfl rfl rfl (Nat.le_of_ble_eq_true rfl) (Nat.le_of_ble_eq_true rfl) (M_kd S7)) (m_runs (d := d + 21) (K := K) (A := A) S7 hT (okR_zr hO) (by omega) (by omega) hK H7 R7) ?_
  rintro _ _ ⟨h6x, rfl, rfl, H8, R8, Q8, B8, L8⟩
  have P := mP_tried P (fun a ha => Q8.1 a (by omega))
  obtain ⟨SR, O, H, HR, HV, HT, HF, HK, E0, EL0, EX0⟩ := id P
  have S := SR.1
  show lm_wp _ 188 110 [.ref 123, .int (nI j), .int (nI k), .int (nI N), .int 4, .int 0] [] (h6x, hl5, X5) _
  refine w_N 1 112 [.ref 123, .int (nI j), .int (nI k), .int (nI N), .int 4, .int 0] [.int 4] rfl ?_
  refine w_ts (t := 156) rfl (by decide) rfl ?_
  refine w_N 1 157 [.ref 123, .int (nI j), .int (nI k), .int (nI N), .int 4, .int 0] [.ref 123] rfl ?_
  refine w_gr 700 rfl rfl rfl (M_kd S) n23 ?_
  refine w_gi (v := rnL T n K A (zrR R) N) rfl rfl rfl (M_kd S7) (L8) ?_
  refine w_ri rfl rfl ?_
  exact mq_ P
theorem st_run {B D : Nat} {n ts : Nat} {T : lm_T} {R : Nat → Int32} {KO : ab_K} {V : ab_V} {tl F : Nat → Int32} {s t m w : Int32} (Z : okZ B D T n R KO V ts tl) (hB : B + 20 < 2000000) : STEP B 106 188 [.int s, .int t, .int m, .int w] T n R KO V ts tl F := by
  obtain ⟨hT, hO, hV, hts, htl, hDB, hB0, hKO⟩ := id Z
  by_cases hb : (wi s 0 7 && wi t 0 7 && wi m 0 60 && wi w 0 4) = false
  · exact ⟨_, D, _, _, _, _, _, _, _, _, okZ_up Z hB, fun _ _ _ _ _ _ P hC => x_run_b (d := 10) P hb hC, fun _ _ _ _ _ _ P => y_run_b (d := 10) P hb⟩
  · obtain ⟨q, h4⟩ := and2_t hb
    obtain ⟨h1, h2, h3⟩ := and3_t (by rw [q]; decide)
    obtain ⟨j, rfl, hj⟩ := wi_e (n := 7) h1 (by decide)
    obtain ⟨k, rfl, hk⟩ := wi_e (n := 7) h2 (by decide)
    obtain ⟨N, rfl, hN⟩ := wi_e (n := 60) h3 (by decide)
    obtain ⟨w, rfl, hw⟩ := wi_e (n := 4) h4 (by decide)
    by_cases h0 : lkR (V j).1 (V k).1 = 0
    · obtain ⟨x, x1, x6, ex⟩ := (okC_rule (hV j (by omega)).1).mp (lkR_0.mp h0).1
      obtain ⟨y, y1, y6, ey⟩ := (okC_rule (hV k (by omega)).1).mp (lkR_0.mp h0).2
      have hK := k2_ok (a := x) (b := y) (x := (V j).2.2.1) (y := (V k).2.2.1) ⟨x1, x6, (hV j (by omega)).2.2⟩ ⟨y1, y6, (hV k (by omega)).2.2⟩
      rcases (by omega : w = 0 ∨ w = 1 ∨ w = 2 ∨ w = 3 ∨ w = 4) with rfl | rfl | rfl | rfl | rfl
      · exact ⟨_, D, _, _, _, _, _, _, _, _, okZ_up Z hB, fun _ _ _ _ _ _ P hC => x_run0 (d := 10) P Z (by omega) (by omega) hN hK ex rfl ey rfl hC, fun _ _ _ _ _ _ P => y_run0 (d := 10) P Z (by omega) (by omega) hN hK ex rfl ey rfl⟩
      · exact ⟨_, D, _, _, _, _, _, _, _, _, okZ_up Z hB, fun _ _ _ _ _ _ P hC => x_run1 (d := 10) P Z (by omega) (by omega) hN hK ex rfl ey rfl hC, fun _ _ _ _ _ _ P => y_run1 (d := 10) P Z (by omega) (by omega) hN hK ex rfl ey rfl⟩
      · exact ⟨_, D, _, _, _, _, _, _, _, _, okZ_up Z hB, fun _ _ _ _ _ _ P hC => x_run2 (d := 10) P Z (by omega) (by omega) hN hK ex rfl ey rfl hC, fun _ _ _ _ _ _ P => y_run2 (d := 10) P Z (by omega) (by omega) hN hK ex rfl ey rfl⟩
      · exact ⟨_, D, _, _, _, _, _, _, _, _, okZ_up Z hB, fun _ _ _ _ _ _ P hC => x_run3 (d := 10) P Z (by omega) (by omega) hN hK ex rfl ey rfl hC, fun _ _ _ _ _ _ P => y_run3 (d := 10) P Z (by omega) (by omega) hN hK ex rfl ey rfl⟩
      · exact ⟨_, D, _, _, _, _, _, _, _, _, okZ_up Z hB, fun _ _ _ _ _ _ P hC => x_run4 (d := 10) P Z (by omega) (by omega) hN hK ex rfl ey rfl hC, fun _ _ _ _ _ _ P => y_run4 (d := 10) P Z (by omega) (by omega) hN hK ex rfl ey rfl⟩
    · exact ⟨_, D, _, _, _, _, _, _, _, _, okZ_up Z hB, fun _ _ _ _ _ _ P hC => x_run_l (d := 10) P (by omega) (by omega) hN hw h0 hC, fun _ _ _ _ _ _ P => y_run_l (d := 10) P (by omega) (by omega) hN hw h0⟩
