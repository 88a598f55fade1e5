set_option maxRecDepth 16384
/-! calls: say -/
theorem bt_one {m i : Nat} (hm : m < 31) (hi : i < 32) : bt (1 <<< (nI m &&& 31)) i = decide (m = i) := by
  rw [sh_lit (by omega), show (1 : Int32) = nI 1 from rfl, sl_nI (by omega), Nat.one_mul, bt_nI hi, Nat.testBit_two_pow]
theorem lky_bt (T : lm_T) (hf : Nat) (bef st sn : Int32) {i : Nat} (hi : i < 32) (h11 : 11 ≤ i) : ∀ m, m ≤ 11 → bt (lky T hf bef st sn m) i = false := by
  intro m
  induction m with
  | zero => intro _; show bt 0 i = false; unfold bt; exact BitVec.getLsbD_zero
  | succ m ih =>
    intro hm
    have ih := ih (by omega)
    unfold lky
    split
    · rw [bt_or, ih, Bool.false_or]
      by_cases e : m = 0
      · rw [if_pos e, show (10 : Int32) = nI 10 from rfl, bt_one (by omega) hi, decide_eq_false (by omega)]
      · rw [if_neg e]
        obtain ⟨k, rfl⟩ : ∃ k, m = k + 1 := ⟨m - 1, by omega⟩
        show bt (1 <<< (nI k &&& 31)) i = false
        rw [bt_one (by omega) hi, decide_eq_false (by omega)]
    · exact ih
theorem lky_lt (T : lm_T) (hf : Nat) (bef st sn : Int32) {n : Nat} (hn : n ≤ 10) : ∃ v, v < 2048 ∧ lky T hf bef st sn (n + 1) = nI v := by
  have q := low_nI (x := lky T hf bef st sn (n + 1)) (k := 11) (by decide) (fun i h1 h2 => lky_bt T hf bef st sn h1 h2 (n + 1) (by omega))
  exact ⟨_, q.1, q.2⟩
theorem and_lt {u m : Nat} (hu : u < 256) : ∃ v, v < 256 ∧ nI u &&& (nI m ^^^ (-1)) = nI v := by
  have q := low_nI (x := nI u &&& (nI m ^^^ (-1))) (k := 8) (by decide) (fun i h1 h2 => by
    rw [bt_and, bt_nI h1, Nat.testBit_lt_two_pow (Nat.lt_of_lt_of_le hu (Nat.pow_le_pow_right (n := 2) (by decide) h2)), Bool.false_and])
  exact ⟨_, q.1, q.2⟩
theorem bsm_low : ∀ v, v < 2048 → bsm (nI v) 11 < 2000000000 := by decide +kernel
def wdS (w u : Nat) : Int32 := if nI w < bsm (nI u) 11 then nI w else bsm (nI u) 11
theorem min_e (x y : Int32) : (if y < x then y else x) = if x < y then x else y := by
  by_cases h1 : y < x
  · rw [if_pos h1, if_neg (fun h2 => by rw [i32_lt] at h1 h2; omega)]
  · by_cases h2 : x < y
    · rw [if_neg h1, if_pos h2]
    · rw [if_neg h1, if_neg h2]
      apply Int32.toInt_inj.mp
      rw [i32_lt] at h1 h2
      omega
def pkg (u w : Nat) : Nat → Nat × Nat
  | 0 => (0, 0)
  | i + 1 => if u.testBit i = true ∧ (pkg u w i).2 < w then ((pkg u w i).1 + 2 ^ i, (pkg u w i).2 + 1) else pkg u w i
theorem pk_ok : ∀ u, u < 256 → ∀ w, w < 9 → (pkg u w 8).1 < 256 ∧ nI (pkg u w 8).1 &&& (nI u ^^^ (-1)) = 0 ∧ bsm (nI (pkg u w 8).1) 11 = wdS w u := by decide +kernel
def tlS (u : Nat) (wd : Int32) (m : Nat) : Prop := nI m &&& (nI u ^^^ (-1)) = 0 ∧ bsm (nI m) 11 = wd
def syS (u : Nat) (wd : Int32) (lf : Nat → Int32) : Nat → Nat × Int32
  | 0 => (0, 2000000000)
  | m + 1 => if (nI m &&& (nI u ^^^ (-1)) = 0 ∧ bsm (nI m) 11 = wd) ∧ lf m < (syS u wd lf m).2 then (m + 1, lf m) else syS u wd lf m
theorem sy_le (u : Nat) (wd : Int32) (lf : Nat → Int32) : ∀ m, ¬ 2000000000 < (syS u wd lf m).2 := by
  intro m
  induction m with
  | zero => exact fun z => Int32.lt_irrefl z
  | succ m ih =>
    unfold syS
    split
    · rename_i h
      have h2 := h.2
      intro z
      have z : (2000000000 : Int32) < lf m := z
      rw [i32_lt] at z h2 ih
      omega
    · exact ih
theorem sy_0 (u : Nat) (wd : Int32) (lf : Nat → Int32) : ∀ m, (syS u wd lf m).1 = 0 → (syS u wd lf m).2 = 2000000000 ∧ ∀ i, i < m → ¬ (tlS u wd i ∧ lf i < 2000000000) := by
  intro m
  induction m with
  | zero => intro _; exact ⟨rfl, fun i h => by omega⟩
  | succ m ih =>
    unfold syS
    split
    · intro z; exact absurd z (Nat.succ_ne_zero m)
    · rename_i h
      intro z
      obtain ⟨q1, q2⟩ := ih z
      refine ⟨q1, fun i hi => ?_⟩
      by_cases e : i = m
      · subst e; rw [q1] at h; exact h
      · exact q2 i (by omega)
theorem sy_lt (u : Nat) (wd : Int32) (lf : Nat → Int32) : ∀ m, (syS u wd lf m).1 ≤ m := by
  intro m
  induction m with
  | zero => exact Nat.le_refl _
  | succ m ih =>
    unfold syS
    split
    · exact Nat.le_refl _
    · omega
def lfS (T : lm_T) (n : Nat) (R : Nat → Int32) (u m : Nat) : Int32 := bsm (lky T (awk (R 14)) (R 14) (R 10) ((nI u &&& (nI m ^^^ (-1))) ^^^ (-1)) (n + 1)) 11
theorem lf_low (T : lm_T) {n : Nat} (R : Nat → Int32) (u m : Nat) (hn : n ≤ 10) : lfS T n R u m < 2000000000 := by
  unfold lfS
  obtain ⟨v, hv, e⟩ := lky_lt T (awk (R 14)) (R 14) (R 10) ((nI u &&& (nI m ^^^ (-1))) ^^^ (-1)) hn
  rw [e]
  exact bsm_low v hv
theorem sy_ne (T : lm_T) {n : Nat} (R : Nat → Int32) {u w : Nat} (hn : n ≤ 10) (hu : u < 256) (hw : w ≤ 8) : (syS u (wdS w u) (lfS T n R u) 256).1 ≠ 0 := fun z => by
  have q := pk_ok u hu w (by omega)
  exact (sy_0 u (wdS w u) (lfS T n R u) 256 z).2 _ q.1 ⟨q.2, lf_low T R u _ hn⟩
theorem x_say_b {d : Nat} {hi : Nat → Nat → Int32} {hl : Nat → Nat → Int64} {X : lm_X} {hi0 : Nat → Nat → Int32} {hl0 : Nat → Nat → Int64} {C n ts : Nat} {T : lm_T} {R : Nat → Int32} {KO : ab_K} {V : ab_V} {tl F : Nat → Int32} (P : cP hi0 hl0 hi hl X C T n R KO V ts tl F) {w h : Int32}  (hb : (wi w 0 8 && wi h 0 1) = false) (hC : C + 25 < 2147483648) : lm_w (d + 30) 119 [.ref 64, .int w, .int h] (hi, hl, X) (cQ hi0 hl0 X (C + 25) (.int (-2)) T n R KO V ts tl (rfU F (-2))) := by
  obtain ⟨S, O, H, HR, FO, HV, HT, HF, HK, E0, EL0⟩ := id P
  refine lm_w_in (Nat.le_of_ble_eq_true rfl) ?_
  show lm_wp (d + 30) 119 0 [.ref 64, .int w, .int h, lm_jk, lm_jk, lm_jk, lm_jk, lm_jk, lm_jk] [] (hi, hl, X) _
  refine w_N 3 4 [.ref 64, .int w, .int h, lm_jk, lm_jk, lm_jk, lm_jk, lm_jk, lm_jk] [.int 8, .int 0, .int w] rfl ?_
  refine w_cc rfl x_within ?_
  show lm_wp _ 119 7 [.ref 64, .int w, .int h, lm_jk, lm_jk, lm_jk, lm_jk, lm_jk, lm_jk] [.int (bz (wi w 0 8))] (hi, hl, X) _
  refine w_zeq (t := 19) rfl rfl (fun c1 => ?_) (fun c1 => ?_)
  · refine w_N 2 22 [.ref 64, .int w, .int h, lm_jk, lm_jk, lm_jk, lm_jk, lm_jk, lm_jk] [.int (-2), .ref 64] rfl ?_
    refine w_ca (w_vst rfl rfl rfl (Nat.le_of_ble_eq_true rfl) (Nat.le_of_ble_eq_true rfl) (A_k S 64 (by decide))) (x_refuse P (by unfold isW; decide)) ?_
    rintro _ _ ⟨rfl, hi9, rfl, P9⟩
    show lm_wp _ 119 25 [.ref 64, .int w, .int h, lm_jk, lm_jk, lm_jk, lm_jk, lm_jk, lm_jk] [.int (-2)] (hi9, hl, X) _
    refine w_ri rfl rfl ?_
    exact cq_ P9 (by omega) hC
  · refine w_N 3 13 [.ref 64, .int w, .int h, lm_jk, lm_jk, lm_jk, lm_jk, lm_jk, lm_jk] [.int 1, .int 0, .int h] rfl ?_
    refine w_cc rfl x_within ?_
    show lm_wp _ 119 16 [.ref 64, .int w, .int h, lm_jk, lm_jk, lm_jk, lm_jk, lm_jk, lm_jk] [.int (bz (wi h 0 1))] (hi, hl, X) _
    refine w_zne (t := 26) rfl rfl (fun c2 => ?_) (fun c2 => ?_)
    · exact absurd hb (by simp [c1, c2])
    · refine w_N 2 22 [.ref 64, .int w, .int h, lm_jk, lm_jk, lm_jk, lm_jk, lm_jk, lm_jk] [.int (-2), .ref 64] rfl ?_
      refine w_ca (w_vst rfl rfl rfl (Nat.le_of_ble_eq_true rfl) (Nat.le_of_ble_eq_true rfl) (A_k S 64 (by decide))) (x_refuse P (by unfold isW; decide)) ?_
      rintro _ _ ⟨rfl, hi9, rfl, P9⟩
      show lm_wp _ 119 25 [.ref 64, .int w, .int h, lm_jk, lm_jk, lm_jk, lm_jk, lm_jk, lm_jk] [.int (-2)] (hi9, hl, X) _
      refine w_ri rfl rfl ?_
      exact cq_ P9 (by omega) hC
theorem y_say_b {d : Nat} {hi : Nat → Nat → Int32} {hl : Nat → Nat → Int64} {X : lm_X} {hi0 : Nat → Nat → Int32} {hl0 : Nat → Nat → Int64} {X0 : lm_X} {n ts : Nat} {T : lm_T} {R : Nat → Int32} {KO : ab_K} {V : ab_V} {tl F : Nat → Int32} (P : mP hi0 hl0 X0 hi hl X T n R KO V ts tl F) {w h : Int32}  (hb : (wi w 0 8 && wi h 0 1) = false) : lm_w (d + 30) 211 [.ref 123, .int w, .int h] (hi, hl, X) (mQ hi0 hl0 X0 (.int (-2)) T n R KO V ts tl (rfU F (-2))) := by
  obtain ⟨SR, O, H, HR, HV, HT, HF, HK, E0, EL0, EX0⟩ := id P
  have S := SR.1
  refine lm_w_in (Nat.le_of_ble_eq_true rfl) ?_
  show lm_wp (d + 30) 211 0 [.ref 123, .int w, .int h, lm_jk, lm_jk, lm_jk, lm_jk, lm_jk] [] (hi, hl, X) _
  refine w_N 4 6 [.ref 123, .int w, .int h, lm_jk, lm_jk, lm_jk, lm_jk, lm_jk] [.long 8, .long 0, .long w.toInt64] rfl ?_
  refine w_cc rfl (m_in (x := w) (lo := 0) (up := 8) rfl (by decide) (by decide)) ?_
  show lm_wp _ 211 9 [.ref 123, .int w, .int h, lm_jk, lm_jk, lm_jk, lm_jk, lm_jk] [.int (bz (wi w 0 8))] (hi, hl, X) _
  refine w_zeq (t := 22) rfl rfl (fun c1 => ?_) (fun c1 => ?_)
  · refine w_N 2 25 [.ref 123, .int w, .int h, lm_jk, lm_jk, lm_jk, lm_jk, lm_jk] [.int (-2), .ref 123] rfl ?_
    refine w_ca (w_vst rfl rfl rfl (Nat.le_of_ble_eq_true rfl) (Nat.le_of_ble_eq_true rfl) (M_kd S)) (m_refuse P (by unfold isW; decide)) ?_
    rintro _ _ ⟨rfl, hi9, rfl, P9⟩
    show lm_wp _ 211 28 [.ref 123, .int w, .int h, lm_jk, lm_jk, lm_jk, lm_jk, lm_jk] [.int (-2)] (hi9, hl, X) _
    refine w_ri rfl rfl ?_
    exact mq_ P9
  · refine w_N 4 16 [.ref 123, .int w, .int h, lm_jk, lm_jk, lm_jk, lm_jk, lm_jk] [.long 1, .long 0, .long h.toInt64] rfl ?_
    refine w_cc rfl (m_in (x := h) (lo := 0) (up := 1) rfl (by decide) (by decide)) ?_
    show lm_wp _ 211 19 [.ref 123, .int w, .int h, lm_jk, lm_jk, lm_jk, lm_jk, lm_jk] [.int (bz (wi h 0 1))] (hi, hl, X) _
    refine w_zne (t := 29) rfl rfl (fun c2 => ?_) (fun c2 => ?_)
    · exact absurd hb (by simp [c1, c2])
    · refine w_N 2 25 [.ref 123, .int w, .int h, lm_jk, lm_jk, lm_jk, lm_jk, lm_jk] [.int (-2), .ref 123] rfl ?_
      refine w_ca (w_vst rfl rfl rfl (Nat.le_of_ble_eq_true rfl) (Nat.le_of_ble_eq_true rfl) (M_kd S)) (m_refuse P (by unfold isW; decide)) ?_
      rintro _ _ ⟨rfl, hi9, rfl, P9⟩
      show lm_wp _ 211 28 [.ref 123, .int w, .int h, lm_jk, lm_jk, lm_jk, lm_jk, lm_jk] [.int (-2)] (hi9, hl, X) _
      refine w_ri rfl rfl ?_
      exact mq_ P9
theorem x_say_n {d : Nat} {hi : Nat → Nat → Int32} {hl : Nat → Nat → Int64} {X : lm_X} {hi0 : Nat → Nat → Int32} {hl0 : Nat → Nat → Int64} {C n ts : Nat} {T : lm_T} {R : Nat → Int32} {KO : ab_K} {V : ab_V} {tl F : Nat → Int32} (P : cP hi0 hl0 hi hl X C T n R KO V ts tl F) {w h : Nat} (hw : w ≤ 8) (hh : h ≤ 1) (h15 : R 15 = 0) (hC : C + 25 < 2147483648) : lm_w (d + 30) 119 [.ref 64, .int (nI w), .int (nI h)] (hi, hl, X) (cQ hi0 hl0 X (C + 25) (.int (-5)) T n R KO V ts tl (rfU F (-5))) := by
  obtain ⟨S, O, H, HR, FO, HV, HT, HF, HK, E0, EL0⟩ := id P
  refine lm_w_in (Nat.le_of_ble_eq_true rfl) ?_
  show lm_wp (d + 30) 119 0 [.ref 64, .int (nI w), .int (nI h), lm_jk, lm_jk, lm_jk, lm_jk, lm_jk, lm_jk] [] (hi, hl, X) _
  refine w_N 3 4 [.ref 64, .int (nI w), .int (nI h), lm_jk, lm_jk, lm_jk, lm_jk, lm_jk, lm_jk] [.int 8, .int 0, .int (nI w)] rfl ?_
  refine w_cc rfl (x_within1 (wi_t (n := 8) hw (by decide))) ?_
  show lm_wp _ 119 7 [.ref 64, .int (nI w), .int (nI h), lm_jk, lm_jk, lm_jk, lm_jk, lm_jk, lm_jk] [.int 1] (hi, hl, X) _
  refine w_if_eq_f (t := 19) rfl rfl (by decide) ?_
  refine w_N 3 13 [.ref 64, .int (nI w), .int (nI h), lm_jk, lm_jk, lm_jk, lm_jk, lm_jk, lm_jk] [.int 1, .int 0, .int (nI h)] rfl ?_
  refine w_cc rfl (x_within1 (wi_t (n := 1) hh (by decide))) ?_
  show lm_wp _ 119 16 [.ref 64, .int (nI w), .int (nI h), lm_jk, lm_jk, lm_jk, lm_jk, lm_jk, lm_jk] [.int 1] (hi, hl, X) _
  refine w_if_ne_t (t := 26) rfl rfl (by decide) ?_
  refine w_N 1 27 [.ref 64, .int (nI w), .int (nI h), lm_jk, lm_jk, lm_jk, lm_jk, lm_jk, lm_jk] [.ref 64] rfl ?_
  refine w_gr 65 rfl rfl rfl (A_k S 64 (by decide)) (A_r S 64 0 (by decide)) ?_
  refine w_gi (v := R 15) rfl rfl rfl (T_kd (A_T65 S)) (HR.2.2.2.2.2.1) ?_
  refine w_if_ne_f (t := 43) rfl rfl h15 ?_
  refine w_N 2 39 [.ref 64, .int (nI w), .int (nI h), lm_jk, lm_jk, lm_jk, lm_jk, lm_jk, lm_jk] [.int (-5), .ref 64] rfl ?_
  refine w_ca (w_vst rfl rfl rfl (Nat.le_of_ble_eq_true rfl) (Nat.le_of_ble_eq_true rfl) (A_k S 64 (by decide))) (x_refuse P (by unfold isW; decide)) ?_
  rintro _ _ ⟨rfl, hi9, rfl, P9⟩
  show lm_wp _ 119 42 [.ref 64, .int (nI w), .int (nI h), lm_jk, lm_jk, lm_jk, lm_jk, lm_jk, lm_jk] [.int (-5)] (hi9, hl, X) _
  refine w_ri rfl rfl ?_
  exact cq_ P9 (by omega) hC
theorem y_say_n {d : Nat} {hi : Nat → Nat → Int32} {hl : Nat → Nat → Int64} {X : lm_X} {hi0 : Nat → Nat → Int32} {hl0 : Nat → Nat → Int64} {X0 : lm_X} {n ts : Nat} {T : lm_T} {R : Nat → Int32} {KO : ab_K} {V : ab_V} {tl F : Nat → Int32} (P : mP hi0 hl0 X0 hi hl X T n R KO V ts tl F) {w h : Nat} (hw : w ≤ 8) (hh : h ≤ 1) (h15 : R 15 = 0) : lm_w (d + 30) 211 [.ref 123, .int (nI w), .int (nI h)] (hi, hl, X) (mQ hi0 hl0 X0 (.int (-5)) T n R KO V ts tl (rfU F (-5))) := by
  obtain ⟨SR, O, H, HR, HV, HT, HF, HK, E0, EL0, EX0⟩ := id P
  have S := SR.1
  refine lm_w_in (Nat.le_of_ble_eq_true rfl) ?_
  show lm_wp (d + 30) 211 0 [.ref 123, .int (nI w), .int (nI h), lm_jk, lm_jk, lm_jk, lm_jk, lm_jk] [] (hi, hl, X) _
  refine w_N 4 6 [.ref 123, .int (nI w), .int (nI h), lm_jk, lm_jk, lm_jk, lm_jk, lm_jk] [.long 8, .long 0, .long ((nI w).toInt64)] rfl ?_
  refine w_cc rfl (lm_c_1 (m_in (x := nI w) (lo := 0) (up := 8) rfl (by decide) (by decide)) (wi_t (n := 8) hw (by decide))) ?_
  show lm_wp _ 211 9 [.ref 123, .int (nI w), .int (nI h), lm_jk, lm_jk, lm_jk, lm_jk, lm_jk] [.int 1] (hi, hl, X) _
  refine w_if_eq_f (t := 22) rfl rfl (by decide) ?_
  refine w_N 4 16 [.ref 123, .int (nI w), .int (nI h), lm_jk, lm_jk, lm_jk, lm_jk, lm_jk] [.long 1, .long 0, .long ((nI h).toInt64)] rfl ?_
  refine w_cc rfl (lm_c_1 (m_in (x := nI h) (lo := 0) (up := 1) rfl (by decide) (by decide)) (wi_t (n := 1) hh (by decide))) ?_
  show lm_wp _ 211 19 [.ref 123, .int (nI w), .int (nI h), lm_jk, lm_jk, lm_jk, lm_jk, lm_jk] [.int 1] (hi, hl, X) _
  refine w_if_ne_t (t := 29) rfl rfl (by decide) ?_
  refine w_N 1 30 [.ref 123, .int (nI w), .int (nI h), lm_jk, lm_jk, lm_jk, lm_jk, lm_jk] [.ref 123] rfl ?_
  refine w_gi (v := R 15) rfl rfl rfl (M_kd S) (HR.2.2.2.2.2.1) ?_
  refine w_if_ne_f (t := 43) rfl rfl h15 ?_
  refine w_N 2 39 [.ref 123, .int (nI w), .int (nI h), lm_jk, lm_jk, lm_jk, lm_jk, lm_jk] [.int (-5), .ref 123] rfl ?_
  refine w_ca (w_vst rfl rfl rfl (Nat.le_of_ble_eq_true rfl) (Nat.le_of_ble_eq_true rfl) (M_kd S)) (m_refuse P (by unfold isW; decide)) ?_
  rintro _ _ ⟨rfl, hi9, rfl, P9⟩
  show lm_wp _ 211 42 [.ref 123, .int (nI w), .int (nI h), lm_jk, lm_jk, lm_jk, lm_jk, lm_jk] [.int (-5)] (hi9, hl, X) _
  refine w_ri rfl rfl ?_
  exact mq_ P9
theorem x_sayl0 {d : Nat} {hi : Nat → Nat → Int32} {hl : Nat → Nat → Int64} {X : lm_X} {w u n : Nat} {T : lm_T} {R : Nat → Int32} (S : sh_A X) (H : isT hi 65 T n) (HR : isR hi 65 R) (eu : R 11 = nI u) {P : Option Value → lm_H → Prop} (kc : ∀ (c : Int32) (x7 x8 : Value), lm_wp (d + 20) 119 164 [.ref 64, .int (nI w), .int 0, .int (wdS w u), .int (aI (syS u (wdS w u) (lfS T n R u) 256).1), .int (syS u (wdS w u) (lfS T n R u) 256).2, .int c, x7, x8] [] (hi, hl, X) P) : ∀ (r m : Nat) (fs : Int32) (ms : Int32) (mk : Int32) (x7 : Value) (x8 : Value), m + r = 256 → (fs = aI (syS u (wdS w u) (lfS T n R u) m).1) → (ms = (syS u (wdS w u) (lfS T n R u) m).2) → (mk = nI m) → lm_wp (d + 20) 119 69 [.ref 64, .int (nI w), .int 0, .int (wdS w u), .int fs, .int ms, .int mk, x7, x8] [] (hi, hl, X) P := by
  intro r
  induction r with
  | zero =>
    intro m fs ms mk x7 x8 hm e1 e3 e2
    refine w_N 2 74 [.ref 64, .int (nI w), .int 0, .int (wdS w u), .int fs, .int ms, .int mk, x7, x8] [.int 255, .int mk] rfl ?_
    refine w_icmp_gt_t (t := 164) rfl rfl (by rw [e2, show m = 256 by omega]; decide) ?_
    obtain rfl : m = 256 := by omega
    rw [e1, e3]
    exact kc _ _ _
  | succ r ih =>
    intro m fs ms mk x7 x8 hm e1 e3 e2
    have hn10 := isTle H
    refine w_N 2 74 [.ref 64, .int (nI w), .int 0, .int (wdS w u), .int fs, .int ms, .int mk, x7, x8] [.int 255, .int mk] rfl ?_
    refine w_icmp_gt_f (t := 164) rfl rfl (by rw [e2, show (255 : Int32) = nI 255 from rfl, nI_lt_iff (by omega) (by omega)]; omega) ?_
    refine w_N 2 80 [.ref 64, .int (nI w), .int 0, .int (wdS w u), .int fs, .int ms, .int mk, x7, x8] [.ref 64, .int mk] rfl ?_
    refine w_gr 65 rfl rfl rfl (A_k S 64 (by decide)) (A_r S 64 0 (by decide)) ?_
    refine w_gi (v := nI u) rfl rfl rfl (T_kd (A_T65 S)) (HR.2.1.trans eu) ?_
    refine w_N 3 89 [.ref 64, .int (nI w), .int 0, .int (wdS w u), .int fs, .int ms, .int mk, x7, x8] [.int (mk &&& ((nI u) ^^^ (-1)))] rfl ?_
    refine w_if_ne (t := 105) rfl rfl (fun c1 => ?_) (fun c1 => ?_)
    · refine w_N 3 110 [.ref 64, .int (nI w), .int 0, .int (wdS w u), .int fs, .int ms, .int mk, .int 0, x8] [.int 0] rfl ?_
      refine w_if_eq_t (t := 138) rfl rfl (by decide) ?_
      refine w_N 4 147 [.ref 64, .int (nI w), .int 0, .int (wdS w u), .int fs, .int ms, .int mk, .int 0, .int 2000000000] [.int ms, .int 2000000000] rfl ?_
      refine w_icmp_ge (t := 158) rfl rfl (fun c2 => ?_) (fun c2 => ?_)
      · refine w_N 2 69 [.ref 64, .int (nI w), .int 0, .int (wdS w u), .int fs, .int ms, .int (mk + 1), .int 0, .int 2000000000] [] rfl ?_
        refine ih (m + 1) _ _ _ _ _ (by omega) ?_ ?_ (by rw [e2, nI_succ])
        · show _ = aI (if (nI m &&& (nI u ^^^ (-1)) = 0 ∧ bsm (nI m) 11 = wdS w u) ∧ lfS T n R u m < (syS u (wdS w u) (lfS T n R u) m).2 then (m + 1, lfS T n R u m) else syS u (wdS w u) (lfS T n R u) m).1
          rw [if_neg (fun z => c1 (by rw [e2]; exact z.1.1))]; exact e1
        · show _ = (if (nI m &&& (nI u ^^^ (-1)) = 0 ∧ bsm (nI m) 11 = wdS w u) ∧ lfS T n R u m < (syS u (wdS w u) (lfS T n R u) m).2 then (m + 1, lfS T n R u m) else syS u (wdS w u) (lfS T n R u) m).2
          rw [if_neg (fun z => c1 (by rw [e2]; exact z.1.1))]; exact e3
      · refine w_N 6 69 [.ref 64, .int (nI w), .int 0, .int (wdS w u), .int mk, .int 2000000000, .int (mk + 1), .int 0, .int 2000000000] [] rfl ?_
        exact absurd (by rw [← e3]; exact c2) (sy_le u (wdS w u) (lfS T n R u) m)
    · refine w_N 1 94 [.ref 64, .int (nI w), .int 0, .int (wdS w u), .int fs, .int ms, .int mk, x7, x8] [.int mk] rfl ?_
      refine w_cc rfl (lm_c_v (y := bsm (nI m) 11) j_bitCount (by rw [e2]; exact bcn_bsm m (by omega))) ?_
      show lm_wp _ 119 97 [.ref 64, .int (nI w), .int 0, .int (wdS w u), .int fs, .int ms, .int mk, x7, x8] [.int (bsm (nI m) 11)] (hi, hl, X) _
      refine w_N 1 98 [.ref 64, .int (nI w), .int 0, .int (wdS w u), .int fs, .int ms, .int mk, x7, x8] [.int (wdS w u), .int (bsm (nI m) 11)] rfl ?_
      refine w_icmp_ne (t := 105) rfl rfl (fun c3 => ?_) (fun c3 => ?_)
      · refine w_N 3 110 [.ref 64, .int (nI w), .int 0, .int (wdS w u), .int fs, .int ms, .int mk, .int 0, x8] [.int 0] rfl ?_
        refine w_if_eq_t (t := 138) rfl rfl (by decide) ?_
        refine w_N 4 147 [.ref 64, .int (nI w), .int 0, .int (wdS w u), .int fs, .int ms, .int mk, .int 0, .int 2000000000] [.int ms, .int 2000000000] rfl ?_
        refine w_icmp_ge (t := 158) rfl rfl (fun c4 => ?_) (fun c4 => ?_)
        · refine w_N 2 69 [.ref 64, .int (nI w), .int 0, .int (wdS w u), .int fs, .int ms, .int (mk + 1), .int 0, .int 2000000000] [] rfl ?_
          refine ih (m + 1) _ _ _ _ _ (by omega) ?_ ?_ (by rw [e2, nI_succ])
          · show _ = aI (if (nI m &&& (nI u ^^^ (-1)) = 0 ∧ bsm (nI m) 11 = wdS w u) ∧ lfS T n R u m < (syS u (wdS w u) (lfS T n R u) m).2 then (m + 1, lfS T n R u m) else syS u (wdS w u) (lfS T n R u) m).1
            rw [if_neg (fun z => c3 (z.1.2))]; exact e1
          · show _ = (if (nI m &&& (nI u ^^^ (-1)) = 0 ∧ bsm (nI m) 11 = wdS w u) ∧ lfS T n R u m < (syS u (wdS w u) (lfS T n R u) m).2 then (m + 1, lfS T n R u m) else syS u (wdS w u) (lfS T n R u) m).2
            rw [if_neg (fun z => c3 (z.1.2))]; exact e3
        · refine w_N 6 69 [.ref 64, .int (nI w), .int 0, .int (wdS w u), .int mk, .int 2000000000, .int (mk + 1), .int 0, .int 2000000000] [] rfl ?_
          exact absurd (by rw [← e3]; exact c4) (sy_le u (wdS w u) (lfS T n R u) m)
      · refine w_N 4 110 [.ref 64, .int (nI w), .int 0, .int (wdS w u), .int fs, .int ms, .int mk, .int 1, x8] [.int 1] rfl ?_
        refine w_if_eq_f (t := 138) rfl rfl (by decide) ?_
        refine w_N 1 114 [.ref 64, .int (nI w), .int 0, .int (wdS w u), .int fs, .int ms, .int mk, .int 1, x8] [.ref 64] rfl ?_
        refine w_gr 65 rfl rfl rfl (A_k S 64 (by decide)) (A_r S 64 0 (by decide)) ?_
        refine w_N 1 118 [.ref 64, .int (nI w), .int 0, .int (wdS w u), .int fs, .int ms, .int mk, .int 1, x8] [.ref 64, .ref 65] rfl ?_
        refine w_gr 65 rfl rfl rfl (A_k S 64 (by decide)) (A_r S 64 0 (by decide)) ?_
        refine w_gi (v := nI u) rfl rfl rfl (T_kd (A_T65 S)) (HR.2.1.trans eu) ?_
        refine w_N 4 129 [.ref 64, .int (nI w), .int 0, .int (wdS w u), .int fs, .int ms, .int mk, .int 1, x8] [.int ((nI u) &&& (mk ^^^ (-1))), .ref 65] rfl ?_
        refine w_cc (w_vst rfl rfl rfl (Nat.le_of_ble_eq_true rfl) (Nat.le_of_ble_eq_true rfl) (T_kd (A_T65 S))) (lm_c_v (y := lky T (awk (R 14)) (R 14) (R 10) ((nI u &&& (nI m ^^^ (-1))) ^^^ (-1)) (n + 1)) (t_likelyActs (d := d + 17) (A_T65 S) H HR) (by rw [e2])) ?_
        show lm_wp _ 119 132 [.ref 64, .int (nI w), .int 0, .int (wdS w u), .int fs, .int ms, .int mk, .int 1, x8] [.int (lky T (awk (R 14)) (R 14) (R 10) ((nI u &&& (nI m ^^^ (-1))) ^^^ (-1)) (n + 1))] (hi, hl, X) _
        refine w_cc rfl (lm_c_v (y := lfS T n R u m) j_bitCount (by obtain ⟨v, hv, e⟩ := lky_lt T (awk (R 14)) (R 14) (R 10) ((nI u &&& (nI m ^^^ (-1))) ^^^ (-1)) hn10; unfold lfS; rw [e]; exact bcn_bsm v hv)) ?_
        show lm_wp _ 119 135 [.ref 64, .int (nI w), .int 0, .int (wdS w u), .int fs, .int ms, .int mk, .int 1, x8] [.int (lfS T n R u m)] (hi, hl, X) _
        refine w_N 4 147 [.ref 64, .int (nI w), .int 0, .int (wdS w u), .int fs, .int ms, .int mk, .int 1, .int (lfS T n R u m)] [.int ms, .int (lfS T n R u m)] rfl ?_
        refine w_icmp_ge (t := 158) rfl rfl (fun c5 => ?_) (fun c5 => ?_)
        · refine w_N 2 69 [.ref 64, .int (nI w), .int 0, .int (wdS w u), .int fs, .int ms, .int (mk + 1), .int 1, .int (lfS T n R u m)] [] rfl ?_
          refine ih (m + 1) _ _ _ _ _ (by omega) ?_ ?_ (by rw [e2, nI_succ])
          · show _ = aI (if (nI m &&& (nI u ^^^ (-1)) = 0 ∧ bsm (nI m) 11 = wdS w u) ∧ lfS T n R u m < (syS u (wdS w u) (lfS T n R u) m).2 then (m + 1, lfS T n R u m) else syS u (wdS w u) (lfS T n R u) m).1
            rw [if_neg (fun z => c5 (by rw [e3]; exact z.2))]; exact e1
          · show _ = (if (nI m &&& (nI u ^^^ (-1)) = 0 ∧ bsm (nI m) 11 = wdS w u) ∧ lfS T n R u m < (syS u (wdS w u) (lfS T n R u) m).2 then (m + 1, lfS T n R u m) else syS u (wdS w u) (lfS T n R u) m).2
            rw [if_neg (fun z => c5 (by rw [e3]; exact z.2))]; exact e3
        · refine w_N 6 69 [.ref 64, .int (nI w), .int 0, .int (wdS w u), .int mk, .int (lfS T n R u m), .int (mk + 1), .int 1, .int (lfS T n R u m)] [] rfl ?_
          refine ih (m + 1) _ _ _ _ _ (by omega) ?_ ?_ (by rw [e2, nI_succ])
          · show _ = aI (if (nI m &&& (nI u ^^^ (-1)) = 0 ∧ bsm (nI m) 11 = wdS w u) ∧ lfS T n R u m < (syS u (wdS w u) (lfS T n R u) m).2 then (m + 1, lfS T n R u m) else syS u (wdS w u) (lfS T n R u) m).1
            rw [if_pos ⟨⟨by rw [← e2]; exact c1, c3⟩, by rw [← e3]; exact c5⟩]; exact e2
          · show _ = (if (nI m &&& (nI u ^^^ (-1)) = 0 ∧ bsm (nI m) 11 = wdS w u) ∧ lfS T n R u m < (syS u (wdS w u) (lfS T n R u) m).2 then (m + 1, lfS T n R u m) else syS u (wdS w u) (lfS T n R u) m).2
            rw [if_pos ⟨⟨by rw [← e2]; exact c1, c3⟩, by rw [← e3]; exact c5⟩]
theorem x_say0 {d : Nat} {hi : Nat → Nat → Int32} {hl : Nat → Nat → Int64} {X : lm_X} {hi0 : Nat → Nat → Int32} {hl0 : Nat → Nat → Int64} {C n ts : Nat} {T : lm_T} {R : Nat → Int32} {KO : ab_K} {V : ab_V} {tl F : Nat → Int32} (P : cP hi0 hl0 hi hl X C T n R KO V ts tl F) {w u : Nat} (hw : w ≤ 8) (hu : u < 256) (eu : R 11 = nI u) (h15 : R 15 = 1) (hC : C + 25 < 2147483648) : lm_w (d + 30) 119 [.ref 64, .int (nI w), .int 0] (hi, hl, X) (cQ hi0 hl0 X (C + 25) (.int (aI (syS u (wdS w u) (lfS T n R u) 256).1)) T n R KO V ts tl F) := by
  obtain ⟨S, O, H, HR, FO, HV, HT, HF, HK, E0, EL0⟩ := id P
  refine lm_w_in (Nat.le_of_ble_eq_true rfl) ?_
  show lm_wp (d + 30) 119 0 [.ref 64, .int (nI w), .int 0, lm_jk, lm_jk, lm_jk, lm_jk, lm_jk, lm_jk] [] (hi, hl, X) _
  refine w_N 3 4 [.ref 64, .int (nI w), .int 0, lm_jk, lm_jk, lm_jk, lm_jk, lm_jk, lm_jk] [.int 8, .int 0, .int (nI w)] rfl ?_
  refine w_cc rfl (x_within1 (wi_t (n := 8) hw (by decide))) ?_
  show lm_wp _ 119 7 [.ref 64, .int (nI w), .int 0, lm_jk, lm_jk, lm_jk, lm_jk, lm_jk, lm_jk] [.int 1] (hi, hl, X) _
  refine w_if_eq_f (t := 19) rfl rfl (by decide) ?_
  refine w_N 3 13 [.ref 64, .int (nI w), .int 0, lm_jk, lm_jk, lm_jk, lm_jk, lm_jk, lm_jk] [.int 1, .int 0, .int 0] rfl ?_
  refine w_cc rfl (x_within1 (by decide)) ?_
  show lm_wp _ 119 16 [.ref 64, .int (nI w), .int 0, lm_jk, lm_jk, lm_jk, lm_jk, lm_jk, lm_jk] [.int 1] (hi, hl, X) _
  refine w_if_ne_t (t := 26) rfl rfl (by decide) ?_
  refine w_N 1 27 [.ref 64, .int (nI w), .int 0, lm_jk, lm_jk, lm_jk, lm_jk, lm_jk, lm_jk] [.ref 64] rfl ?_
  refine w_gr 65 rfl rfl rfl (A_k S 64 (by decide)) (A_r S 64 0 (by decide)) ?_
  refine w_gi (v := R 15) rfl rfl rfl (T_kd (A_T65 S)) (HR.2.2.2.2.2.1) ?_
  refine w_if_ne_t (t := 43) rfl rfl (by rw [h15]; decide) ?_
  refine w_N 2 45 [.ref 64, .int (nI w), .int 0, lm_jk, lm_jk, lm_jk, lm_jk, lm_jk, lm_jk] [.ref 64, .int (nI w)] rfl ?_
  refine w_gr 65 rfl rfl rfl (A_k S 64 (by decide)) (A_r S 64 0 (by decide)) ?_
  refine w_gi (v := nI u) rfl rfl rfl (T_kd (A_T65 S)) (HR.2.1.trans eu) ?_
  refine w_cc rfl (lm_c_v (y := bsm (nI u) 11) j_bitCount (bcn_bsm u (by omega))) ?_
  show lm_wp _ 119 54 [.ref 64, .int (nI w), .int 0, lm_jk, lm_jk, lm_jk, lm_jk, lm_jk, lm_jk] [.int (bsm (nI u) 11), .int (nI w)] (hi, hl, X) _
  refine w_N 8 69 [.ref 64, .int (nI w), .int 0, .int (if bsm (nI u) 11 < nI w then bsm (nI u) 11 else nI w), .int (-1), .int 2000000000, .int 0, lm_jk, lm_jk] [] rfl ?_
  rw [show (if bsm (nI u) 11 < nI w then bsm (nI u) 11 else nI w) = wdS w u from min_e _ _]
  refine x_sayl0 (d := d + 10) S H HR eu (fun c x7 x8 => ?_) 256 0 _ _ _ _ _ (by omega) rfl rfl rfl
  refine w_N 1 165 _ [.int 0] rfl ?_
  refine w_if_ne_f (t := 173) rfl rfl rfl ?_
  refine w_N 2 175 _ [.int (aI (syS u (wdS w u) (lfS T n R u) 256).1)] rfl ?_
  refine w_ri rfl rfl ?_
  exact cq_ P (by omega) hC
theorem m_fb {d : Nat} {hi : Nat → Nat → Int32} {hl : Nat → Nat → Int64} {X : lm_X} {b n D u m : Nat} {T : lm_T} {s s0 mk : Int32} (e2 : mk = nI m) (hu : u < 256) (S : sh_M X b) (H : rT hi b T n) (hT : okT T n) (HS : rS hi b s) (HB : hi b 19 = s_marks s0 ∧ ∀ c, c < 4 → hi (b + 34) c = s_count s0 (nI c)) (HD : hi b 14 = nI D) (hw0 : awk s0 = (D + 1) % 2) (hD : D + 4 < 2147483648) (hs : okS s) (hs0 : okS s0) (hw : awk s = D % 2) : lm_c (d + 2) 209 [.ref b, .int (nI u &&& (mk ^^^ (-1)))] (hi, hl, X) (some (.int (lky T (awk s0) s0 s ((nI u &&& (nI m ^^^ (-1))) ^^^ (-1)) (n + 1))), (hi, hl, X)) := by
  subst e2
  obtain ⟨v, hv, ev⟩ := and_lt (m := m) hu
  rw [ev]
  exact m_foundBy S H hT HS HB HD hw0 hD hs hs0 hw hv
theorem y_sayl0 {d : Nat} {hi : Nat → Nat → Int32} {hl : Nat → Nat → Int64} {X : lm_X} {x1 : Int32} {w u n D : Nat} {T : lm_T} {R : Nat → Int32} (S : sh_M X 123) (H : rT hi 123 T n) (HR : rR hi 123 R) (hT : okT T n) (hO : okR R D) (hD : D < 2000000) (hu : u < 256) (eu : R 11 = nI u) (h15 : R 15 = 1) {P : Option Value → lm_H → Prop} (kc : ∀ (c ms : Int32) (x7 : Value), ((syS u (wdS w u) (lfS T n R u) 256).1 ≠ 0 → ms = (syS u (wdS w u) (lfS T n R u) 256).2) → lm_wp (d + 20) 211 149 [.ref 123, .int x1, .int 0, .int (wdS w u), .int (aI (syS u (wdS w u) (lfS T n R u) 256).1), .int ms, .int c, x7] [] (hi, hl, X) P) : ∀ (r m : Nat) (fs : Int32) (ms : Int32) (mk : Int32) (x7 : Value), m + r = 256 → (fs = aI (syS u (wdS w u) (lfS T n R u) m).1) → ((syS u (wdS w u) (lfS T n R u) m).1 ≠ 0 → ms = (syS u (wdS w u) (lfS T n R u) m).2) → (mk = nI m) → lm_wp (d + 20) 211 75 [.ref 123, .int x1, .int 0, .int (wdS w u), .int fs, .int ms, .int mk, x7] [] (hi, hl, X) P := by
  intro r
  induction r with
  | zero =>
    intro m fs ms mk x7 hm e1 e3 e2
    refine w_N 2 80 [.ref 123, .int x1, .int 0, .int (wdS w u), .int fs, .int ms, .int mk, x7] [.int 256, .int mk] rfl ?_
    refine w_icmp_ge_t (t := 149) rfl rfl (by rw [e2, show m = 256 by omega]; decide) ?_
    obtain rfl : m = 256 := by omega
    rw [e1]
    exact kc _ _ _ e3
  | succ r ih =>
    intro m fs ms mk x7 hm e1 e3 e2
    have hn10 := rTle H
    refine w_N 2 80 [.ref 123, .int x1, .int 0, .int (wdS w u), .int fs, .int ms, .int mk, x7] [.int 256, .int mk] rfl ?_
    refine w_icmp_ge_f (t := 149) rfl rfl (by rw [e2]; exact nI_lt (b := 256) (by omega) (by decide)) ?_
    refine w_N 2 86 [.ref 123, .int x1, .int 0, .int (wdS w u), .int fs, .int ms, .int mk, x7] [.ref 123, .int mk] rfl ?_
    refine w_gi (v := nI u) rfl rfl rfl (M_kd S) (HR.2.1.trans eu) ?_
    refine w_N 3 92 [.ref 123, .int x1, .int 0, .int (wdS w u), .int fs, .int ms, .int mk, x7] [.int (mk &&& ((nI u) ^^^ (-1)))] rfl ?_
    refine w_if_ne (t := 143) rfl rfl (fun c1 => ?_) (fun c1 => ?_)
    · refine w_N 2 75 [.ref 123, .int x1, .int 0, .int (wdS w u), .int fs, .int ms, .int (mk + 1), x7] [] rfl ?_
      refine ih (m + 1) _ _ _ _ (by omega) ?_ ?_ (by rw [e2, nI_succ])
      · show _ = aI (if (nI m &&& (nI u ^^^ (-1)) = 0 ∧ bsm (nI m) 11 = wdS w u) ∧ lfS T n R u m < (syS u (wdS w u) (lfS T n R u) m).2 then (m + 1, lfS T n R u m) else syS u (wdS w u) (lfS T n R u) m).1
        rw [if_neg (fun z => c1 (by rw [e2]; exact z.1.1))]; exact e1
      · show (if (nI m &&& (nI u ^^^ (-1)) = 0 ∧ bsm (nI m) 11 = wdS w u) ∧ lfS T n R u m < (syS u (wdS w u) (lfS T n R u) m).2 then (m + 1, lfS T n R u m) else syS u (wdS w u) (lfS T n R u) m).1 ≠ 0 → _ = (if (nI m &&& (nI u ^^^ (-1)) = 0 ∧ bsm (nI m) 11 = wdS w u) ∧ lfS T n R u m < (syS u (wdS w u) (lfS T n R u) m).2 then (m + 1, lfS T n R u m) else syS u (wdS w u) (lfS T n R u) m).2
        rw [if_neg (fun z => c1 (by rw [e2]; exact z.1.1))]; exact e3
    · refine w_N 1 97 [.ref 123, .int x1, .int 0, .int (wdS w u), .int fs, .int ms, .int mk, x7] [.int mk] rfl ?_
      refine w_cc rfl (lm_c_v (y := bsm (nI m) 11) m_bits (by rw [e2])) ?_
      show lm_wp _ 211 100 [.ref 123, .int x1, .int 0, .int (wdS w u), .int fs, .int ms, .int mk, x7] [.int (bsm (nI m) 11)] (hi, hl, X) _
      refine w_N 1 101 [.ref 123, .int x1, .int 0, .int (wdS w u), .int fs, .int ms, .int mk, x7] [.int (wdS w u), .int (bsm (nI m) 11)] rfl ?_
      refine w_icmp_ne (t := 143) rfl rfl (fun c2 => ?_) (fun c2 => ?_)
      · refine w_N 2 75 [.ref 123, .int x1, .int 0, .int (wdS w u), .int fs, .int ms, .int (mk + 1), x7] [] rfl ?_
        refine ih (m + 1) _ _ _ _ (by omega) ?_ ?_ (by rw [e2, nI_succ])
        · show _ = aI (if (nI m &&& (nI u ^^^ (-1)) = 0 ∧ bsm (nI m) 11 = wdS w u) ∧ lfS T n R u m < (syS u (wdS w u) (lfS T n R u) m).2 then (m + 1, lfS T n R u m) else syS u (wdS w u) (lfS T n R u) m).1
          rw [if_neg (fun z => c2 z.1.2)]; exact e1
        · show (if (nI m &&& (nI u ^^^ (-1)) = 0 ∧ bsm (nI m) 11 = wdS w u) ∧ lfS T n R u m < (syS u (wdS w u) (lfS T n R u) m).2 then (m + 1, lfS T n R u m) else syS u (wdS w u) (lfS T n R u) m).1 ≠ 0 → _ = (if (nI m &&& (nI u ^^^ (-1)) = 0 ∧ bsm (nI m) 11 = wdS w u) ∧ lfS T n R u m < (syS u (wdS w u) (lfS T n R u) m).2 then (m + 1, lfS T n R u m) else syS u (wdS w u) (lfS T n R u) m).2
          rw [if_neg (fun z => c2 z.1.2)]; exact e3
      · refine w_N 2 106 [.ref 123, .int x1, .int 0, .int (wdS w u), .int fs, .int ms, .int mk, x7] [.ref 123, .ref 123] rfl ?_
        refine w_gi (v := nI u) rfl rfl rfl (M_kd S) (HR.2.1.trans eu) ?_
        refine w_N 4 114 [.ref 123, .int x1, .int 0, .int (wdS w u), .int fs, .int ms, .int mk, x7] [.int ((nI u) &&& (mk ^^^ (-1))), .ref 123] rfl ?_
        refine w_cc (w_vst rfl rfl rfl (Nat.le_of_ble_eq_true rfl) (Nat.le_of_ble_eq_true rfl) (M_kd S)) (m_fb (d := d + 17) (m := m) e2 hu S H hT HR.1 (HR.2.2.2.2.1 h15) (HR.2.2.1.trans hO.2.2.1) (hO.2.2.2.2.2 h15).2 (by omega) hO.1 (hO.2.2.2.2.2 h15).1 hO.2.2.2.1) ?_
        show lm_wp _ 211 117 [.ref 123, .int x1, .int 0, .int (wdS w u), .int fs, .int ms, .int mk, x7] [.int (lky T (awk (R 14)) (R 14) (R 10) ((nI u &&& (nI m ^^^ (-1))) ^^^ (-1)) (n + 1))] (hi, hl, X) _
        refine w_cc rfl m_bits ?_
        show lm_wp _ 211 120 [.ref 123, .int x1, .int 0, .int (wdS w u), .int fs, .int ms, .int mk, x7] [.int (lfS T n R u m)] (hi, hl, X) _
        refine w_N 3 125 [.ref 123, .int x1, .int 0, .int (wdS w u), .int fs, .int ms, .int mk, .int (lfS T n R u m)] [.int (-1), .int fs] rfl ?_
        refine w_icmp_eq (t := 135) rfl rfl (fun c3 => ?_) (fun c3 => ?_)
        · refine w_N 6 75 [.ref 123, .int x1, .int 0, .int (wdS w u), .int mk, .int (lfS T n R u m), .int (mk + 1), .int (lfS T n R u m)] [] rfl ?_
          refine ih (m + 1) _ _ _ _ (by omega) ?_ ?_ (by rw [e2, nI_succ])
          · show _ = aI (if (nI m &&& (nI u ^^^ (-1)) = 0 ∧ bsm (nI m) 11 = wdS w u) ∧ lfS T n R u m < (syS u (wdS w u) (lfS T n R u) m).2 then (m + 1, lfS T n R u m) else syS u (wdS w u) (lfS T n R u) m).1
            rw [if_pos ⟨⟨by rw [← e2]; exact c1, c2⟩, by rw [(sy_0 u (wdS w u) (lfS T n R u) m ((aI_none (by have := sy_lt u (wdS w u) (lfS T n R u) m; omega)).mp (e1 ▸ c3))).1]; exact lf_low T R u m hn10⟩]; exact e2
          · show (if (nI m &&& (nI u ^^^ (-1)) = 0 ∧ bsm (nI m) 11 = wdS w u) ∧ lfS T n R u m < (syS u (wdS w u) (lfS T n R u) m).2 then (m + 1, lfS T n R u m) else syS u (wdS w u) (lfS T n R u) m).1 ≠ 0 → _ = (if (nI m &&& (nI u ^^^ (-1)) = 0 ∧ bsm (nI m) 11 = wdS w u) ∧ lfS T n R u m < (syS u (wdS w u) (lfS T n R u) m).2 then (m + 1, lfS T n R u m) else syS u (wdS w u) (lfS T n R u) m).2
            rw [if_pos ⟨⟨by rw [← e2]; exact c1, c2⟩, by rw [(sy_0 u (wdS w u) (lfS T n R u) m ((aI_none (by have := sy_lt u (wdS w u) (lfS T n R u) m; omega)).mp (e1 ▸ c3))).1]; exact lf_low T R u m hn10⟩]; exact fun _ => rfl
        · refine w_N 2 132 [.ref 123, .int x1, .int 0, .int (wdS w u), .int fs, .int ms, .int mk, .int (lfS T n R u m)] [.int ms, .int (lfS T n R u m)] rfl ?_
          refine w_icmp_ge (t := 143) rfl rfl (fun c4 => ?_) (fun c4 => ?_)
          · refine w_N 2 75 [.ref 123, .int x1, .int 0, .int (wdS w u), .int fs, .int ms, .int (mk + 1), .int (lfS T n R u m)] [] rfl ?_
            refine ih (m + 1) _ _ _ _ (by omega) ?_ ?_ (by rw [e2, nI_succ])
            · show _ = aI (if (nI m &&& (nI u ^^^ (-1)) = 0 ∧ bsm (nI m) 11 = wdS w u) ∧ lfS T n R u m < (syS u (wdS w u) (lfS T n R u) m).2 then (m + 1, lfS T n R u m) else syS u (wdS w u) (lfS T n R u) m).1
              rw [if_neg (fun z => c4 (by rw [e3 (fun z => c3 (by rw [e1, z]; rfl))]; exact z.2))]; exact e1
            · show (if (nI m &&& (nI u ^^^ (-1)) = 0 ∧ bsm (nI m) 11 = wdS w u) ∧ lfS T n R u m < (syS u (wdS w u) (lfS T n R u) m).2 then (m + 1, lfS T n R u m) else syS u (wdS w u) (lfS T n R u) m).1 ≠ 0 → _ = (if (nI m &&& (nI u ^^^ (-1)) = 0 ∧ bsm (nI m) 11 = wdS w u) ∧ lfS T n R u m < (syS u (wdS w u) (lfS T n R u) m).2 then (m + 1, lfS T n R u m) else syS u (wdS w u) (lfS T n R u) m).2
              rw [if_neg (fun z => c4 (by rw [e3 (fun z => c3 (by rw [e1, z]; rfl))]; exact z.2))]; exact e3
          · refine w_N 6 75 [.ref 123, .int x1, .int 0, .int (wdS w u), .int mk, .int (lfS T n R u m), .int (mk + 1), .int (lfS T n R u m)] [] rfl ?_
            refine ih (m + 1) _ _ _ _ (by omega) ?_ ?_ (by rw [e2, nI_succ])
            · show _ = aI (if (nI m &&& (nI u ^^^ (-1)) = 0 ∧ bsm (nI m) 11 = wdS w u) ∧ lfS T n R u m < (syS u (wdS w u) (lfS T n R u) m).2 then (m + 1, lfS T n R u m) else syS u (wdS w u) (lfS T n R u) m).1
              rw [if_pos ⟨⟨by rw [← e2]; exact c1, c2⟩, by rw [← e3 (fun z => c3 (by rw [e1, z]; rfl))]; exact c4⟩]; exact e2
            · show (if (nI m &&& (nI u ^^^ (-1)) = 0 ∧ bsm (nI m) 11 = wdS w u) ∧ lfS T n R u m < (syS u (wdS w u) (lfS T n R u) m).2 then (m + 1, lfS T n R u m) else syS u (wdS w u) (lfS T n R u) m).1 ≠ 0 → _ = (if (nI m &&& (nI u ^^^ (-1)) = 0 ∧ bsm (nI m) 11 = wdS w u) ∧ lfS T n R u m < (syS u (wdS w u) (lfS T n R u) m).2 then (m + 1, lfS T n R u m) else syS u (wdS w u) (lfS T n R u) m).2
              rw [if_pos ⟨⟨by rw [← e2]; exact c1, c2⟩, by rw [← e3 (fun z => c3 (by rw [e1, z]; rfl))]; exact c4⟩]; exact fun _ => rfl
theorem y_say0 {d : Nat} {hi : Nat → Nat → Int32} {hl : Nat → Nat → Int64} {X : lm_X} {hi0 : Nat → Nat → Int32} {hl0 : Nat → Nat → Int64} {X0 : lm_X} {n ts : Nat} {T : lm_T} {R : Nat → Int32} {KO : ab_K} {V : ab_V} {tl F : Nat → Int32} (P : mP hi0 hl0 X0 hi hl X T n R KO V ts tl F) {B D : Nat} (Z : okZ B D T n R KO V ts tl) {w u : Nat} (hw : w ≤ 8) (hu : u < 256) (eu : R 11 = nI u) (h15 : R 15 = 1) : lm_w (d + 30) 211 [.ref 123, .int (nI w), .int 0] (hi, hl, X) (mQ hi0 hl0 X0 (.int (aI (syS u (wdS w u) (lfS T n R u) 256).1)) T n R KO V ts tl F) := by
  obtain ⟨SR, O, H, HR, HV, HT, HF, HK, E0, EL0, EX0⟩ := id P
  have S := SR.1
  obtain ⟨hT, hO, hV, hts, htl, hDB, hB0, hKO⟩ := id Z
  refine lm_w_in (Nat.le_of_ble_eq_true rfl) ?_
  show lm_wp (d + 30) 211 0 [.ref 123, .int (nI w), .int 0, lm_jk, lm_jk, lm_jk, lm_jk, lm_jk] [] (hi, hl, X) _
  refine w_N 4 6 [.ref 123, .int (nI w), .int 0, lm_jk, lm_jk, lm_jk, lm_jk, lm_jk] [.long 8, .long 0, .long ((nI w).toInt64)] rfl ?_
  refine w_cc rfl (lm_c_1 (m_in (x := nI w) (lo := 0) (up := 8) rfl (by decide) (by decide)) (wi_t (n := 8) hw (by decide))) ?_
  show lm_wp _ 211 9 [.ref 123, .int (nI w), .int 0, lm_jk, lm_jk, lm_jk, lm_jk, lm_jk] [.int 1] (hi, hl, X) _
  refine w_if_eq_f (t := 22) rfl rfl (by decide) ?_
  refine w_N 4 16 [.ref 123, .int (nI w), .int 0, lm_jk, lm_jk, lm_jk, lm_jk, lm_jk] [.long 1, .long 0, .long 0] rfl ?_
  refine w_cc rfl (lm_c_1 (m_in (x := 0) (lo := 0) (up := 1) (by decide) (by decide) (by decide)) (by decide)) ?_
  show lm_wp _ 211 19 [.ref 123, .int (nI w), .int 0, lm_jk, lm_jk, lm_jk, lm_jk, lm_jk] [.int 1] (hi, hl, X) _
  refine w_if_ne_t (t := 29) rfl rfl (by decide) ?_
  refine w_N 1 30 [.ref 123, .int (nI w), .int 0, lm_jk, lm_jk, lm_jk, lm_jk, lm_jk] [.ref 123] rfl ?_
  refine w_gi (v := R 15) rfl rfl rfl (M_kd S) (HR.2.2.2.2.2.1) ?_
  refine w_if_ne_t (t := 43) rfl rfl (by rw [h15]; decide) ?_
  refine w_N 2 45 [.ref 123, .int (nI w), .int 0, lm_jk, lm_jk, lm_jk, lm_jk, lm_jk] [.ref 123, .int (nI w)] rfl ?_
  refine w_gi (v := nI u) rfl rfl rfl (M_kd S) (HR.2.1.trans eu) ?_
  refine w_cc rfl m_bits ?_
  show lm_wp _ 211 51 [.ref 123, .int (nI w), .int 0, lm_jk, lm_jk, lm_jk, lm_jk, lm_jk] [.int (bsm (nI u) 11), .int (nI w)] (hi, hl, X) _
  refine w_icmp_ge (t := 58) rfl rfl (fun c1 => ?_) (fun c1 => ?_)
  · refine w_N 1 59 [.ref 123, .int (nI w), .int 0, lm_jk, lm_jk, lm_jk, lm_jk, lm_jk] [.ref 123] rfl ?_
    refine w_gi (v := nI u) rfl rfl rfl (M_kd S) (HR.2.1.trans eu) ?_
    refine w_cc rfl m_bits ?_
    show lm_wp _ 211 65 [.ref 123, .int (nI w), .int 0, lm_jk, lm_jk, lm_jk, lm_jk, lm_jk] [.int (bsm (nI u) 11)] (hi, hl, X) _
    refine w_N 7 75 [.ref 123, .int (nI w), .int 0, .int (bsm (nI u) 11), .int (-1), .int 0, .int 0, lm_jk] [] rfl ?_
    have ew : bsm (nI u) 11 = wdS w u := by unfold wdS; rw [if_neg c1]
    rw [ew]
    refine y_sayl0 (d := d + 10) S H HR hT hO (by omega) hu eu h15 (fun c ms x7 e3 => ?_) 256 0 _ _ _ _ (by omega) rfl (fun z => absurd rfl z) rfl
    refine w_N 1 150 _ [.int 0] rfl ?_
    refine w_if_ne_f (t := 158) rfl rfl rfl ?_
    refine w_N 2 160 _ [.int (aI (syS u (wdS w u) (lfS T n R u) 256).1)] rfl ?_
    refine w_ri rfl rfl ?_
    exact mq_ P
  · refine w_N 9 75 [.ref 123, .int (nI w), .int 0, .int (nI w), .int (-1), .int 0, .int 0, lm_jk] [] rfl ?_
    have ew : nI w = wdS w u := by unfold wdS; rw [if_pos c1]
    rw [ew]
    refine y_sayl0 (d := d + 10) S H HR hT hO (by omega) hu eu h15 (fun c ms x7 e3 => ?_) 256 0 _ _ _ _ (by omega) rfl (fun z => absurd rfl z) rfl
    refine w_N 1 150 _ [.int 0] rfl ?_
    refine w_if_ne_f (t := 158) rfl rfl rfl ?_
    refine w_N 2 160 _ [.int (aI (syS u (wdS w u) (lfS T n R u) 256).1)] rfl ?_
    refine w_ri rfl rfl ?_
    exact mq_ P
theorem x_sayl1 {d : Nat} {hi : Nat → Nat → Int32} {hl : Nat → Nat → Int64} {X : lm_X} {w u n : Nat} {T : lm_T} {R : Nat → Int32} (S : sh_A X) (H : isT hi 65 T n) (HR : isR hi 65 R) (eu : R 11 = nI u) {P : Option Value → lm_H → Prop} (kc : ∀ (c : Int32) (x7 x8 : Value), lm_wp (d + 20) 119 164 [.ref 64, .int (nI w), .int 1, .int (wdS w u), .int (aI (syS u (wdS w u) (lfS T n R u) 256).1), .int (syS u (wdS w u) (lfS T n R u) 256).2, .int c, x7, x8] [] (hi, hl, X) P) : ∀ (r m : Nat) (fs : Int32) (ms : Int32) (mk : Int32) (x7 : Value) (x8 : Value), m + r = 256 → (fs = aI (syS u (wdS w u) (lfS T n R u) m).1) → (ms = (syS u (wdS w u) (lfS T n R u) m).2) → (mk = nI m) → lm_wp (d + 20) 119 69 [.ref 64, .int (nI w), .int 1, .int (wdS w u), .int fs, .int ms, .int mk, x7, x8] [] (hi, hl, X) P := by
  intro r
  induction r with
  | zero =>
    intro m fs ms mk x7 x8 hm e1 e3 e2
    refine w_N 2 74 [.ref 64, .int (nI w), .int 1, .int (wdS w u), .int fs, .int ms, .int mk, x7, x8] [.int 255, .int mk] rfl ?_
    refine w_icmp_gt_t (t := 164) rfl rfl (by rw [e2, show m = 256 by omega]; decide) ?_
    obtain rfl : m = 256 := by omega
    rw [e1, e3]
    exact kc _ _ _
  | succ r ih =>
    intro m fs ms mk x7 x8 hm e1 e3 e2
    have hn10 := isTle H
    refine w_N 2 74 [.ref 64, .int (nI w), .int 1, .int (wdS w u), .int fs, .int ms, .int mk, x7, x8] [.int 255, .int mk] rfl ?_
    refine w_icmp_gt_f (t := 164) rfl rfl (by rw [e2, show (255 : Int32) = nI 255 from rfl, nI_lt_iff (by omega) (by omega)]; omega) ?_
    refine w_N 2 80 [.ref 64, .int (nI w), .int 1, .int (wdS w u), .int fs, .int ms, .int mk, x7, x8] [.ref 64, .int mk] rfl ?_
    refine w_gr 65 rfl rfl rfl (A_k S 64 (by decide)) (A_r S 64 0 (by decide)) ?_
    refine w_gi (v := nI u) rfl rfl rfl (T_kd (A_T65 S)) (HR.2.1.trans eu) ?_
    refine w_N 3 89 [.ref 64, .int (nI w), .int 1, .int (wdS w u), .int fs, .int ms, .int mk, x7, x8] [.int (mk &&& ((nI u) ^^^ (-1)))] rfl ?_
    refine w_if_ne (t := 105) rfl rfl (fun c1 => ?_) (fun c1 => ?_)
    · refine w_N 3 110 [.ref 64, .int (nI w), .int 1, .int (wdS w u), .int fs, .int ms, .int mk, .int 0, x8] [.int 0] rfl ?_
      refine w_if_eq_t (t := 138) rfl rfl (by decide) ?_
      refine w_N 4 147 [.ref 64, .int (nI w), .int 1, .int (wdS w u), .int fs, .int ms, .int mk, .int 0, .int 2000000000] [.int ms, .int 2000000000] rfl ?_
      refine w_icmp_ge (t := 158) rfl rfl (fun c2 => ?_) (fun c2 => ?_)
      · refine w_N 2 69 [.ref 64, .int (nI w), .int 1, .int (wdS w u), .int fs, .int ms, .int (mk + 1), .int 0, .int 2000000000] [] rfl ?_
        refine ih (m + 1) _ _ _ _ _ (by omega) ?_ ?_ (by rw [e2, nI_succ])
        · show _ = aI (if (nI m &&& (nI u ^^^ (-1)) = 0 ∧ bsm (nI m) 11 = wdS w u) ∧ lfS T n R u m < (syS u (wdS w u) (lfS T n R u) m).2 then (m + 1, lfS T n R u m) else syS u (wdS w u) (lfS T n R u) m).1
          rw [if_neg (fun z => c1 (by rw [e2]; exact z.1.1))]; exact e1
        · show _ = (if (nI m &&& (nI u ^^^ (-1)) = 0 ∧ bsm (nI m) 11 = wdS w u) ∧ lfS T n R u m < (syS u (wdS w u) (lfS T n R u) m).2 then (m + 1, lfS T n R u m) else syS u (wdS w u) (lfS T n R u) m).2
          rw [if_neg (fun z => c1 (by rw [e2]; exact z.1.1))]; exact e3
      · refine w_N 6 69 [.ref 64, .int (nI w), .int 1, .int (wdS w u), .int mk, .int 2000000000, .int (mk + 1), .int 0, .int 2000000000] [] rfl ?_
        exact absurd (by rw [← e3]; exact c2) (sy_le u (wdS w u) (lfS T n R u) m)
    · refine w_N 1 94 [.ref 64, .int (nI w), .int 1, .int (wdS w u), .int fs, .int ms, .int mk, x7, x8] [.int mk] rfl ?_
      refine w_cc rfl (lm_c_v (y := bsm (nI m) 11) j_bitCount (by rw [e2]; exact bcn_bsm m (by omega))) ?_
      show lm_wp _ 119 97 [.ref 64, .int (nI w), .int 1, .int (wdS w u), .int fs, .int ms, .int mk, x7, x8] [.int (bsm (nI m) 11)] (hi, hl, X) _
      refine w_N 1 98 [.ref 64, .int (nI w), .int 1, .int (wdS w u), .int fs, .int ms, .int mk, x7, x8] [.int (wdS w u), .int (bsm (nI m) 11)] rfl ?_
      refine w_icmp_ne (t := 105) rfl rfl (fun c3 => ?_) (fun c3 => ?_)
      · refine w_N 3 110 [.ref 64, .int (nI w), .int 1, .int (wdS w u), .int fs, .int ms, .int mk, .int 0, x8] [.int 0] rfl ?_
        refine w_if_eq_t (t := 138) rfl rfl (by decide) ?_
        refine w_N 4 147 [.ref 64, .int (nI w), .int 1, .int (wdS w u), .int fs, .int ms, .int mk, .int 0, .int 2000000000] [.int ms, .int 2000000000] rfl ?_
        refine w_icmp_ge (t := 158) rfl rfl (fun c4 => ?_) (fun c4 => ?_)
        · refine w_N 2 69 [.ref 64, .int (nI w), .int 1, .int (wdS w u), .int fs, .int ms, .int (mk + 1), .int 0, .int 2000000000] [] rfl ?_
          refine ih (m + 1) _ _ _ _ _ (by omega) ?_ ?_ (by rw [e2, nI_succ])
          · show _ = aI (if (nI m &&& (nI u ^^^ (-1)) = 0 ∧ bsm (nI m) 11 = wdS w u) ∧ lfS T n R u m < (syS u (wdS w u) (lfS T n R u) m).2 then (m + 1, lfS T n R u m) else syS u (wdS w u) (lfS T n R u) m).1
            rw [if_neg (fun z => c3 (z.1.2))]; exact e1
          · show _ = (if (nI m &&& (nI u ^^^ (-1)) = 0 ∧ bsm (nI m) 11 = wdS w u) ∧ lfS T n R u m < (syS u (wdS w u) (lfS T n R u) m).2 then (m + 1, lfS T n R u m) else syS u (wdS w u) (lfS T n R u) m).2
            rw [if_neg (fun z => c3 (z.1.2))]; exact e3
        · refine w_N 6 69 [.ref 64, .int (nI w), .int 1, .int (wdS w u), .int mk, .int 2000000000, .int (mk + 1), .int 0, .int 2000000000] [] rfl ?_
          exact absurd (by rw [← e3]; exact c4) (sy_le u (wdS w u) (lfS T n R u) m)
      · refine w_N 4 110 [.ref 64, .int (nI w), .int 1, .int (wdS w u), .int fs, .int ms, .int mk, .int 1, x8] [.int 1] rfl ?_
        refine w_if_eq_f (t := 138) rfl rfl (by decide) ?_
        refine w_N 1 114 [.ref 64, .int (nI w), .int 1, .int (wdS w u), .int fs, .int ms, .int mk, .int 1, x8] [.ref 64] rfl ?_
        refine w_gr 65 rfl rfl rfl (A_k S 64 (by decide)) (A_r S 64 0 (by decide)) ?_
        refine w_N 1 118 [.ref 64, .int (nI w), .int 1, .int (wdS w u), .int fs, .int ms, .int mk, .int 1, x8] [.ref 64, .ref 65] rfl ?_
        refine w_gr 65 rfl rfl rfl (A_k S 64 (by decide)) (A_r S 64 0 (by decide)) ?_
        refine w_gi (v := nI u) rfl rfl rfl (T_kd (A_T65 S)) (HR.2.1.trans eu) ?_
        refine w_N 4 129 [.ref 64, .int (nI w), .int 1, .int (wdS w u), .int fs, .int ms, .int mk, .int 1, x8] [.int ((nI u) &&& (mk ^^^ (-1))), .ref 65] rfl ?_
        refine w_cc (w_vst rfl rfl rfl (Nat.le_of_ble_eq_true rfl) (Nat.le_of_ble_eq_true rfl) (T_kd (A_T65 S))) (lm_c_v (y := lky T (awk (R 14)) (R 14) (R 10) ((nI u &&& (nI m ^^^ (-1))) ^^^ (-1)) (n + 1)) (t_likelyActs (d := d + 17) (A_T65 S) H HR) (by rw [e2])) ?_
        show lm_wp _ 119 132 [.ref 64, .int (nI w), .int 1, .int (wdS w u), .int fs, .int ms, .int mk, .int 1, x8] [.int (lky T (awk (R 14)) (R 14) (R 10) ((nI u &&& (nI m ^^^ (-1))) ^^^ (-1)) (n + 1))] (hi, hl, X) _
        refine w_cc rfl (lm_c_v (y := lfS T n R u m) j_bitCount (by obtain ⟨v, hv, e⟩ := lky_lt T (awk (R 14)) (R 14) (R 10) ((nI u &&& (nI m ^^^ (-1))) ^^^ (-1)) hn10; unfold lfS; rw [e]; exact bcn_bsm v hv)) ?_
        show lm_wp _ 119 135 [.ref 64, .int (nI w), .int 1, .int (wdS w u), .int fs, .int ms, .int mk, .int 1, x8] [.int (lfS T n R u m)] (hi, hl, X) _
        refine w_N 4 147 [.ref 64, .int (nI w), .int 1, .int (wdS w u), .int fs, .int ms, .int mk, .int 1, .int (lfS T n R u m)] [.int ms, .int (lfS T n R u m)] rfl ?_
        refine w_icmp_ge (t := 158) rfl rfl (fun c5 => ?_) (fun c5 => ?_)
        · refine w_N 2 69 [.ref 64, .int (nI w), .int 1, .int (wdS w u), .int fs, .int ms, .int (mk + 1), .int 1, .int (lfS T n R u m)] [] rfl ?_
          refine ih (m + 1) _ _ _ _ _ (by omega) ?_ ?_ (by rw [e2, nI_succ])
          · show _ = aI (if (nI m &&& (nI u ^^^ (-1)) = 0 ∧ bsm (nI m) 11 = wdS w u) ∧ lfS T n R u m < (syS u (wdS w u) (lfS T n R u) m).2 then (m + 1, lfS T n R u m) else syS u (wdS w u) (lfS T n R u) m).1
            rw [if_neg (fun z => c5 (by rw [e3]; exact z.2))]; exact e1
          · show _ = (if (nI m &&& (nI u ^^^ (-1)) = 0 ∧ bsm (nI m) 11 = wdS w u) ∧ lfS T n R u m < (syS u (wdS w u) (lfS T n R u) m).2 then (m + 1, lfS T n R u m) else syS u (wdS w u) (lfS T n R u) m).2
            rw [if_neg (fun z => c5 (by rw [e3]; exact z.2))]; exact e3
        · refine w_N 6 69 [.ref 64, .int (nI w), .int 1, .int (wdS w u), .int mk, .int (lfS T n R u m), .int (mk + 1), .int 1, .int (lfS T n R u m)] [] rfl ?_
          refine ih (m + 1) _ _ _ _ _ (by omega) ?_ ?_ (by rw [e2, nI_succ])
          · show _ = aI (if (nI m &&& (nI u ^^^ (-1)) = 0 ∧ bsm (nI m) 11 = wdS w u) ∧ lfS T n R u m < (syS u (wdS w u) (lfS T n R u) m).2 then (m + 1, lfS T n R u m) else syS u (wdS w u) (lfS T n R u) m).1
            rw [if_pos ⟨⟨by rw [← e2]; exact c1, c3⟩, by rw [← e3]; exact c5⟩]; exact e2
          · show _ = (if (nI m &&& (nI u ^^^ (-1)) = 0 ∧ bsm (nI m) 11 = wdS w u) ∧ lfS T n R u m < (syS u (wdS w u) (lfS T n R u) m).2 then (m + 1, lfS T n R u m) else syS u (wdS w u) (lfS T n R u) m).2
            rw [if_pos ⟨⟨by rw [← e2]; exact c1, c3⟩, by rw [← e3]; exact c5⟩]
theorem x_say1 {d : Nat} {hi : Nat → Nat → Int32} {hl : Nat → Nat → Int64} {X : lm_X} {hi0 : Nat → Nat → Int32} {hl0 : Nat → Nat → Int64} {C n ts : Nat} {T : lm_T} {R : Nat → Int32} {KO : ab_K} {V : ab_V} {tl F : Nat → Int32} (P : cP hi0 hl0 hi hl X C T n R KO V ts tl F) {w u : Nat} (hw : w ≤ 8) (hu : u < 256) (eu : R 11 = nI u) (h15 : R 15 = 1) (hC : C + 25 < 2147483648) : lm_w (d + 30) 119 [.ref 64, .int (nI w), .int 1] (hi, hl, X) (cQ hi0 hl0 X (C + 25) (.int ((syS u (wdS w u) (lfS T n R u) 256).2)) T n R KO V ts tl F) := by
  obtain ⟨S, O, H, HR, FO, HV, HT, HF, HK, E0, EL0⟩ := id P
  refine lm_w_in (Nat.le_of_ble_eq_true rfl) ?_
  show lm_wp (d + 30) 119 0 [.ref 64, .int (nI w), .int 1, lm_jk, lm_jk, lm_jk, lm_jk, lm_jk, lm_jk] [] (hi, hl, X) _
  refine w_N 3 4 [.ref 64, .int (nI w), .int 1, lm_jk, lm_jk, lm_jk, lm_jk, lm_jk, lm_jk] [.int 8, .int 0, .int (nI w)] rfl ?_
  refine w_cc rfl (x_within1 (wi_t (n := 8) hw (by decide))) ?_
  show lm_wp _ 119 7 [.ref 64, .int (nI w), .int 1, lm_jk, lm_jk, lm_jk, lm_jk, lm_jk, lm_jk] [.int 1] (hi, hl, X) _
  refine w_if_eq_f (t := 19) rfl rfl (by decide) ?_
  refine w_N 3 13 [.ref 64, .int (nI w), .int 1, lm_jk, lm_jk, lm_jk, lm_jk, lm_jk, lm_jk] [.int 1, .int 0, .int 1] rfl ?_
  refine w_cc rfl (x_within1 (by decide)) ?_
  show lm_wp _ 119 16 [.ref 64, .int (nI w), .int 1, lm_jk, lm_jk, lm_jk, lm_jk, lm_jk, lm_jk] [.int 1] (hi, hl, X) _
  refine w_if_ne_t (t := 26) rfl rfl (by decide) ?_
  refine w_N 1 27 [.ref 64, .int (nI w), .int 1, lm_jk, lm_jk, lm_jk, lm_jk, lm_jk, lm_jk] [.ref 64] rfl ?_
  refine w_gr 65 rfl rfl rfl (A_k S 64 (by decide)) (A_r S 64 0 (by decide)) ?_
  refine w_gi (v := R 15) rfl rfl rfl (T_kd (A_T65 S)) (HR.2.2.2.2.2.1) ?_
  refine w_if_ne_t (t := 43) rfl rfl (by rw [h15]; decide) ?_
  refine w_N 2 45 [.ref 64, .int (nI w), .int 1, lm_jk, lm_jk, lm_jk, lm_jk, lm_jk, lm_jk] [.ref 64, .int (nI w)] rfl ?_
  refine w_gr 65 rfl rfl rfl (A_k S 64 (by decide)) (A_r S 64 0 (by decide)) ?_
  refine w_gi (v := nI u) rfl rfl rfl (T_kd (A_T65 S)) (HR.2.1.trans eu) ?_
  refine w_cc rfl (lm_c_v (y := bsm (nI u) 11) j_bitCount (bcn_bsm u (by omega))) ?_
  show lm_wp _ 119 54 [.ref 64, .int (nI w), .int 1, lm_jk, lm_jk, lm_jk, lm_jk, lm_jk, lm_jk] [.int (bsm (nI u) 11), .int (nI w)] (hi, hl, X) _
  refine w_N 8 69 [.ref 64, .int (nI w), .int 1, .int (if bsm (nI u) 11 < nI w then bsm (nI u) 11 else nI w), .int (-1), .int 2000000000, .int 0, lm_jk, lm_jk] [] rfl ?_
  rw [show (if bsm (nI u) 11 < nI w then bsm (nI u) 11 else nI w) = wdS w u from min_e _ _]
  refine x_sayl1 (d := d + 10) S H HR eu (fun c x7 x8 => ?_) 256 0 _ _ _ _ _ (by omega) rfl rfl rfl
  refine w_N 1 165 _ [.int 1] rfl ?_
  refine w_if_ne_t (t := 173) rfl rfl (by decide) ?_
  refine w_N 1 175 _ [.int ((syS u (wdS w u) (lfS T n R u) 256).2)] rfl ?_
  refine w_ri rfl rfl ?_
  exact cq_ P (by omega) hC
theorem y_sayl1 {d : Nat} {hi : Nat → Nat → Int32} {hl : Nat → Nat → Int64} {X : lm_X} {x1 : Int32} {w u n D : Nat} {T : lm_T} {R : Nat → Int32} (S : sh_M X 123) (H : rT hi 123 T n) (HR : rR hi 123 R) (hT : okT T n) (hO : okR R D) (hD : D < 2000000) (hu : u < 256) (eu : R 11 = nI u) (h15 : R 15 = 1) {P : Option Value → lm_H → Prop} (kc : ∀ (c ms : Int32) (x7 : Value), ((syS u (wdS w u) (lfS T n R u) 256).1 ≠ 0 → ms = (syS u (wdS w u) (lfS T n R u) 256).2) → lm_wp (d + 20) 211 149 [.ref 123, .int x1, .int 1, .int (wdS w u), .int (aI (syS u (wdS w u) (lfS T n R u) 256).1), .int ms, .int c, x7] [] (hi, hl, X) P) : ∀ (r m : Nat) (fs : Int32) (ms : Int32) (mk : Int32) (x7 : Value), m + r = 256 → (fs = aI (syS u (wdS w u) (lfS T n R u) m).1) → ((syS u (wdS w u) (lfS T n R u) m).1 ≠ 0 → ms = (syS u (wdS w u) (lfS T n R u) m).2) → (mk = nI m) → lm_wp (d + 20) 211 75 [.ref 123, .int x1, .int 1, .int (wdS w u), .int fs, .int ms, .int mk, x7] [] (hi, hl, X) P := by
  intro r
  induction r with
  | zero =>
    intro m fs ms mk x7 hm e1 e3 e2
    refine w_N 2 80 [.ref 123, .int x1, .int 1, .int (wdS w u), .int fs, .int ms, .int mk, x7] [.int 256, .int mk] rfl ?_
    refine w_icmp_ge_t (t := 149) rfl rfl (by rw [e2, show m = 256 by omega]; decide) ?_
    obtain rfl : m = 256 := by omega
    rw [e1]
    exact kc _ _ _ e3
  | succ r ih =>
    intro m fs ms mk x7 hm e1 e3 e2
    have hn10 := rTle H
    refine w_N 2 80 [.ref 123, .int x1, .int 1, .int (wdS w u), .int fs, .int ms, .int mk, x7] [.int 256, .int mk] rfl ?_
    refine w_icmp_ge_f (t := 149) rfl rfl (by rw [e2]; exact nI_lt (b := 256) (by omega) (by decide)) ?_
    refine w_N 2 86 [.ref 123, .int x1, .int 1, .int (wdS w u), .int fs, .int ms, .int mk, x7] [.ref 123, .int mk] rfl ?_
    refine w_gi (v := nI u) rfl rfl rfl (M_kd S) (HR.2.1.trans eu) ?_
    refine w_N 3 92 [.ref 123, .int x1, .int 1, .int (wdS w u), .int fs, .int ms, .int mk, x7] [.int (mk &&& ((nI u) ^^^ (-1)))] rfl ?_
    refine w_if_ne (t := 143) rfl rfl (fun c1 => ?_) (fun c1 => ?_)
    · refine w_N 2 75 [.ref 123, .int x1, .int 1, .int (wdS w u), .int fs, .int ms, .int (mk + 1), x7] [] rfl ?_
      refine ih (m + 1) _ _ _ _ (by omega) ?_ ?_ (by rw [e2, nI_succ])
      · show _ = aI (if (nI m &&& (nI u ^^^ (-1)) = 0 ∧ bsm (nI m) 11 = wdS w u) ∧ lfS T n R u m < (syS u (wdS w u) (lfS T n R u) m).2 then (m + 1, lfS T n R u m) else syS u (wdS w u) (lfS T n R u) m).1
        rw [if_neg (fun z => c1 (by rw [e2]; exact z.1.1))]; exact e1
      · show (if (nI m &&& (nI u ^^^ (-1)) = 0 ∧ bsm (nI m) 11 = wdS w u) ∧ lfS T n R u m < (syS u (wdS w u) (lfS T n R u) m).2 then (m + 1, lfS T n R u m) else syS u (wdS w u) (lfS T n R u) m).1 ≠ 0 → _ = (if (nI m &&& (nI u ^^^ (-1)) = 0 ∧ bsm (nI m) 11 = wdS w u) ∧ lfS T n R u m < (syS u (wdS w u) (lfS T n R u) m).2 then (m + 1, lfS T n R u m) else syS u (wdS w u) (lfS T n R u) m).2
        rw [if_neg (fun z => c1 (by rw [e2]; exact z.1.1))]; exact e3
    · refine w_N 1 97 [.ref 123, .int x1, .int 1, .int (wdS w u), .int fs, .int ms, .int mk, x7] [.int mk] rfl ?_
      refine w_cc rfl (lm_c_v (y := bsm (nI m) 11) m_bits (by rw [e2])) ?_
      show lm_wp _ 211 100 [.ref 123, .int x1, .int 1, .int (wdS w u), .int fs, .int ms, .int mk, x7] [.int (bsm (nI m) 11)] (hi, hl, X) _
      refine w_N 1 101 [.ref 123, .int x1, .int 1, .int (wdS w u), .int fs, .int ms, .int mk, x7] [.int (wdS w u), .int (bsm (nI m) 11)] rfl ?_
      refine w_icmp_ne (t := 143) rfl rfl (fun c2 => ?_) (fun c2 => ?_)
      · refine w_N 2 75 [.ref 123, .int x1, .int 1, .int (wdS w u), .int fs, .int ms, .int (mk + 1), x7] [] rfl ?_
        refine ih (m + 1) _ _ _ _ (by omega) ?_ ?_ (by rw [e2, nI_succ])
        · show _ = aI (if (nI m &&& (nI u ^^^ (-1)) = 0 ∧ bsm (nI m) 11 = wdS w u) ∧ lfS T n R u m < (syS u (wdS w u) (lfS T n R u) m).2 then (m + 1, lfS T n R u m) else syS u (wdS w u) (lfS T n R u) m).1
          rw [if_neg (fun z => c2 z.1.2)]; exact e1
        · show (if (nI m &&& (nI u ^^^ (-1)) = 0 ∧ bsm (nI m) 11 = wdS w u) ∧ lfS T n R u m < (syS u (wdS w u) (lfS T n R u) m).2 then (m + 1, lfS T n R u m) else syS u (wdS w u) (lfS T n R u) m).1 ≠ 0 → _ = (if (nI m &&& (nI u ^^^ (-1)) = 0 ∧ bsm (nI m) 11 = wdS w u) ∧ lfS T n R u m < (syS u (wdS w u) (lfS T n R u) m).2 then (m + 1, lfS T n R u m) else syS u (wdS w u) (lfS T n R u) m).2
          rw [if_neg (fun z => c2 z.1.2)]; exact e3
      · refine w_N 2 106 [.ref 123, .int x1, .int 1, .int (wdS w u), .int fs, .int ms, .int mk, x7] [.ref 123, .ref 123] rfl ?_
        refine w_gi (v := nI u) rfl rfl rfl (M_kd S) (HR.2.1.trans eu) ?_
        refine w_N 4 114 [.ref 123, .int x1, .int 1, .int (wdS w u), .int fs, .int ms, .int mk, x7] [.int ((nI u) &&& (mk ^^^ (-1))), .ref 123] rfl ?_
        refine w_cc (w_vst rfl rfl rfl (Nat.le_of_ble_eq_true rfl) (Nat.le_of_ble_eq_true rfl) (M_kd S)) (m_fb (d := d + 17) (m := m) e2 hu S H hT HR.1 (HR.2.2.2.2.1 h15) (HR.2.2.1.trans hO.2.2.1) (hO.2.2.2.2.2 h15).2 (by omega) hO.1 (hO.2.2.2.2.2 h15).1 hO.2.2.2.1) ?_
        show lm_wp _ 211 117 [.ref 123, .int x1, .int 1, .int (wdS w u), .int fs, .int ms, .int mk, x7] [.int (lky T (awk (R 14)) (R 14) (R 10) ((nI u &&& (nI m ^^^ (-1))) ^^^ (-1)) (n + 1))] (hi, hl, X) _
        refine w_cc rfl m_bits ?_
        show lm_wp _ 211 120 [.ref 123, .int x1, .int 1, .int (wdS w u), .int fs, .int ms, .int mk, x7] [.int (lfS T n R u m)] (hi, hl, X) _
        refine w_N 3 125 [.ref 123, .int x1, .int 1, .int (wdS w u), .int fs, .int ms, .int mk, .int (lfS T n R u m)] [.int (-1), .int fs] rfl ?_
        refine w_icmp_eq (t := 135) rfl rfl (fun c3 => ?_) (fun c3 => ?_)
        · refine w_N 6 75 [.ref 123, .int x1, .int 1, .int (wdS w u), .int mk, .int (lfS T n R u m), .int (mk + 1), .int (lfS T n R u m)] [] rfl ?_
          refine ih (m + 1) _ _ _ _ (by omega) ?_ ?_ (by rw [e2, nI_succ])
          · show _ = aI (if (nI m &&& (nI u ^^^ (-1)) = 0 ∧ bsm (nI m) 11 = wdS w u) ∧ lfS T n R u m < (syS u (wdS w u) (lfS T n R u) m).2 then (m + 1, lfS T n R u m) else syS u (wdS w u) (lfS T n R u) m).1
            rw [if_pos ⟨⟨by rw [← e2]; exact c1, c2⟩, by rw [(sy_0 u (wdS w u) (lfS T n R u) m ((aI_none (by have := sy_lt u (wdS w u) (lfS T n R u) m; omega)).mp (e1 ▸ c3))).1]; exact lf_low T R u m hn10⟩]; exact e2
          · show (if (nI m &&& (nI u ^^^ (-1)) = 0 ∧ bsm (nI m) 11 = wdS w u) ∧ lfS T n R u m < (syS u (wdS w u) (lfS T n R u) m).2 then (m + 1, lfS T n R u m) else syS u (wdS w u) (lfS T n R u) m).1 ≠ 0 → _ = (if (nI m &&& (nI u ^^^ (-1)) = 0 ∧ bsm (nI m) 11 = wdS w u) ∧ lfS T n R u m < (syS u (wdS w u) (lfS T n R u) m).2 then (m + 1, lfS T n R u m) else syS u (wdS w u) (lfS T n R u) m).2
            rw [if_pos ⟨⟨by rw [← e2]; exact c1, c2⟩, by rw [(sy_0 u (wdS w u) (lfS T n R u) m ((aI_none (by have := sy_lt u (wdS w u) (lfS T n R u) m; omega)).mp (e1 ▸ c3))).1]; exact lf_low T R u m hn10⟩]; exact fun _ => rfl
        · refine w_N 2 132 [.ref 123, .int x1, .int 1, .int (wdS w u), .int fs, .int ms, .int mk, .int (lfS T n R u m)] [.int ms, .int (lfS T n R u m)] rfl ?_
          refine w_icmp_ge (t := 143) rfl rfl (fun c4 => ?_) (fun c4 => ?_)
          · refine w_N 2 75 [.ref 123, .int x1, .int 1, .int (wdS w u), .int fs, .int ms, .int (mk + 1), .int (lfS T n R u m)] [] rfl ?_
            refine ih (m + 1) _ _ _ _ (by omega) ?_ ?_ (by rw [e2, nI_succ])
            · show _ = aI (if (nI m &&& (nI u ^^^ (-1)) = 0 ∧ bsm (nI m) 11 = wdS w u) ∧ lfS T n R u m < (syS u (wdS w u) (lfS T n R u) m).2 then (m + 1, lfS T n R u m) else syS u (wdS w u) (lfS T n R u) m).1
              rw [if_neg (fun z => c4 (by rw [e3 (fun z => c3 (by rw [e1, z]; rfl))]; exact z.2))]; exact e1
            · show (if (nI m &&& (nI u ^^^ (-1)) = 0 ∧ bsm (nI m) 11 = wdS w u) ∧ lfS T n R u m < (syS u (wdS w u) (lfS T n R u) m).2 then (m + 1, lfS T n R u m) else syS u (wdS w u) (lfS T n R u) m).1 ≠ 0 → _ = (if (nI m &&& (nI u ^^^ (-1)) = 0 ∧ bsm (nI m) 11 = wdS w u) ∧ lfS T n R u m < (syS u (wdS w u) (lfS T n R u) m).2 then (m + 1, lfS T n R u m) else syS u (wdS w u) (lfS T n R u) m).2
              rw [if_neg (fun z => c4 (by rw [e3 (fun z => c3 (by rw [e1, z]; rfl))]; exact z.2))]; exact e3
          · refine w_N 6 75 [.ref 123, .int x1, .int 1, .int (wdS w u), .int mk, .int (lfS T n R u m), .int (mk + 1), .int (lfS T n R u m)] [] rfl ?_
            refine ih (m + 1) _ _ _ _ (by omega) ?_ ?_ (by rw [e2, nI_succ])
            · show _ = aI (if (nI m &&& (nI u ^^^ (-1)) = 0 ∧ bsm (nI m) 11 = wdS w u) ∧ lfS T n R u m < (syS u (wdS w u) (lfS T n R u) m).2 then (m + 1, lfS T n R u m) else syS u (wdS w u) (lfS T n R u) m).1
              rw [if_pos ⟨⟨by rw [← e2]; exact c1, c2⟩, by rw [← e3 (fun z => c3 (by rw [e1, z]; rfl))]; exact c4⟩]; exact e2
            · show (if (nI m &&& (nI u ^^^ (-1)) = 0 ∧ bsm (nI m) 11 = wdS w u) ∧ lfS T n R u m < (syS u (wdS w u) (lfS T n R u) m).2 then (m + 1, lfS T n R u m) else syS u (wdS w u) (lfS T n R u) m).1 ≠ 0 → _ = (if (nI m &&& (nI u ^^^ (-1)) = 0 ∧ bsm (nI m) 11 = wdS w u) ∧ lfS T n R u m < (syS u (wdS w u) (lfS T n R u) m).2 then (m + 1, lfS T n R u m) else syS u (wdS w u) (lfS T n R u) m).2
              rw [if_pos ⟨⟨by rw [← e2]; exact c1, c2⟩, by rw [← e3 (fun z => c3 (by rw [e1, z]; rfl))]; exact c4⟩]; exact fun _ => rfl
theorem y_say1 {d : Nat} {hi : Nat → Nat → Int32} {hl : Nat → Nat → Int64} {X : lm_X} {hi0 : Nat → Nat → Int32} {hl0 : Nat → Nat → Int64} {X0 : lm_X} {n ts : Nat} {T : lm_T} {R : Nat → Int32} {KO : ab_K} {V : ab_V} {tl F : Nat → Int32} (P : mP hi0 hl0 X0 hi hl X T n R KO V ts tl F) {B D : Nat} (Z : okZ B D T n R KO V ts tl) {w u : Nat} (hw : w ≤ 8) (hu : u < 256) (eu : R 11 = nI u) (h15 : R 15 = 1) : lm_w (d + 30) 211 [.ref 123, .int (nI w), .int 1] (hi, hl, X) (mQ hi0 hl0 X0 (.int ((syS u (wdS w u) (lfS T n R u) 256).2)) T n R KO V ts tl F) := by
  obtain ⟨SR, O, H, HR, HV, HT, HF, HK, E0, EL0, EX0⟩ := id P
  have S := SR.1
  obtain ⟨hT, hO, hV, hts, htl, hDB, hB0, hKO⟩ := id Z
  refine lm_w_in (Nat.le_of_ble_eq_true rfl) ?_
  show lm_wp (d + 30) 211 0 [.ref 123, .int (nI w), .int 1, lm_jk, lm_jk, lm_jk, lm_jk, lm_jk] [] (hi, hl, X) _
  refine w_N 4 6 [.ref 123, .int (nI w), .int 1, lm_jk, lm_jk, lm_jk, lm_jk, lm_jk] [.long 8, .long 0, .long ((nI w).toInt64)] rfl ?_
  refine w_cc rfl (lm_c_1 (m_in (x := nI w) (lo := 0) (up := 8) rfl (by decide) (by decide)) (wi_t (n := 8) hw (by decide))) ?_
  show lm_wp _ 211 9 [.ref 123, .int (nI w), .int 1, lm_jk, lm_jk, lm_jk, lm_jk, lm_jk] [.int 1] (hi, hl, X) _
  refine w_if_eq_f (t := 22) rfl rfl (by decide) ?_
  refine w_N 4 16 [.ref 123, .int (nI w), .int 1, lm_jk, lm_jk, lm_jk, lm_jk, lm_jk] [.long 1, .long 0, .long 1] rfl ?_
  refine w_cc rfl (lm_c_1 (m_in (x := 1) (lo := 0) (up := 1) (by decide) (by decide) (by decide)) (by decide)) ?_
  show lm_wp _ 211 19 [.ref 123, .int (nI w), .int 1, lm_jk, lm_jk, lm_jk, lm_jk, lm_jk] [.int 1] (hi, hl, X) _
  refine w_if_ne_t (t := 29) rfl rfl (by decide) ?_
  refine w_N 1 30 [.ref 123, .int (nI w), .int 1, lm_jk, lm_jk, lm_jk, lm_jk, lm_jk] [.ref 123] rfl ?_
  refine w_gi (v := R 15) rfl rfl rfl (M_kd S) (HR.2.2.2.2.2.1) ?_
  refine w_if_ne_t (t := 43) rfl rfl (by rw [h15]; decide) ?_
  refine w_N 2 45 [.ref 123, .int (nI w), .int 1, lm_jk, lm_jk, lm_jk, lm_jk, lm_jk] [.ref 123, .int (nI w)] rfl ?_
  refine w_gi (v := nI u) rfl rfl rfl (M_kd S) (HR.2.1.trans eu) ?_
  refine w_cc rfl m_bits ?_
  show lm_wp _ 211 51 [.ref 123, .int (nI w), .int 1, lm_jk, lm_jk, lm_jk, lm_jk, lm_jk] [.int (bsm (nI u) 11), .int (nI w)] (hi, hl, X) _
  refine w_icmp_ge (t := 58) rfl rfl (fun c1 => ?_) (fun c1 => ?_)
  · refine w_N 1 59 [.ref 123, .int (nI w), .int 1, lm_jk, lm_jk, lm_jk, lm_jk, lm_jk] [.ref 123] rfl ?_
    refine w_gi (v := nI u) rfl rfl rfl (M_kd S) (HR.2.1.trans eu) ?_
    refine w_cc rfl m_bits ?_
    show lm_wp _ 211 65 [.ref 123, .int (nI w), .int 1, lm_jk, lm_jk, lm_jk, lm_jk, lm_jk] [.int (bsm (nI u) 11)] (hi, hl, X) _
    refine w_N 7 75 [.ref 123, .int (nI w), .int 1, .int (bsm (nI u) 11), .int (-1), .int 0, .int 0, lm_jk] [] rfl ?_
    have ew : bsm (nI u) 11 = wdS w u := by unfold wdS; rw [if_neg c1]
    rw [ew]
    refine y_sayl1 (d := d + 10) S H HR hT hO (by omega) hu eu h15 (fun c ms x7 e3 => ?_) 256 0 _ _ _ _ (by omega) rfl (fun z => absurd rfl z) rfl
    rw [e3 (sy_ne T R (rTle H) hu hw)]
    refine w_N 1 150 _ [.int 1] rfl ?_
    refine w_if_ne_t (t := 158) rfl rfl (by decide) ?_
    refine w_N 1 160 _ [.int ((syS u (wdS w u) (lfS T n R u) 256).2)] rfl ?_
    refine w_ri rfl rfl ?_
    exact mq_ P
  · refine w_N 9 75 [.ref 123, .int (nI w), .int 1, .int (nI w), .int (-1), .int 0, .int 0, lm_jk] [] rfl ?_
    have ew : nI w = wdS w u := by unfold wdS; rw [if_pos c1]
    rw [ew]
    refine y_sayl1 (d := d + 10) S H HR hT hO (by omega) hu eu h15 (fun c ms x7 e3 => ?_) 256 0 _ _ _ _ (by omega) rfl (fun z => absurd rfl z) rfl
    rw [e3 (sy_ne T R (rTle H) hu hw)]
    refine w_N 1 150 _ [.int 1] rfl ?_
    refine w_if_ne_t (t := 158) rfl rfl (by decide) ?_
    refine w_N 1 160 _ [.int ((syS u (wdS w u) (lfS T n R u) 256).2)] rfl ?_
    refine w_ri rfl rfl ?_
    exact mq_ P
theorem st_say {B D : Nat} {n ts : Nat} {T : lm_T} {R : Nat → Int32} {KO : ab_K} {V : ab_V} {tl F : Nat → Int32} {w h : Int32} (Z : okZ B D T n R KO V ts tl) (hB : B + 20 < 2000000) : STEP B 119 211 [.int w, .int h] T n R KO V ts tl F := by
  obtain ⟨hT, hO, hV, hts, htl, hDB, hB0, hKO⟩ := id Z
  by_cases hb : (wi w 0 8 && wi h 0 1) = false
  · exact ⟨_, D, _, _, _, _, _, _, _, _, okZ_up Z hB, fun _ _ _ _ _ _ P hC => x_say_b (d := 10) P hb hC, fun _ _ _ _ _ _ P => y_say_b (d := 10) P hb⟩
  · obtain ⟨h1, h2⟩ := and2_t hb
    obtain ⟨w, rfl, hw⟩ := wi_e (n := 8) h1 (by decide)
    obtain ⟨h, rfl, hh⟩ := wi_e (n := 1) h2 (by decide)
    obtain ⟨u, hu, eu⟩ := hO.2.1
    rcases hO.2.2.2.2.1 with h15 | h15
    · exact ⟨_, D, _, _, _, _, _, _, _, _, okZ_up Z hB, fun _ _ _ _ _ _ P hC => x_say_n (d := 10) P hw hh h15 hC, fun _ _ _ _ _ _ P => y_say_n (d := 10) P hw hh h15⟩
    · rcases (by omega : h = 0 ∨ h = 1) with rfl | rfl
      · exact ⟨_, D, _, _, _, _, _, _, _, _, okZ_up Z hB, fun _ _ _ _ _ _ P hC => x_say0 (d := 10) P hw hu eu h15 hC, fun _ _ _ _ _ _ P => y_say0 (d := 10) P Z hw hu eu h15⟩
      · exact ⟨_, D, _, _, _, _, _, _, _, _, okZ_up Z hB, fun _ _ _ _ _ _ P hC => x_say1 (d := 10) P hw hu eu h15 hC, fun _ _ _ _ _ _ P => y_say1 (d := 10) P Z hw hu eu h15⟩
