set_option maxRecDepth 16384
/-! calls: judge, told -/
def jrR (T : lm_T) (n : Nat) (cl : Nat → Int64) : Nat → Nat → (Nat → Int32) → Int32 × (Nat → Int32)
  | _, 0, R => (-1, R)
  | m, j + 1, R => if alw T (tdN n (cl m)) (awk (R 10)) (R 10) = true then jrR T n cl (m + 1) j (lvR T (tdN n (cl m)) R) else (nI m, R)
theorem jr_eq (T : lm_T) (n : Nat) (cl cl' : Nat → Int64) : ∀ (j m : Nat) (Z R : Nat → Int32), (∀ i, i < m + j → cl i = cl' i) → Z 0 = R 10 → Z 1 = R 20 → Z 2 = R 21 → (jrZ T n cl m j Z).1 = (jrR T n cl' m j R).1 ∧ (jrZ T n cl m j Z).2 0 = (jrR T n cl' m j R).2 10 ∧ (jrZ T n cl m j Z).2 1 = (jrR T n cl' m j R).2 20 ∧ (jrZ T n cl m j Z).2 2 = (jrR T n cl' m j R).2 21 := by
  intro j
  induction j with
  | zero => intro m Z R _ h0 h1 h2; exact ⟨rfl, h0, h1, h2⟩
  | succ j ih =>
    intro m Z R hc h0 h1 h2
    have e : cl m = cl' m := hc m (by omega)
    unfold jrZ jrR
    rw [e, h0]
    by_cases q : alw T (tdN n (cl' m)) (awk (R 10)) (R 10) = true
    · rw [if_pos q, if_pos q]
      have hw := awk_lt (R 10)
      refine ih (m + 1) _ _ (fun i hi => hc i (by omega)) ?_ ?_ ?_
      · show s_next (aft T _ (Z 0)) = s_next (aft T _ (R 10)); rw [h0]
      · unfold goZ lvR
        rw [h0, h1]
        rcases (by omega : awk (R 10) = 0 ∨ awk (R 10) = 1) with q | q <;> simp [q]
      · unfold goZ lvR
        rw [h0, h2]
        rcases (by omega : awk (R 10) = 0 ∨ awk (R 10) = 1) with q | q <;> simp [q]
    · rw [if_neg q, if_neg q]
      exact ⟨rfl, h0, h1, h2⟩
def isA (n : Nat) (x : Int64) : Bool := decide (0 ≤ x.toInt ∧ x.toInt < n)
theorem tdN_t {n : Nat} {x : Int64} (hn : n ≤ 10) (h : isA n x = true) : ∃ i, i < n ∧ x.toInt32 = nI i ∧ tdN n x = i + 1 := by
  have h := of_decide_eq_true h
  refine ⟨x.toInt.toNat, by omega, ?_, if_pos h⟩
  apply Int32.toInt_inj.mp
  rw [nI_ti (by omega), Int64.toInt_toInt32, Int.toNat_of_nonneg h.1]
  exact Int.bmod_eq_of_le (by omega) (by omega)
theorem tdN_f {n : Nat} {x : Int64} (h : isA n x = false) : tdN n x = 0 := if_neg (of_decide_eq_false h)
theorem m_inL {d : Nat} {hi : Nat → Nat → Int32} {hl : Nat → Nat → Int64} {X : lm_X} {x lo up : Int64} : lm_c d 133 [.long x, .long lo, .long up] (hi, hl, X) (some (.int (bz (decide (lo.toInt ≤ x.toInt ∧ x.toInt ≤ up.toInt)))), (hi, hl, X)) := by
  refine lm_c_of (lm_w_in (Nat.le_of_ble_eq_true rfl) ?_)
  show lm_wp d 133 0 [.long x, lm_jk, .long lo, lm_jk, .long up, lm_jk] [] (hi, hl, X) _
  refine w_N 3 3 [.long x, lm_jk, .long lo, lm_jk, .long up, lm_jk] [.int (lg_cmp x lo)] rfl ?_
  refine w_if_lt (t := 17) rfl rfl (fun c1 => ?_) (fun c1 => ?_)
  · refine w_N 1 18 [.long x, lm_jk, .long lo, lm_jk, .long up, lm_jk] [.int 0] rfl ?_
    refine w_rz rfl rfl (by decide) ?_
    rw [lgc_lt] at c1
    rw [decide_eq_false (by omega)]
    rfl
  · refine w_N 3 10 [.long x, lm_jk, .long lo, lm_jk, .long up, lm_jk] [.int (lg_cmp x up)] rfl ?_
    rw [lgc_lt] at c1
    refine w_if_gt (t := 17) rfl rfl (fun c2 => ?_) (fun c2 => ?_)
    · refine w_N 1 18 [.long x, lm_jk, .long lo, lm_jk, .long up, lm_jk] [.int 0] rfl ?_
      refine w_rz rfl rfl (by decide) ?_
      rw [lgc_gt] at c2
      rw [decide_eq_false (by omega)]
      rfl
    · refine w_N 2 18 [.long x, lm_jk, .long lo, lm_jk, .long up, lm_jk] [.int 1] rfl ?_
      refine w_rz rfl rfl (by decide) ?_
      rw [lgc_gt] at c2
      rw [decide_eq_true (by omega)]
      rfl
theorem nI_m1 {n : Nat} (hn : n ≤ 10) : (nI n - 1 : Int32).toInt64.toInt = (n : Int) - 1 := by
  rw [Int32.toInt_toInt64]
  have q : ∀ n, n < 11 → (nI n - 1 : Int32).toInt = (n : Int) - 1 := by decide
  exact q n (by omega)
theorem m_isActL {d : Nat} {hi : Nat → Nat → Int32} {hl : Nat → Nat → Int64} {X : lm_X} {x : Int64} {n : Nat} {T : lm_T} (S : sh_M X 123) (H : rT hi 123 T n) : lm_c (d + 1) 134 [.ref 123, .long x] (hi, hl, X) (some (.int (bz (isA n x))), (hi, hl, X)) := by
  have e : decide ((0 : Int64).toInt ≤ x.toInt ∧ x.toInt ≤ (nI n - 1 : Int32).toInt64.toInt) = isA n x := by
    unfold isA
    rw [nI_m1 (rTle H), show (0 : Int64).toInt = 0 from rfl]
    congr 1
    exact propext ⟨fun h => ⟨h.1, by omega⟩, fun h => ⟨h.1, by omega⟩⟩
  refine lm_c_of (lm_w_in (Nat.le_of_ble_eq_true rfl) ?_)
  show lm_wp (d + 1) 134 0 [.ref 123, .long x, lm_jk] [] (hi, hl, X) _
  refine w_N 3 3 [.ref 123, .long x, lm_jk] [.ref 123, .long 0, .long x] rfl ?_
  refine w_gi (v := nI n) rfl rfl rfl (M_kd S) (rTn H) ?_
  refine w_N 3 9 [.ref 123, .long x, lm_jk] [.long (((nI n) - 1).toInt64), .long 0, .long x] rfl ?_
  refine w_cc rfl (lm_c_v m_inL (by rw [e])) ?_
  show lm_wp _ 134 12 [.ref 123, .long x, lm_jk] [.int (bz (isA n x))] (hi, hl, X) _
  refine w_rz rfl rfl (bz_or _) ?_
  rfl
theorem y_gt1 {d : Nat} {hi : Nat → Nat → Int32} {hl : Nat → Nat → Int64} {X : lm_X} {hi0 : Nat → Nat → Int32} {hl0 : Nat → Nat → Int64} {X0 : lm_X} {n ts : Nat} {T : lm_T} {R : Nat → Int32} {KO : ab_K} {V : ab_V} {tl F : Nat → Int32} {B D : Nat} (Z : okZ B D T n R KO V ts tl) {j N : Nat} (hj : j < 8) (hN : N ≤ 20) (S7 : sh_M X 700) {Po : Option Value → lm_H → Prop} : ∀ (r m : Nat) (hi' : Nat → Nat → Int32) (mk : Int32) (Rq : Nat → Int32) (x5 : Value), m + r = N → (mk = nI m) → (mP hi0 hl0 X0 hi' hl X T n R KO V ts tl F) → (rT hi' 700 T n) → (rR hi' 700 Rq) → (okR Rq (D + m)) → (∀ v h1, (∃ hi2, v = some (.int (jrR T n (V j).2.2.2 m r Rq).1) ∧ h1 = (hi2, hl, X) ∧ mP hi0 hl0 X0 hi2 hl X T n R KO V ts tl F ∧ rR hi2 700 (jrR T n (V j).2.2.2 m r Rq).2) → Po v h1) → lm_wp (d + 20) 194 8 [.ref 123, .int (nI j), .int (nI N), .ref 700, .int mk, x5] [] (hi', hl, X) Po := by
  intro r
  induction r with
  | zero =>
    intro m hi' mk Rq x5 hm e2 P H7 R7 O7 hP
    refine w_N 2 11 [.ref 123, .int (nI j), .int (nI N), .ref 700, .int mk, x5] [.int (nI N), .int mk] rfl ?_
    refine w_icmp_ge_t (t := 82) rfl rfl (by rw [e2, show m = N by omega]; exact fun z => Int32.lt_irrefl z) ?_
    refine w_N 1 83 [.ref 123, .int (nI j), .int (nI N), .ref 700, .int mk, x5] [.int (-1)] rfl ?_
    refine w_ri rfl rfl ?_
    exact hP _ _ ⟨hi', rfl, rfl, P, R7⟩
  | succ r ih =>
    intro m hi' mk Rq x5 hm e2 P H7 R7 O7 hP
    obtain ⟨SR, O, H, HR, HV, HT, HF, HK, E0, EL0, EX0⟩ := id P
    have S := SR.1
    obtain ⟨hT, hO, hV, hts, htl, hDB, hB0, hKO⟩ := id Z
    have hn10 := rTle H
    refine w_N 2 11 [.ref 123, .int (nI j), .int (nI N), .ref 700, .int mk, x5] [.int (nI N), .int mk] rfl ?_
    refine w_icmp_ge_f (t := 82) rfl rfl (by rw [e2]; exact nI_lt (by omega) (by omega)) ?_
    refine w_N 2 16 [.ref 123, .int (nI j), .int (nI N), .ref 700, .int mk, x5] [.ref 123, .ref 123] rfl ?_
    refine w_gr 127 rfl rfl rfl (M_kd S) (M_r S (k := 3) (o := 4) rfl) ?_
    refine w_N 1 20 [.ref 123, .int (nI j), .int (nI N), .ref 700, .int mk, x5] [.int (nI j), .ref 127, .ref 123] rfl ?_
    refine w_aa j (123 + (5 + j)) rfl (M_kk S (o := 4) (by decide)) (show X.2.2.1 (127) = 8 from M_l S 4 (by decide)) rfl hj (by decide) (M_ror S hj) ?_
    refine w_N 1 23 [.ref 123, .int (nI j), .int (nI N), .ref 700, .int mk, x5] [.int mk, .ref (123 + (5 + j)), .ref 123] rfl ?_
    refine w_la m (v := (V j).2.2.2 m) rfl (M_rok S hj) (M_rol S hj) e2 (by omega) (by decide) ((HV j hj).2.2.2.2.2 m (by omega)) ?_
    refine w_cc (w_vst rfl rfl rfl (Nat.le_of_ble_eq_true rfl) (Nat.le_of_ble_eq_true rfl) (M_kd S)) (m_isActL S H) ?_
    show lm_wp _ 194 27 [.ref 123, .int (nI j), .int (nI N), .ref 700, .int mk, x5] [.int (bz (isA n ((V j).2.2.2 m)))] (hi', hl, X) _
    refine w_zeq (t := 43) rfl rfl (fun c1 => ?_) (fun c1 => ?_)
    · refine w_N 2 46 [.ref 123, .int (nI j), .int (nI N), .ref 700, .int mk, .int (-1)] [] rfl ?_
      have et : tdN n ((V j).2.2.2 m) = 0 := tdN_f c1
      refine w_N 2 49 [.ref 123, .int (nI j), .int (nI N), .ref 700, .int mk, .int (-1)] [.int (-1), .int (-1)] rfl ?_
      refine w_icmp_eq_t (t := 70) rfl rfl (by decide) ?_
      refine w_N 2 73 [.ref 123, .int (nI j), .int (nI N), .ref 700, .int mk, .int (-1)] [.int (-1), .ref 700] rfl ?_
      have hal : alw T (tdN n ((V j).2.2.2 m)) (awk (Rq 10)) (Rq 10) = true := by rw [et]; rfl
      refine w_ca (w_vst rfl rfl rfl (Nat.le_of_ble_eq_true rfl) (Nat.le_of_ble_eq_true rfl) (M_kd S7)) (m_goes (d := d + 17) (i := tdN n ((V j).2.2.2 m)) S7 H7 R7 hT O7 (by omega) (by rw [et]; omega) hal (by rw [et]; rfl)) ?_
      rintro _ _ ⟨h8x, rfl, rfl, H8, R8, A8, B8⟩
      have P := mP_tried P (fun a ha => A8 a (by omega) (by omega) (by omega) (by omega))
      have eb : jrR T n (V j).2.2.2 m (r + 1) Rq = jrR T n (V j).2.2.2 (m + 1) r (lvR T (tdN n ((V j).2.2.2 m)) Rq) := if_pos hal
      rw [eb] at hP
      show lm_wp _ 194 76 [.ref 123, .int (nI j), .int (nI N), .ref 700, .int mk, .int (-1)] [] (h8x, hl, X) _
      refine w_N 2 8 [.ref 123, .int (nI j), .int (nI N), .ref 700, .int (mk + 1), .int (-1)] [] rfl ?_
      exact ih (m + 1) _ _ _ _ (by omega) (by rw [e2, nI_succ]) P H8 R8 (okR_lv hT (by rw [et]; omega) hal O7) hP
    · refine w_N 1 31 [.ref 123, .int (nI j), .int (nI N), .ref 700, .int mk, x5] [.ref 123] rfl ?_
      refine w_gr 127 rfl rfl rfl (M_kd S) (M_r S (k := 3) (o := 4) rfl) ?_
      refine w_N 1 35 [.ref 123, .int (nI j), .int (nI N), .ref 700, .int mk, x5] [.int (nI j), .ref 127] rfl ?_
      refine w_aa j (123 + (5 + j)) rfl (M_kk S (o := 4) (by decide)) (show X.2.2.1 (127) = 8 from M_l S 4 (by decide)) rfl hj (by decide) (M_ror S hj) ?_
      refine w_N 1 38 [.ref 123, .int (nI j), .int (nI N), .ref 700, .int mk, x5] [.int mk, .ref (123 + (5 + j))] rfl ?_
      refine w_la m (v := (V j).2.2.2 m) rfl (M_rok S hj) (M_rol S hj) e2 (by omega) (by decide) ((HV j hj).2.2.2.2.2 m (by omega)) ?_
      refine w_N 3 46 [.ref 123, .int (nI j), .int (nI N), .ref 700, .int mk, .int (((V j).2.2.2 m).toInt32)] [] rfl ?_
      obtain ⟨i, hi3, ei, et⟩ := tdN_t hn10 c1
      rw [ei]
      refine w_N 2 49 [.ref 123, .int (nI j), .int (nI N), .ref 700, .int mk, .int (nI i)] [.int (-1), .int (nI i)] rfl ?_
      refine w_icmp_eq_f (t := 70) rfl rfl (nI_n1 (by omega)) ?_
      refine w_N 3 56 [.ref 123, .int (nI j), .int (nI N), .ref 700, .int mk, .int (nI i)] [.ref 700, .int (nI i), .ref 700] rfl ?_
      refine w_gi (v := nI (D + m)) rfl rfl rfl (M_kd S7) (R7.2.2.1.trans O7.2.2.1) ?_
      refine w_N 1 60 [.ref 123, .int (nI j), .int (nI N), .ref 700, .int mk, .int (nI i)] [.int 2, .int (nI (D + m)), .int (nI i), .ref 700] rfl ?_
      refine w_rem rfl (by decide) ?_
      rw [hrem (s := Rq 10) O7.2.2.2.1 (by omega)]
      refine w_cc (w_vst rfl rfl rfl (Nat.le_of_ble_eq_true rfl) (Nat.le_of_ble_eq_true rfl) (M_kd S7)) (m_canBeE (d := d + 18) (a := i) (hf := awk (Rq 10)) S7 H7 R7.1 hT rfl rfl hi3) ?_
      show lm_wp _ 194 64 [.ref 123, .int (nI j), .int (nI N), .ref 700, .int mk, .int (nI i)] [.int (bz (alw T (i + 1) (awk (Rq 10)) (Rq 10)))] (hi', hl, X) _
      refine w_zne (t := 70) rfl rfl (fun c2 => ?_) (fun c2 => ?_)
      · refine w_N 2 73 [.ref 123, .int (nI j), .int (nI N), .ref 700, .int mk, .int (nI i)] [.int (nI i), .ref 700] rfl ?_
        have hal : alw T (tdN n ((V j).2.2.2 m)) (awk (Rq 10)) (Rq 10) = true := by rw [et]; exact c2
        refine w_ca (w_vst rfl rfl rfl (Nat.le_of_ble_eq_true rfl) (Nat.le_of_ble_eq_true rfl) (M_kd S7)) (m_goes (d := d + 17) (i := tdN n ((V j).2.2.2 m)) S7 H7 R7 hT O7 (by omega) (by rw [et]; omega) hal (by rw [et]; rfl)) ?_
        rintro _ _ ⟨h8x, rfl, rfl, H8, R8, A8, B8⟩
        have P := mP_tried P (fun a ha => A8 a (by omega) (by omega) (by omega) (by omega))
        have eb : jrR T n (V j).2.2.2 m (r + 1) Rq = jrR T n (V j).2.2.2 (m + 1) r (lvR T (tdN n ((V j).2.2.2 m)) Rq) := if_pos hal
        rw [eb] at hP
        show lm_wp _ 194 76 [.ref 123, .int (nI j), .int (nI N), .ref 700, .int mk, .int (nI i)] [] (h8x, hl, X) _
        refine w_N 2 8 [.ref 123, .int (nI j), .int (nI N), .ref 700, .int (mk + 1), .int (nI i)] [] rfl ?_
        exact ih (m + 1) _ _ _ _ (by omega) (by rw [e2, nI_succ]) P H8 R8 (okR_lv hT (by rw [et]; omega) hal O7) hP
      · refine w_N 1 69 [.ref 123, .int (nI j), .int (nI N), .ref 700, .int mk, .int (nI i)] [.int mk] rfl ?_
        refine w_ri rfl rfl ?_
        have eb : jrR T n (V j).2.2.2 m (r + 1) Rq = (nI m, Rq) := if_neg (by rw [et, c2]; decide)
        rw [eb] at hP
        exact hP _ _ ⟨hi', by rw [e2], rfl, P, R7⟩
theorem m_goThrough {d : Nat} {hi : Nat → Nat → Int32} {hl : Nat → Nat → Int64} {X : lm_X} {hi0 : Nat → Nat → Int32} {hl0 : Nat → Nat → Int64} {X0 : lm_X} {n ts : Nat} {T : lm_T} {R : Nat → Int32} {KO : ab_K} {V : ab_V} {tl F : Nat → Int32} (P : mP hi0 hl0 X0 hi hl X T n R KO V ts tl F) {B D : Nat} (Z : okZ B D T n R KO V ts tl) {j N : Nat} (hj : j < 8) (hN : N ≤ 20) : lm_w (d + 20) 194 [.ref 123, .int (nI j), .int (nI N)] (hi, hl, X) (fun v h1 => v = some (.int (jrR T n (V j).2.2.2 0 N (zrR R)).1) ∧ ∃ hi' hl' X', h1 = (hi', hl', X') ∧ mP hi0 hl0 X0 hi' hl' X' T n R KO V ts tl F ∧ sh_M X' 700 ∧ X'.1 123 23 = some 700 ∧ rR hi' 700 (jrR T n (V j).2.2.2 0 N (zrR R)).2) := by
  obtain ⟨SR, O, H, HR, HV, HT, HF, HK, E0, EL0, EX0⟩ := id P
  have S := SR.1
  obtain ⟨hT, hO, hV, hts, htl, hDB, hB0, hKO⟩ := id Z
  refine lm_w_in (Nat.le_of_ble_eq_true rfl) ?_
  show lm_wp (d + 20) 194 0 [.ref 123, .int (nI j), .int (nI N), lm_jk, lm_jk, lm_jk] [] (hi, hl, X) _
  refine w_N 1 1 [.ref 123, .int (nI j), .int (nI N), lm_jk, lm_jk, lm_jk] [.ref 123] rfl ?_
  refine w_ca (w_vst rfl rfl rfl (Nat.le_of_ble_eq_true rfl) (Nat.le_of_ble_eq_true rfl) (M_kd S)) (m_fresh (d := d + 17) SR H HR hO.2.2.2.2.1) ?_
  rintro _ _ ⟨h5x, hl5, X5, rfl, rfl, S5, S7, n23, SR5, H7, R7, f7, fl7, fx7⟩
  have P := mP_new P f7 fl7 fx7 SR5
  obtain ⟨SR, O, H, HR, HV, HT, HF, HK, E0, EL0, EX0⟩ := id P
  have S := SR.1
  show lm_wp _ 194 4 [.ref 123, .int (nI j), .int (nI N), lm_jk, lm_jk, lm_jk] [.ref 700] (h5x, hl5, X5) _
  refine w_N 3 8 [.ref 123, .int (nI j), .int (nI N), .ref 700, .int 0, lm_jk] [] rfl ?_
  refine y_gt1 (hi := hi) (KO := KO) (V := V) (T := T) (n := n) (R := R) Z hj hN S7 N 0 _ _ _ _ (by omega) rfl P H7 R7 (okR_zr hO) ?_
  rintro v h1 ⟨hi2, rfl, rfl, P2, R2⟩
  exact ⟨rfl, hi2, hl5, X5, rfl, P2, S7, n23, R2⟩
theorem x_judge_b {d : Nat} {hi : Nat → Nat → Int32} {hl : Nat → Nat → Int64} {X : lm_X} {hi0 : Nat → Nat → Int32} {hl0 : Nat → Nat → Int64} {C n ts : Nat} {T : lm_T} {R : Nat → Int32} {KO : ab_K} {V : ab_V} {tl F : Nat → Int32} (P : cP hi0 hl0 hi hl X C T n R KO V ts tl F) {s m : Int32} (hb : (wi s 0 7 && wi m 0 20) = false) (hC : C + 25 < 2147483648) : lm_w (d + 30) 110 [.ref 64, .int s, .int m] (hi, hl, X) (cQ hi0 hl0 X (C + 25) (.int (-2)) T n R KO V ts tl (rfU F (-2))) := by
  obtain ⟨S, O, H, HR, FO, HV, HT, HF, HK, E0, EL0⟩ := id P
  refine lm_w_in (Nat.le_of_ble_eq_true rfl) ?_
  show lm_wp (d + 30) 110 0 [.ref 64, .int s, .int m, lm_jk] [] (hi, hl, X) _
  refine w_N 1 1 [.ref 64, .int s, .int m, lm_jk] [.int s] rfl ?_
  refine w_cc rfl x_isShelf ?_
  show lm_wp _ 110 4 [.ref 64, .int s, .int m, lm_jk] [.int (bz (wi s 0 7))] (hi, hl, X) _
  refine w_zeq (t := 17) rfl rfl (fun c1 => ?_) (fun c1 => ?_)
  · refine w_N 2 20 [.ref 64, .int s, .int m, lm_jk] [.int (-2), .ref 64] rfl ?_
    refine w_ca (w_vst rfl rfl rfl (Nat.le_of_ble_eq_true rfl) (Nat.le_of_ble_eq_true rfl) (A_k S 64 (by decide))) (x_refuse P (by unfold isW; decide)) ?_
    rintro _ _ ⟨rfl, hi9, rfl, P9⟩
    show lm_wp _ 110 23 [.ref 64, .int s, .int m, lm_jk] [.int (-2)] (hi9, hl, X) _
    refine w_ri rfl rfl ?_
    exact cq_ P9 (by omega) hC
  · refine w_N 3 11 [.ref 64, .int s, .int m, lm_jk] [.int 20, .int 0, .int m] rfl ?_
    refine w_cc rfl x_within ?_
    show lm_wp _ 110 14 [.ref 64, .int s, .int m, lm_jk] [.int (bz (wi m 0 20))] (hi, hl, X) _
    refine w_zne (t := 24) rfl rfl (fun c2 => ?_) (fun c2 => ?_)
    · exact absurd hb (by simp [c1, c2])
    · refine w_N 2 20 [.ref 64, .int s, .int m, lm_jk] [.int (-2), .ref 64] rfl ?_
      refine w_ca (w_vst rfl rfl rfl (Nat.le_of_ble_eq_true rfl) (Nat.le_of_ble_eq_true rfl) (A_k S 64 (by decide))) (x_refuse P (by unfold isW; decide)) ?_
      rintro _ _ ⟨rfl, hi9, rfl, P9⟩
      show lm_wp _ 110 23 [.ref 64, .int s, .int m, lm_jk] [.int (-2)] (hi9, hl, X) _
      refine w_ri rfl rfl ?_
      exact cq_ P9 (by omega) hC
theorem y_judge_b {d : Nat} {hi : Nat → Nat → Int32} {hl : Nat → Nat → Int64} {X : lm_X} {hi0 : Nat → Nat → Int32} {hl0 : Nat → Nat → Int64} {X0 : lm_X} {n ts : Nat} {T : lm_T} {R : Nat → Int32} {KO : ab_K} {V : ab_V} {tl F : Nat → Int32} (P : mP hi0 hl0 X0 hi hl X T n R KO V ts tl F) {s m : Int32} (hb : (wi s 0 7 && wi m 0 20) = false) : lm_w (d + 30) 195 [.ref 123, .int s, .int m] (hi, hl, X) (mQ hi0 hl0 X0 (.int (-2)) T n R KO V ts tl (rfU F (-2))) := by
  obtain ⟨SR, O, H, HR, HV, HT, HF, HK, E0, EL0, EX0⟩ := id P
  have S := SR.1
  refine lm_w_in (Nat.le_of_ble_eq_true rfl) ?_
  show lm_wp (d + 30) 195 0 [.ref 123, .int s, .int m, lm_jk] [] (hi, hl, X) _
  refine w_N 3 3 [.ref 123, .int s, .int m, lm_jk] [.int m, .int s, .ref 123] rfl ?_
  refine w_ca (w_vst rfl rfl rfl (Nat.le_of_ble_eq_true rfl) (Nat.le_of_ble_eq_true rfl) (M_kd S)) (m_noTold_b P hb) ?_
  rintro _ _ ⟨rfl, hi9, rfl, P9⟩
  show lm_wp _ 195 6 [.ref 123, .int s, .int m, lm_jk] [.int (-2)] (hi9, hl, X) _
  refine w_N 2 8 [.ref 123, .int s, .int m, .int (-2)] [.int (-2)] rfl ?_
  refine w_if_eq_f (t := 15) rfl rfl (by decide) ?_
  refine w_N 2 21 [.ref 123, .int s, .int m, .int (-2)] [.int (-2)] rfl ?_
  refine w_ri rfl rfl ?_
  exact mq_ P9
theorem x_judge_l {d : Nat} {hi : Nat → Nat → Int32} {hl : Nat → Nat → Int64} {X : lm_X} {hi0 : Nat → Nat → Int32} {hl0 : Nat → Nat → Int64} {C n ts : Nat} {T : lm_T} {R : Nat → Int32} {KO : ab_K} {V : ab_V} {tl F : Nat → Int32} (P : cP hi0 hl0 hi hl X C T n R KO V ts tl F) {j N : Nat} (hj : j < 8) (hN : N ≤ 20) (hz : (V j).2.1 ≤ 40) (h0 : ¬ lkW (V j).1 (V j).2.1 (nI N) = 0) (hC : C + 25 < 2147483648) : lm_w (d + 30) 110 [.ref 64, .int (nI j), .int (nI N)] (hi, hl, X) (cQ hi0 hl0 X (C + 25) (.int (lkW (V j).1 (V j).2.1 (nI N))) T n R KO V ts tl (rfU F (lkW (V j).1 (V j).2.1 (nI N)))) := by
  obtain ⟨S, O, H, HR, FO, HV, HT, HF, HK, E0, EL0⟩ := id P
  refine lm_w_in (Nat.le_of_ble_eq_true rfl) ?_
  show lm_wp (d + 30) 110 0 [.ref 64, .int (nI j), .int (nI N), lm_jk] [] (hi, hl, X) _
  refine w_N 1 1 [.ref 64, .int (nI j), .int (nI N), lm_jk] [.int (nI j)] rfl ?_
  refine w_cc rfl (x_isShelf1 (wi_t (n := 7) (Nat.le_of_lt_succ hj) (by decide))) ?_
  show lm_wp _ 110 4 [.ref 64, .int (nI j), .int (nI N), lm_jk] [.int 1] (hi, hl, X) _
  refine w_if_eq_f (t := 17) rfl rfl (by decide) ?_
  refine w_N 3 11 [.ref 64, .int (nI j), .int (nI N), lm_jk] [.int 20, .int 0, .int (nI N)] rfl ?_
  refine w_cc rfl (x_within1 (wi_t (n := 20) hN (by decide))) ?_
  show lm_wp _ 110 14 [.ref 64, .int (nI j), .int (nI N), lm_jk] [.int 1] (hi, hl, X) _
  refine w_if_ne_t (t := 24) rfl rfl (by decide) ?_
  refine w_N 3 27 [.ref 64, .int (nI j), .int (nI N), lm_jk] [.int (nI N), .int (nI j), .ref 64] rfl ?_
  refine w_cc (w_vst rfl rfl rfl (Nat.le_of_ble_eq_true rfl) (Nat.le_of_ble_eq_true rfl) (A_k S 64 (by decide))) (x_lackRow P hj) ?_
  show lm_wp _ 110 30 [.ref 64, .int (nI j), .int (nI N), lm_jk] [.int (lkW (V j).1 (V j).2.1 (nI N))] (hi, hl, X) _
  refine w_N 2 32 [.ref 64, .int (nI j), .int (nI N), .int (lkW (V j).1 (V j).2.1 (nI N))] [.int (lkW (V j).1 (V j).2.1 (nI N))] rfl ?_
  refine w_if_eq_f (t := 41) rfl rfl h0 ?_
  refine w_N 2 37 [.ref 64, .int (nI j), .int (nI N), .int (lkW (V j).1 (V j).2.1 (nI N))] [.int (lkW (V j).1 (V j).2.1 (nI N)), .ref 64] rfl ?_
  refine w_ca (w_vst rfl rfl rfl (Nat.le_of_ble_eq_true rfl) (Nat.le_of_ble_eq_true rfl) (A_k S 64 (by decide))) (x_refuse P (lkW_W h0)) ?_
  rintro _ _ ⟨rfl, hi9, rfl, P9⟩
  show lm_wp _ 110 40 [.ref 64, .int (nI j), .int (nI N), .int (lkW (V j).1 (V j).2.1 (nI N))] [.int (lkW (V j).1 (V j).2.1 (nI N))] (hi9, hl, X) _
  refine w_ri rfl rfl ?_
  exact cq_ P9 (by omega) hC
theorem y_judge_l {d : Nat} {hi : Nat → Nat → Int32} {hl : Nat → Nat → Int64} {X : lm_X} {hi0 : Nat → Nat → Int32} {hl0 : Nat → Nat → Int64} {X0 : lm_X} {n ts : Nat} {T : lm_T} {R : Nat → Int32} {KO : ab_K} {V : ab_V} {tl F : Nat → Int32} (P : mP hi0 hl0 X0 hi hl X T n R KO V ts tl F) {j N : Nat} (hj : j < 8) (hN : N ≤ 20) (hz : (V j).2.1 ≤ 40) (h0 : ¬ lkW (V j).1 (V j).2.1 (nI N) = 0) : lm_w (d + 30) 195 [.ref 123, .int (nI j), .int (nI N)] (hi, hl, X) (mQ hi0 hl0 X0 (.int (lkW (V j).1 (V j).2.1 (nI N))) T n R KO V ts tl (rfU F (lkW (V j).1 (V j).2.1 (nI N)))) := by
  obtain ⟨SR, O, H, HR, HV, HT, HF, HK, E0, EL0, EX0⟩ := id P
  have S := SR.1
  refine lm_w_in (Nat.le_of_ble_eq_true rfl) ?_
  show lm_wp (d + 30) 195 0 [.ref 123, .int (nI j), .int (nI N), lm_jk] [] (hi, hl, X) _
  refine w_N 3 3 [.ref 123, .int (nI j), .int (nI N), lm_jk] [.int (nI N), .int (nI j), .ref 123] rfl ?_
  refine w_ca (w_vst rfl rfl rfl (Nat.le_of_ble_eq_true rfl) (Nat.le_of_ble_eq_true rfl) (M_kd S)) (m_noTold_1 P hj hN hz h0) ?_
  rintro _ _ ⟨rfl, hi9, rfl, P9⟩
  show lm_wp _ 195 6 [.ref 123, .int (nI j), .int (nI N), lm_jk] [.int (lkW (V j).1 (V j).2.1 (nI N))] (hi9, hl, X) _
  refine w_N 2 8 [.ref 123, .int (nI j), .int (nI N), .int (lkW (V j).1 (V j).2.1 (nI N))] [.int (lkW (V j).1 (V j).2.1 (nI N))] rfl ?_
  refine w_if_eq_f (t := 15) rfl rfl h0 ?_
  refine w_N 2 21 [.ref 123, .int (nI j), .int (nI N), .int (lkW (V j).1 (V j).2.1 (nI N))] [.int (lkW (V j).1 (V j).2.1 (nI N))] rfl ?_
  refine w_ri rfl rfl ?_
  exact mq_ P9
theorem x_judge {d : Nat} {hi : Nat → Nat → Int32} {hl : Nat → Nat → Int64} {X : lm_X} {hi0 : Nat → Nat → Int32} {hl0 : Nat → Nat → Int64} {C n ts : Nat} {T : lm_T} {R : Nat → Int32} {KO : ab_K} {V : ab_V} {tl F : Nat → Int32} (P : cP hi0 hl0 hi hl X C T n R KO V ts tl F) {B D : Nat} (Z : okZ B D T n R KO V ts tl) {j N : Nat} (hj : j < 8) (hN : N ≤ 20) (hz : (V j).2.1 ≤ 40) (h0 : lkW (V j).1 (V j).2.1 (nI N) = 0) (hC : C + 25 < 2147483648) : lm_w (d + 30) 110 [.ref 64, .int (nI j), .int (nI N)] (hi, hl, X) (cQ hi0 hl0 X (C + 25) (.int (jrR T n (V j).2.2.2 0 N (zrR R)).1) T n R KO V ts tl F) := by
  obtain ⟨S, O, H, HR, FO, HV, HT, HF, HK, E0, EL0⟩ := id P
  obtain ⟨hT, hO, hV, hts, htl, hDB, hB0, hKO⟩ := id Z
  have jz := jr_eq T n (hl (107 + 2 * j + 1)) (V j).2.2.2 N 0 (bgZ (R 10)) (zrR R) (fun i hi2 => (HV j hj).2.2.2 i (by omega)) rfl rfl rfl
  refine lm_w_in (Nat.le_of_ble_eq_true rfl) ?_
  show lm_wp (d + 30) 110 0 [.ref 64, .int (nI j), .int (nI N), lm_jk] [] (hi, hl, X) _
  refine w_N 1 1 [.ref 64, .int (nI j), .int (nI N), lm_jk] [.int (nI j)] rfl ?_
  refine w_cc rfl (x_isShelf1 (wi_t (n := 7) (Nat.le_of_lt_succ hj) (by decide))) ?_
  show lm_wp _ 110 4 [.ref 64, .int (nI j), .int (nI N), lm_jk] [.int 1] (hi, hl, X) _
  refine w_if_eq_f (t := 17) rfl rfl (by decide) ?_
  refine w_N 3 11 [.ref 64, .int (nI j), .int (nI N), lm_jk] [.int 20, .int 0, .int (nI N)] rfl ?_
  refine w_cc rfl (x_within1 (wi_t (n := 20) hN (by decide))) ?_
  show lm_wp _ 110 14 [.ref 64, .int (nI j), .int (nI N), lm_jk] [.int 1] (hi, hl, X) _
  refine w_if_ne_t (t := 24) rfl rfl (by decide) ?_
  refine w_N 3 27 [.ref 64, .int (nI j), .int (nI N), lm_jk] [.int (nI N), .int (nI j), .ref 64] rfl ?_
  refine w_cc (w_vst rfl rfl rfl (Nat.le_of_ble_eq_true rfl) (Nat.le_of_ble_eq_true rfl) (A_k S 64 (by decide))) (lm_c_v (x_lackRow P hj) h0) ?_
  show lm_wp _ 110 30 [.ref 64, .int (nI j), .int (nI N), lm_jk] [.int 0] (hi, hl, X) _
  refine w_N 2 32 [.ref 64, .int (nI j), .int (nI N), .int 0] [.int 0] rfl ?_
  refine w_if_eq_t (t := 41) rfl rfl (by decide) ?_
  refine w_N 1 42 [.ref 64, .int (nI j), .int (nI N), .int 0] [.ref 64] rfl ?_
  refine w_gr 104 rfl rfl rfl (A_k S 64 (by decide)) (A_r S 64 8 (by decide)) ?_
  refine w_N 1 46 [.ref 64, .int (nI j), .int (nI N), .int 0] [.ref 64, .ref 104] rfl ?_
  refine w_gr 97 rfl rfl rfl (A_k S 64 (by decide)) (A_r S 64 5 (by decide)) ?_
  refine w_N 1 50 [.ref 64, .int (nI j), .int (nI N), .int 0] [.int (nI j), .ref 97, .ref 104] rfl ?_
  refine w_aa j (107 + 2 * j) rfl ⟨by rw [A_k S 97 (by decide)]; decide, by rw [A_k S 97 (by decide)]; decide⟩ (show X.2.2.1 97 = 8 from A_l S 97 (by decide)) rfl hj (by decide) (A_sv S hj) ?_
  refine w_N 1 52 [.ref 64, .int (nI j), .int (nI N), .int 0] [.int (nI N), .ref (107 + 2 * j), .ref 104] rfl ?_
  refine w_ca (w_vst rfl rfl rfl (Nat.le_of_ble_eq_true rfl) (Nat.le_of_ble_eq_true rfl) (A_k S 104 (by decide))) (z_goByRow (d := d + 26) S (A_Sf S hj) hT (by omega) H HR.1) ?_
  rintro _ _ ⟨h5x, rfl, rfl, Z5, f5⟩
  rw [jz.1]
  have P := cP_fore P (fr_mono f5 (by decide)) (fok_fr f5 (by decide) FO)
  obtain ⟨S, O, H, HR, FO, HV, HT, HF, HK, E0, EL0⟩ := id P
  show lm_wp _ 110 55 [.ref 64, .int (nI j), .int (nI N), .int 0] [.int ((jrR T n (V j).2.2.2 0 N (zrR R)).1)] (h5x, hl, X) _
  refine w_ri rfl rfl ?_
  exact cq_ P (by omega) hC
theorem y_judge {d : Nat} {hi : Nat → Nat → Int32} {hl : Nat → Nat → Int64} {X : lm_X} {hi0 : Nat → Nat → Int32} {hl0 : Nat → Nat → Int64} {X0 : lm_X} {n ts : Nat} {T : lm_T} {R : Nat → Int32} {KO : ab_K} {V : ab_V} {tl F : Nat → Int32} (P : mP hi0 hl0 X0 hi hl X T n R KO V ts tl F) {B D : Nat} (Z : okZ B D T n R KO V ts tl) {j N : Nat} (hj : j < 8) (hN : N ≤ 20) (hz : (V j).2.1 ≤ 40) (h0 : lkW (V j).1 (V j).2.1 (nI N) = 0) : lm_w (d + 30) 195 [.ref 123, .int (nI j), .int (nI N)] (hi, hl, X) (mQ hi0 hl0 X0 (.int (jrR T n (V j).2.2.2 0 N (zrR R)).1) T n R KO V ts tl F) := by
  obtain ⟨SR, O, H, HR, HV, HT, HF, HK, E0, EL0, EX0⟩ := id P
  have S := SR.1
  obtain ⟨hT, hO, hV, hts, htl, hDB, hB0, hKO⟩ := id Z
  refine lm_w_in (Nat.le_of_ble_eq_true rfl) ?_
  show lm_wp (d + 30) 195 0 [.ref 123, .int (nI j), .int (nI N), lm_jk] [] (hi, hl, X) _
  refine w_N 3 3 [.ref 123, .int (nI j), .int (nI N), lm_jk] [.int (nI N), .int (nI j), .ref 123] rfl ?_
  refine w_cc (w_vst rfl rfl rfl (Nat.le_of_ble_eq_true rfl) (Nat.le_of_ble_eq_true rfl) (M_kd S)) (m_noTold_0 P hj hN hz h0) ?_
  show lm_wp _ 195 6 [.ref 123, .int (nI j), .int (nI N), lm_jk] [.int 0] (hi, hl, X) _
  refine w_N 2 8 [.ref 123, .int (nI j), .int (nI N), .int 0] [.int 0] rfl ?_
  refine w_if_eq_t (t := 15) rfl rfl (by decide) ?_
  refine w_N 3 18 [.ref 123, .int (nI j), .int (nI N), .int 0] [.int (nI N), .int (nI j), .ref 123] rfl ?_
  refine w_ca (w_vst rfl rfl rfl (Nat.le_of_ble_eq_true rfl) (Nat.le_of_ble_eq_true rfl) (M_kd S)) (m_goThrough (d := d + 9) P Z hj hN) ?_
  rintro _ _ ⟨rfl, h5x, hl5, X5, rfl, P, S7, n23, R8⟩
  obtain ⟨SR, O, H, HR, HV, HT, HF, HK, E0, EL0, EX0⟩ := id P
  have S := SR.1
  show lm_wp _ 195 21 [.ref 123, .int (nI j), .int (nI N), .int 0] [.int ((jrR T n (V j).2.2.2 0 N (zrR R)).1)] (h5x, hl5, X5) _
  refine w_ri rfl rfl ?_
  exact mq_ P
theorem st_judge {B D : Nat} {n ts : Nat} {T : lm_T} {R : Nat → Int32} {KO : ab_K} {V : ab_V} {tl F : Nat → Int32} {s m : Int32} (Z : okZ B D T n R KO V ts tl) (hB : B + 20 < 2000000) : STEP B 110 195 [.int s, .int m] T n R KO V ts tl F := by
  obtain ⟨hT, hO, hV, hts, htl, hDB, hB0, hKO⟩ := id Z
  by_cases hb : (wi s 0 7 && wi m 0 20) = false
  · exact ⟨_, D, _, _, _, _, _, _, _, _, okZ_up Z hB, fun _ _ _ _ _ _ P hC => x_judge_b (d := 10) P hb hC, fun _ _ _ _ _ _ P => y_judge_b (d := 10) P hb⟩
  · obtain ⟨h1, h2⟩ := and2_t hb
    obtain ⟨j, rfl, hj⟩ := wi_e (n := 7) h1 (by decide)
    obtain ⟨N, rfl, hN⟩ := wi_e (n := 20) h2 (by decide)
    have hz := (hV j (by omega)).2.1
    by_cases h0 : lkW (V j).1 (V j).2.1 (nI N) = 0
    · exact ⟨_, D, _, _, _, _, _, _, _, _, okZ_up Z hB, fun _ _ _ _ _ _ P hC => x_judge (d := 10) P Z (by omega) hN hz h0 hC, fun _ _ _ _ _ _ P => y_judge (d := 10) P Z (by omega) hN hz h0⟩
    · exact ⟨_, D, _, _, _, _, _, _, _, _, okZ_up Z hB, fun _ _ _ _ _ _ P hC => x_judge_l (d := 10) P (by omega) hN hz h0 hC, fun _ _ _ _ _ _ P => y_judge_l (d := 10) P (by omega) hN hz h0⟩
theorem x_told_b {d : Nat} {hi : Nat → Nat → Int32} {hl : Nat → Nat → Int64} {X : lm_X} {hi0 : Nat → Nat → Int32} {hl0 : Nat → Nat → Int64} {C n ts : Nat} {T : lm_T} {R : Nat → Int32} {KO : ab_K} {V : ab_V} {tl F : Nat → Int32} (P : cP hi0 hl0 hi hl X C T n R KO V ts tl F) {s m w : Int32} (hb : (wi s 0 7 && wi m 0 20 && wi w 0 2) = false) (hC : C + 25 < 2147483648) : lm_w (d + 30) 111 [.ref 64, .int s, .int m, .int w] (hi, hl, X) (cQ hi0 hl0 X (C + 25) (.int (-1000002)) T n R KO V ts tl (rfU F (-2))) := by
  obtain ⟨S, O, H, HR, FO, HV, HT, HF, HK, E0, EL0⟩ := id P
  refine lm_w_in (Nat.le_of_ble_eq_true rfl) ?_
  show lm_wp (d + 30) 111 0 [.ref 64, .int s, .int m, .int w, lm_jk] [] (hi, hl, X) _
  refine w_N 1 1 [.ref 64, .int s, .int m, .int w, lm_jk] [.int s] rfl ?_
  refine w_cc rfl x_isShelf ?_
  show lm_wp _ 111 4 [.ref 64, .int s, .int m, .int w, lm_jk] [.int (bz (wi s 0 7))] (hi, hl, X) _
  refine w_zeq (t := 26) rfl rfl (fun c1 => ?_) (fun c1 => ?_)
  · refine w_N 2 29 [.ref 64, .int s, .int m, .int w, lm_jk] [.int (-2), .ref 64] rfl ?_
    refine w_ca (w_vst rfl rfl rfl (Nat.le_of_ble_eq_true rfl) (Nat.le_of_ble_eq_true rfl) (A_k S 64 (by decide))) (x_refuseGain P (by unfold isW; decide)) ?_
    rintro _ _ ⟨rfl, hi9, rfl, P9⟩
    show lm_wp _ 111 32 [.ref 64, .int s, .int m, .int w, lm_jk] [.int (-1000002)] (hi9, hl, X) _
    refine w_ri rfl rfl ?_
    exact cq_ P9 (by omega) hC
  · refine w_N 3 11 [.ref 64, .int s, .int m, .int w, lm_jk] [.int 20, .int 0, .int m] rfl ?_
    refine w_cc rfl x_within ?_
    show lm_wp _ 111 14 [.ref 64, .int s, .int m, .int w, lm_jk] [.int (bz (wi m 0 20))] (hi, hl, X) _
    refine w_zeq (t := 26) rfl rfl (fun c2 => ?_) (fun c2 => ?_)
    · refine w_N 2 29 [.ref 64, .int s, .int m, .int w, lm_jk] [.int (-2), .ref 64] rfl ?_
      refine w_ca (w_vst rfl rfl rfl (Nat.le_of_ble_eq_true rfl) (Nat.le_of_ble_eq_true rfl) (A_k S 64 (by decide))) (x_refuseGain P (by unfold isW; decide)) ?_
      rintro _ _ ⟨rfl, hi9, rfl, P9⟩
      show lm_wp _ 111 32 [.ref 64, .int s, .int m, .int w, lm_jk] [.int (-1000002)] (hi9, hl, X) _
      refine w_ri rfl rfl ?_
      exact cq_ P9 (by omega) hC
    · refine w_N 3 20 [.ref 64, .int s, .int m, .int w, lm_jk] [.int 2, .int 0, .int w] rfl ?_
      refine w_cc rfl x_within ?_
      show lm_wp _ 111 23 [.ref 64, .int s, .int m, .int w, lm_jk] [.int (bz (wi w 0 2))] (hi, hl, X) _
      refine w_zne (t := 33) rfl rfl (fun c3 => ?_) (fun c3 => ?_)
      · exact absurd hb (by simp [c1, c2, c3])
      · refine w_N 2 29 [.ref 64, .int s, .int m, .int w, lm_jk] [.int (-2), .ref 64] rfl ?_
        refine w_ca (w_vst rfl rfl rfl (Nat.le_of_ble_eq_true rfl) (Nat.le_of_ble_eq_true rfl) (A_k S 64 (by decide))) (x_refuseGain P (by unfold isW; decide)) ?_
        rintro _ _ ⟨rfl, hi9, rfl, P9⟩
        show lm_wp _ 111 32 [.ref 64, .int s, .int m, .int w, lm_jk] [.int (-1000002)] (hi9, hl, X) _
        refine w_ri rfl rfl ?_
        exact cq_ P9 (by omega) hC
theorem y_told_b1 {d : Nat} {hi : Nat → Nat → Int32} {hl : Nat → Nat → Int64} {X : lm_X} {hi0 : Nat → Nat → Int32} {hl0 : Nat → Nat → Int64} {X0 : lm_X} {n ts : Nat} {T : lm_T} {R : Nat → Int32} {KO : ab_K} {V : ab_V} {tl F : Nat → Int32} (P : mP hi0 hl0 X0 hi hl X T n R KO V ts tl F) {s m w : Int32} (hb : wi w 0 2 = false) : lm_w (d + 30) 196 [.ref 123, .int s, .int m, .int w] (hi, hl, X) (mQ hi0 hl0 X0 (.int (-1000002)) T n R KO V ts tl (rfU F (-2))) := by
  obtain ⟨SR, O, H, HR, HV, HT, HF, HK, E0, EL0, EX0⟩ := id P
  have S := SR.1
  refine lm_w_in (Nat.le_of_ble_eq_true rfl) ?_
  show lm_wp (d + 30) 196 0 [.ref 123, .int s, .int m, .int w, lm_jk] [] (hi, hl, X) _
  refine w_N 4 6 [.ref 123, .int s, .int m, .int w, lm_jk] [.long 2, .long 0, .long w.toInt64] rfl ?_
  refine w_cc rfl (m_in (x := w) (lo := 0) (up := 2) rfl (by decide) (by decide)) ?_
  show lm_wp _ 196 9 [.ref 123, .int s, .int m, .int w, lm_jk] [.int (bz (wi w 0 2))] (hi, hl, X) _
  refine w_if_ne_f (t := 22) rfl rfl (c_eqz hb) ?_
  refine w_N 3 17 [.ref 123, .int s, .int m, .int w, lm_jk] [.int (-2), .ref 123, .int (-1000000)] rfl ?_
  refine w_ca (w_vst rfl rfl rfl (Nat.le_of_ble_eq_true rfl) (Nat.le_of_ble_eq_true rfl) (M_kd S)) (m_refuse P (by unfold isW; decide)) ?_
  rintro _ _ ⟨rfl, hi9, rfl, P9⟩
  show lm_wp _ 196 20 [.ref 123, .int s, .int m, .int w, lm_jk] [.int (-2), .int (-1000000)] (hi9, hl, X) _
  refine w_N 1 21 [.ref 123, .int s, .int m, .int w, lm_jk] [.int (-1000002)] rfl ?_
  refine w_ri rfl rfl ?_
  exact mq_ P9
theorem y_told_b2 {d : Nat} {hi : Nat → Nat → Int32} {hl : Nat → Nat → Int64} {X : lm_X} {hi0 : Nat → Nat → Int32} {hl0 : Nat → Nat → Int64} {X0 : lm_X} {n ts : Nat} {T : lm_T} {R : Nat → Int32} {KO : ab_K} {V : ab_V} {tl F : Nat → Int32} (P : mP hi0 hl0 X0 hi hl X T n R KO V ts tl F) {s m w : Int32} (hw : wi w 0 2 = true) (hb : (wi s 0 7 && wi m 0 20) = false) : lm_w (d + 30) 196 [.ref 123, .int s, .int m, .int w] (hi, hl, X) (mQ hi0 hl0 X0 (.int (-1000002)) T n R KO V ts tl (rfU F (-2))) := by
  obtain ⟨SR, O, H, HR, HV, HT, HF, HK, E0, EL0, EX0⟩ := id P
  have S := SR.1
  refine lm_w_in (Nat.le_of_ble_eq_true rfl) ?_
  show lm_wp (d + 30) 196 0 [.ref 123, .int s, .int m, .int w, lm_jk] [] (hi, hl, X) _
  refine w_N 4 6 [.ref 123, .int s, .int m, .int w, lm_jk] [.long 2, .long 0, .long w.toInt64] rfl ?_
  refine w_cc rfl (lm_c_1 (m_in (x := w) (lo := 0) (up := 2) rfl (by decide) (by decide)) (hw)) ?_
  show lm_wp _ 196 9 [.ref 123, .int s, .int m, .int w, lm_jk] [.int 1] (hi, hl, X) _
  refine w_if_ne_t (t := 22) rfl rfl (by decide) ?_
  refine w_N 3 25 [.ref 123, .int s, .int m, .int w, lm_jk] [.int m, .int s, .ref 123] rfl ?_
  refine w_ca (w_vst rfl rfl rfl (Nat.le_of_ble_eq_true rfl) (Nat.le_of_ble_eq_true rfl) (M_kd S)) (m_noTold_b P hb) ?_
  rintro _ _ ⟨rfl, hi9, rfl, P9⟩
  show lm_wp _ 196 28 [.ref 123, .int s, .int m, .int w, lm_jk] [.int (-2)] (hi9, hl, X) _
  refine w_N 2 32 [.ref 123, .int s, .int m, .int w, .int (-2)] [.int (-2)] rfl ?_
  refine w_if_eq_f (t := 41) rfl rfl (by decide) ?_
  refine w_N 3 40 [.ref 123, .int s, .int m, .int w, .int (-2)] [.int (-1000002)] rfl ?_
  refine w_ri rfl rfl ?_
  exact mq_ P9
theorem x_told_l {d : Nat} {hi : Nat → Nat → Int32} {hl : Nat → Nat → Int64} {X : lm_X} {hi0 : Nat → Nat → Int32} {hl0 : Nat → Nat → Int64} {C n ts : Nat} {T : lm_T} {R : Nat → Int32} {KO : ab_K} {V : ab_V} {tl F : Nat → Int32} (P : cP hi0 hl0 hi hl X C T n R KO V ts tl F) {j N w : Nat} (hj : j < 8) (hN : N ≤ 20) (hw : w ≤ 2) (hz : (V j).2.1 ≤ 40) (h0 : ¬ lkW (V j).1 (V j).2.1 (nI N) = 0) (hC : C + 25 < 2147483648) : lm_w (d + 30) 111 [.ref 64, .int (nI j), .int (nI N), .int (nI w)] (hi, hl, X) (cQ hi0 hl0 X (C + 25) (.int (-1000000 + lkW (V j).1 (V j).2.1 (nI N))) T n R KO V ts tl (rfU F (lkW (V j).1 (V j).2.1 (nI N)))) := by
  obtain ⟨S, O, H, HR, FO, HV, HT, HF, HK, E0, EL0⟩ := id P
  refine lm_w_in (Nat.le_of_ble_eq_true rfl) ?_
  show lm_wp (d + 30) 111 0 [.ref 64, .int (nI j), .int (nI N), .int (nI w), lm_jk] [] (hi, hl, X) _
  refine w_N 1 1 [.ref 64, .int (nI j), .int (nI N), .int (nI w), lm_jk] [.int (nI j)] rfl ?_
  refine w_cc rfl (x_isShelf1 (wi_t (n := 7) (Nat.le_of_lt_succ hj) (by decide))) ?_
  show lm_wp _ 111 4 [.ref 64, .int (nI j), .int (nI N), .int (nI w), lm_jk] [.int 1] (hi, hl, X) _
  refine w_if_eq_f (t := 26) rfl rfl (by decide) ?_
  refine w_N 3 11 [.ref 64, .int (nI j), .int (nI N), .int (nI w), lm_jk] [.int 20, .int 0, .int (nI N)] rfl ?_
  refine w_cc rfl (x_within1 (wi_t (n := 20) hN (by decide))) ?_
  show lm_wp _ 111 14 [.ref 64, .int (nI j), .int (nI N), .int (nI w), lm_jk] [.int 1] (hi, hl, X) _
  refine w_if_eq_f (t := 26) rfl rfl (by decide) ?_
  refine w_N 3 20 [.ref 64, .int (nI j), .int (nI N), .int (nI w), lm_jk] [.int 2, .int 0, .int (nI w)] rfl ?_
  refine w_cc rfl (x_within1 (wi_t (n := 2) hw (by decide))) ?_
  show lm_wp _ 111 23 [.ref 64, .int (nI j), .int (nI N), .int (nI w), lm_jk] [.int 1] (hi, hl, X) _
  refine w_if_ne_t (t := 33) rfl rfl (by decide) ?_
  refine w_N 3 36 [.ref 64, .int (nI j), .int (nI N), .int (nI w), lm_jk] [.int (nI N), .int (nI j), .ref 64] rfl ?_
  refine w_cc (w_vst rfl rfl rfl (Nat.le_of_ble_eq_true rfl) (Nat.le_of_ble_eq_true rfl) (A_k S 64 (by decide))) (x_lackRow P hj) ?_
  show lm_wp _ 111 39 [.ref 64, .int (nI j), .int (nI N), .int (nI w), lm_jk] [.int (lkW (V j).1 (V j).2.1 (nI N))] (hi, hl, X) _
  refine w_N 2 43 [.ref 64, .int (nI j), .int (nI N), .int (nI w), .int (lkW (V j).1 (V j).2.1 (nI N))] [.int (lkW (V j).1 (V j).2.1 (nI N))] rfl ?_
  refine w_if_eq_f (t := 53) rfl rfl h0 ?_
  refine w_N 2 49 [.ref 64, .int (nI j), .int (nI N), .int (nI w), .int (lkW (V j).1 (V j).2.1 (nI N))] [.int (lkW (V j).1 (V j).2.1 (nI N)), .ref 64] rfl ?_
  refine w_ca (w_vst rfl rfl rfl (Nat.le_of_ble_eq_true rfl) (Nat.le_of_ble_eq_true rfl) (A_k S 64 (by decide))) (x_refuseGain P (lkW_W h0)) ?_
  rintro _ _ ⟨rfl, hi9, rfl, P9⟩
  show lm_wp _ 111 52 [.ref 64, .int (nI j), .int (nI N), .int (nI w), .int (lkW (V j).1 (V j).2.1 (nI N))] [.int (-1000000 + (lkW (V j).1 (V j).2.1 (nI N)))] (hi9, hl, X) _
  refine w_ri rfl rfl ?_
  exact cq_ P9 (by omega) hC
theorem y_told_l {d : Nat} {hi : Nat → Nat → Int32} {hl : Nat → Nat → Int64} {X : lm_X} {hi0 : Nat → Nat → Int32} {hl0 : Nat → Nat → Int64} {X0 : lm_X} {n ts : Nat} {T : lm_T} {R : Nat → Int32} {KO : ab_K} {V : ab_V} {tl F : Nat → Int32} (P : mP hi0 hl0 X0 hi hl X T n R KO V ts tl F) {j N w : Nat} (hj : j < 8) (hN : N ≤ 20) (hw : w ≤ 2) (hz : (V j).2.1 ≤ 40) (h0 : ¬ lkW (V j).1 (V j).2.1 (nI N) = 0) : lm_w (d + 30) 196 [.ref 123, .int (nI j), .int (nI N), .int (nI w)] (hi, hl, X) (mQ hi0 hl0 X0 (.int (-1000000 + lkW (V j).1 (V j).2.1 (nI N))) T n R KO V ts tl (rfU F (lkW (V j).1 (V j).2.1 (nI N)))) := by
  obtain ⟨SR, O, H, HR, HV, HT, HF, HK, E0, EL0, EX0⟩ := id P
  have S := SR.1
  refine lm_w_in (Nat.le_of_ble_eq_true rfl) ?_
  show lm_wp (d + 30) 196 0 [.ref 123, .int (nI j), .int (nI N), .int (nI w), lm_jk] [] (hi, hl, X) _
  refine w_N 4 6 [.ref 123, .int (nI j), .int (nI N), .int (nI w), lm_jk] [.long 2, .long 0, .long ((nI w).toInt64)] rfl ?_
  refine w_cc rfl (lm_c_1 (m_in (x := nI w) (lo := 0) (up := 2) rfl (by decide) (by decide)) (wi_t (n := 2) hw (by decide))) ?_
  show lm_wp _ 196 9 [.ref 123, .int (nI j), .int (nI N), .int (nI w), lm_jk] [.int 1] (hi, hl, X) _
  refine w_if_ne_t (t := 22) rfl rfl (by decide) ?_
  refine w_N 3 25 [.ref 123, .int (nI j), .int (nI N), .int (nI w), lm_jk] [.int (nI N), .int (nI j), .ref 123] rfl ?_
  refine w_ca (w_vst rfl rfl rfl (Nat.le_of_ble_eq_true rfl) (Nat.le_of_ble_eq_true rfl) (M_kd S)) (m_noTold_1 P hj hN hz h0) ?_
  rintro _ _ ⟨rfl, hi9, rfl, P9⟩
  show lm_wp _ 196 28 [.ref 123, .int (nI j), .int (nI N), .int (nI w), lm_jk] [.int (lkW (V j).1 (V j).2.1 (nI N))] (hi9, hl, X) _
  refine w_N 2 32 [.ref 123, .int (nI j), .int (nI N), .int (nI w), .int (lkW (V j).1 (V j).2.1 (nI N))] [.int (lkW (V j).1 (V j).2.1 (nI N))] rfl ?_
  refine w_if_eq_f (t := 41) rfl rfl h0 ?_
  refine w_N 3 40 [.ref 123, .int (nI j), .int (nI N), .int (nI w), .int (lkW (V j).1 (V j).2.1 (nI N))] [.int ((-1000000) + (lkW (V j).1 (V j).2.1 (nI N)))] rfl ?_
  refine w_ri rfl rfl ?_
  exact mq_ P9
theorem x_told_s {d : Nat} {hi : Nat → Nat → Int32} {hl : Nat → Nat → Int64} {X : lm_X} {hi0 : Nat → Nat → Int32} {hl0 : Nat → Nat → Int64} {C n ts : Nat} {T : lm_T} {R : Nat → Int32} {KO : ab_K} {V : ab_V} {tl F : Nat → Int32} (P : cP hi0 hl0 hi hl X C T n R KO V ts tl F) {B D : Nat} (Z : okZ B D T n R KO V ts tl) {j N w : Nat} (hj : j < 8) (hN : N ≤ 20) (hw : w ≤ 2) (hz : (V j).2.1 ≤ 40) (h0 : lkW (V j).1 (V j).2.1 (nI N) = 0) (hj1 : ¬ (jrR T n (V j).2.2.2 0 N (zrR R)).1 = -1) (hC : C + 25 < 2147483648) : lm_w (d + 30) 111 [.ref 64, .int (nI j), .int (nI N), .int (nI w)] (hi, hl, X) (cQ hi0 hl0 X (C + 25) (.int (-1000005)) T n R KO V ts tl (rfU F (-5))) := by
  obtain ⟨S, O, H, HR, FO, HV, HT, HF, HK, E0, EL0⟩ := id P
  obtain ⟨hT, hO, hV, hts, htl, hDB, hB0, hKO⟩ := id Z
  have jz := jr_eq T n (hl (107 + 2 * j + 1)) (V j).2.2.2 N 0 (bgZ (R 10)) (zrR R) (fun i hi2 => (HV j hj).2.2.2 i (by omega)) rfl rfl rfl
  refine lm_w_in (Nat.le_of_ble_eq_true rfl) ?_
  show lm_wp (d + 30) 111 0 [.ref 64, .int (nI j), .int (nI N), .int (nI w), lm_jk] [] (hi, hl, X) _
  refine w_N 1 1 [.ref 64, .int (nI j), .int (nI N), .int (nI w), lm_jk] [.int (nI j)] rfl ?_
  refine w_cc rfl (x_isShelf1 (wi_t (n := 7) (Nat.le_of_lt_succ hj) (by decide))) ?_
  show lm_wp _ 111 4 [.ref 64, .int (nI j), .int (nI N), .int (nI w), lm_jk] [.int 1] (hi, hl, X) _
  refine w_if_eq_f (t := 26) rfl rfl (by decide) ?_
  refine w_N 3 11 [.ref 64, .int (nI j), .int (nI N), .int (nI w), lm_jk] [.int 20, .int 0, .int (nI N)] rfl ?_
  refine w_cc rfl (x_within1 (wi_t (n := 20) hN (by decide))) ?_
  show lm_wp _ 111 14 [.ref 64, .int (nI j), .int (nI N), .int (nI w), lm_jk] [.int 1] (hi, hl, X) _
  refine w_if_eq_f (t := 26) rfl rfl (by decide) ?_
  refine w_N 3 20 [.ref 64, .int (nI j), .int (nI N), .int (nI w), lm_jk] [.int 2, .int 0, .int (nI w)] rfl ?_
  refine w_cc rfl (x_within1 (wi_t (n := 2) hw (by decide))) ?_
  show lm_wp _ 111 23 [.ref 64, .int (nI j), .int (nI N), .int (nI w), lm_jk] [.int 1] (hi, hl, X) _
  refine w_if_ne_t (t := 33) rfl rfl (by decide) ?_
  refine w_N 3 36 [.ref 64, .int (nI j), .int (nI N), .int (nI w), lm_jk] [.int (nI N), .int (nI j), .ref 64] rfl ?_
  refine w_cc (w_vst rfl rfl rfl (Nat.le_of_ble_eq_true rfl) (Nat.le_of_ble_eq_true rfl) (A_k S 64 (by decide))) (lm_c_v (x_lackRow P hj) h0) ?_
  show lm_wp _ 111 39 [.ref 64, .int (nI j), .int (nI N), .int (nI w), lm_jk] [.int 0] (hi, hl, X) _
  refine w_N 2 43 [.ref 64, .int (nI j), .int (nI N), .int (nI w), .int 0] [.int 0] rfl ?_
  refine w_if_eq_t (t := 53) rfl rfl (by decide) ?_
  refine w_N 1 54 [.ref 64, .int (nI j), .int (nI N), .int (nI w), .int 0] [.ref 64] rfl ?_
  refine w_gr 104 rfl rfl rfl (A_k S 64 (by decide)) (A_r S 64 8 (by decide)) ?_
  refine w_N 1 58 [.ref 64, .int (nI j), .int (nI N), .int (nI w), .int 0] [.ref 64, .ref 104] rfl ?_
  refine w_gr 97 rfl rfl rfl (A_k S 64 (by decide)) (A_r S 64 5 (by decide)) ?_
  refine w_N 1 62 [.ref 64, .int (nI j), .int (nI N), .int (nI w), .int 0] [.int (nI j), .ref 97, .ref 104] rfl ?_
  refine w_aa j (107 + 2 * j) rfl ⟨by rw [A_k S 97 (by decide)]; decide, by rw [A_k S 97 (by decide)]; decide⟩ (show X.2.2.1 97 = 8 from A_l S 97 (by decide)) rfl hj (by decide) (A_sv S hj) ?_
  refine w_N 1 64 [.ref 64, .int (nI j), .int (nI N), .int (nI w), .int 0] [.int (nI N), .ref (107 + 2 * j), .ref 104] rfl ?_
  refine w_ca (w_vst rfl rfl rfl (Nat.le_of_ble_eq_true rfl) (Nat.le_of_ble_eq_true rfl) (A_k S 104 (by decide))) (z_goByRow (d := d + 26) S (A_Sf S hj) hT (by omega) H HR.1) ?_
  rintro _ _ ⟨h5x, rfl, rfl, Z5, f5⟩
  rw [jz.1]
  have P := cP_fore P (fr_mono f5 (by decide)) (fok_fr f5 (by decide) FO)
  obtain ⟨S, O, H, HR, FO, HV, HT, HF, HK, E0, EL0⟩ := id P
  show lm_wp _ 111 67 [.ref 64, .int (nI j), .int (nI N), .int (nI w), .int 0] [.int ((jrR T n (V j).2.2.2 0 N (zrR R)).1)] (h5x, hl, X) _
  refine w_N 1 68 [.ref 64, .int (nI j), .int (nI N), .int (nI w), .int 0] [.int (-1), .int ((jrR T n (V j).2.2.2 0 N (zrR R)).1)] rfl ?_
  refine w_icmp_eq_f (t := 78) rfl rfl hj1 ?_
  refine w_N 2 74 [.ref 64, .int (nI j), .int (nI N), .int (nI w), .int 0] [.int (-5), .ref 64] rfl ?_
  refine w_ca (w_vst rfl rfl rfl (Nat.le_of_ble_eq_true rfl) (Nat.le_of_ble_eq_true rfl) (A_k S 64 (by decide))) (x_refuseGain P (by unfold isW; decide)) ?_
  rintro _ _ ⟨rfl, hi9, rfl, P9⟩
  show lm_wp _ 111 77 [.ref 64, .int (nI j), .int (nI N), .int (nI w), .int 0] [.int (-1000005)] (hi9, hl, X) _
  refine w_ri rfl rfl ?_
  exact cq_ P9 (by omega) hC
theorem y_told_s {d : Nat} {hi : Nat → Nat → Int32} {hl : Nat → Nat → Int64} {X : lm_X} {hi0 : Nat → Nat → Int32} {hl0 : Nat → Nat → Int64} {X0 : lm_X} {n ts : Nat} {T : lm_T} {R : Nat → Int32} {KO : ab_K} {V : ab_V} {tl F : Nat → Int32} (P : mP hi0 hl0 X0 hi hl X T n R KO V ts tl F) {B D : Nat} (Z : okZ B D T n R KO V ts tl) {j N w : Nat} (hj : j < 8) (hN : N ≤ 20) (hw : w ≤ 2) (hz : (V j).2.1 ≤ 40) (h0 : lkW (V j).1 (V j).2.1 (nI N) = 0) (hj1 : ¬ (jrR T n (V j).2.2.2 0 N (zrR R)).1 = -1) : lm_w (d + 30) 196 [.ref 123, .int (nI j), .int (nI N), .int (nI w)] (hi, hl, X) (mQ hi0 hl0 X0 (.int (-1000005)) T n R KO V ts tl (rfU F (-5))) := by
  obtain ⟨SR, O, H, HR, HV, HT, HF, HK, E0, EL0, EX0⟩ := id P
  have S := SR.1
  obtain ⟨hT, hO, hV, hts, htl, hDB, hB0, hKO⟩ := id Z
  refine lm_w_in (Nat.le_of_ble_eq_true rfl) ?_
  show lm_wp (d + 30) 196 0 [.ref 123, .int (nI j), .int (nI N), .int (nI w), lm_jk] [] (hi, hl, X) _
  refine w_N 4 6 [.ref 123, .int (nI j), .int (nI N), .int (nI w), lm_jk] [.long 2, .long 0, .long ((nI w).toInt64)] rfl ?_
  refine w_cc rfl (lm_c_1 (m_in (x := nI w) (lo := 0) (up := 2) rfl (by decide) (by decide)) (wi_t (n := 2) hw (by decide))) ?_
  show lm_wp _ 196 9 [.ref 123, .int (nI j), .int (nI N), .int (nI w), lm_jk] [.int 1] (hi, hl, X) _
  refine w_if_ne_t (t := 22) rfl rfl (by decide) ?_
  refine w_N 3 25 [.ref 123, .int (nI j), .int (nI N), .int (nI w), lm_jk] [.int (nI N), .int (nI j), .ref 123] rfl ?_
  refine w_cc (w_vst rfl rfl rfl (Nat.le_of_ble_eq_true rfl) (Nat.le_of_ble_eq_true rfl) (M_kd S)) (m_noTold_0 P hj hN hz h0) ?_
  show lm_wp _ 196 28 [.ref 123, .int (nI j), .int (nI N), .int (nI w), lm_jk] [.int 0] (hi, hl, X) _
  refine w_N 2 32 [.ref 123, .int (nI j), .int (nI N), .int (nI w), .int 0] [.int 0] rfl ?_
  refine w_if_eq_t (t := 41) rfl rfl (by decide) ?_
  refine w_N 3 44 [.ref 123, .int (nI j), .int (nI N), .int (nI w), .int 0] [.int (nI N), .int (nI j), .ref 123] rfl ?_
  refine w_ca (w_vst rfl rfl rfl (Nat.le_of_ble_eq_true rfl) (Nat.le_of_ble_eq_true rfl) (M_kd S)) (m_goThrough (d := d + 9) P Z hj hN) ?_
  rintro _ _ ⟨rfl, h5x, hl5, X5, rfl, P, S7, n23, R8⟩
  obtain ⟨SR, O, H, HR, HV, HT, HF, HK, E0, EL0, EX0⟩ := id P
  have S := SR.1
  show lm_wp _ 196 47 [.ref 123, .int (nI j), .int (nI N), .int (nI w), .int 0] [.int ((jrR T n (V j).2.2.2 0 N (zrR R)).1)] (h5x, hl5, X5) _
  refine w_N 1 48 [.ref 123, .int (nI j), .int (nI N), .int (nI w), .int 0] [.int (-1), .int ((jrR T n (V j).2.2.2 0 N (zrR R)).1)] rfl ?_
  refine w_icmp_eq_f (t := 61) rfl rfl hj1 ?_
  refine w_N 3 56 [.ref 123, .int (nI j), .int (nI N), .int (nI w), .int 0] [.int (-5), .ref 123, .int (-1000000)] rfl ?_
  refine w_ca (w_vst rfl rfl rfl (Nat.le_of_ble_eq_true rfl) (Nat.le_of_ble_eq_true rfl) (M_kd S)) (m_refuse P (by unfold isW; decide)) ?_
  rintro _ _ ⟨rfl, hi9, rfl, P9⟩
  show lm_wp _ 196 59 [.ref 123, .int (nI j), .int (nI N), .int (nI w), .int 0] [.int (-5), .int (-1000000)] (hi9, hl5, X5) _
  refine w_N 1 60 [.ref 123, .int (nI j), .int (nI N), .int (nI w), .int 0] [.int (-1000005)] rfl ?_
  refine w_ri rfl rfl ?_
  exact mq_ P9
theorem x_told0 {d : Nat} {hi : Nat → Nat → Int32} {hl : Nat → Nat → Int64} {X : lm_X} {hi0 : Nat → Nat → Int32} {hl0 : Nat → Nat → Int64} {C n ts : Nat} {T : lm_T} {R : Nat → Int32} {KO : ab_K} {V : ab_V} {tl F : Nat → Int32} (P : cP hi0 hl0 hi hl X C T n R KO V ts tl F) {B D : Nat} (Z : okZ B D T n R KO V ts tl) {j N : Nat} (hj : j < 8) (hN : N ≤ 20) (hz : (V j).2.1 ≤ 40) (h0 : lkW (V j).1 (V j).2.1 (nI N) = 0) (hj1 : (jrR T n (V j).2.2.2 0 N (zrR R)).1 = -1) (hC : C + 25 < 2147483648) : lm_w (d + 30) 111 [.ref 64, .int (nI j), .int (nI N), .int 0] (hi, hl, X) (cQ hi0 hl0 X (C + 25) (.int ((jrR T n (V j).2.2.2 0 N (zrR R)).2 20)) T n R KO V ts tl F) := by
  obtain ⟨S, O, H, HR, FO, HV, HT, HF, HK, E0, EL0⟩ := id P
  obtain ⟨hT, hO, hV, hts, htl, hDB, hB0, hKO⟩ := id Z
  have jz := jr_eq T n (hl (107 + 2 * j + 1)) (V j).2.2.2 N 0 (bgZ (R 10)) (zrR R) (fun i hi2 => (HV j hj).2.2.2 i (by omega)) rfl rfl rfl
  refine lm_w_in (Nat.le_of_ble_eq_true rfl) ?_
  show lm_wp (d + 30) 111 0 [.ref 64, .int (nI j), .int (nI N), .int 0, lm_jk] [] (hi, hl, X) _
  refine w_N 1 1 [.ref 64, .int (nI j), .int (nI N), .int 0, lm_jk] [.int (nI j)] rfl ?_
  refine w_cc rfl (x_isShelf1 (wi_t (n := 7) (Nat.le_of_lt_succ hj) (by decide))) ?_
  show lm_wp _ 111 4 [.ref 64, .int (nI j), .int (nI N), .int 0, lm_jk] [.int 1] (hi, hl, X) _
  refine w_if_eq_f (t := 26) rfl rfl (by decide) ?_
  refine w_N 3 11 [.ref 64, .int (nI j), .int (nI N), .int 0, lm_jk] [.int 20, .int 0, .int (nI N)] rfl ?_
  refine w_cc rfl (x_within1 (wi_t (n := 20) hN (by decide))) ?_
  show lm_wp _ 111 14 [.ref 64, .int (nI j), .int (nI N), .int 0, lm_jk] [.int 1] (hi, hl, X) _
  refine w_if_eq_f (t := 26) rfl rfl (by decide) ?_
  refine w_N 3 20 [.ref 64, .int (nI j), .int (nI N), .int 0, lm_jk] [.int 2, .int 0, .int 0] rfl ?_
  refine w_cc rfl (x_within1 (by decide)) ?_
  show lm_wp _ 111 23 [.ref 64, .int (nI j), .int (nI N), .int 0, lm_jk] [.int 1] (hi, hl, X) _
  refine w_if_ne_t (t := 33) rfl rfl (by decide) ?_
  refine w_N 3 36 [.ref 64, .int (nI j), .int (nI N), .int 0, lm_jk] [.int (nI N), .int (nI j), .ref 64] rfl ?_
  refine w_cc (w_vst rfl rfl rfl (Nat.le_of_ble_eq_true rfl) (Nat.le_of_ble_eq_true rfl) (A_k S 64 (by decide))) (lm_c_v (x_lackRow P hj) h0) ?_
  show lm_wp _ 111 39 [.ref 64, .int (nI j), .int (nI N), .int 0, lm_jk] [.int 0] (hi, hl, X) _
  refine w_N 2 43 [.ref 64, .int (nI j), .int (nI N), .int 0, .int 0] [.int 0] rfl ?_
  refine w_if_eq_t (t := 53) rfl rfl (by decide) ?_
  refine w_N 1 54 [.ref 64, .int (nI j), .int (nI N), .int 0, .int 0] [.ref 64] rfl ?_
  refine w_gr 104 rfl rfl rfl (A_k S 64 (by decide)) (A_r S 64 8 (by decide)) ?_
  refine w_N 1 58 [.ref 64, .int (nI j), .int (nI N), .int 0, .int 0] [.ref 64, .ref 104] rfl ?_
  refine w_gr 97 rfl rfl rfl (A_k S 64 (by decide)) (A_r S 64 5 (by decide)) ?_
  refine w_N 1 62 [.ref 64, .int (nI j), .int (nI N), .int 0, .int 0] [.int (nI j), .ref 97, .ref 104] rfl ?_
  refine w_aa j (107 + 2 * j) rfl ⟨by rw [A_k S 97 (by decide)]; decide, by rw [A_k S 97 (by decide)]; decide⟩ (show X.2.2.1 97 = 8 from A_l S 97 (by decide)) rfl hj (by decide) (A_sv S hj) ?_
  refine w_N 1 64 [.ref 64, .int (nI j), .int (nI N), .int 0, .int 0] [.int (nI N), .ref (107 + 2 * j), .ref 104] rfl ?_
  refine w_ca (w_vst rfl rfl rfl (Nat.le_of_ble_eq_true rfl) (Nat.le_of_ble_eq_true rfl) (A_k S 104 (by decide))) (z_goByRow (d := d + 26) S (A_Sf S hj) hT (by omega) H HR.1) ?_
  rintro _ _ ⟨h5x, rfl, rfl, Z5, f5⟩
  rw [jz.1]
  have P := cP_fore P (fr_mono f5 (by decide)) (fok_fr f5 (by decide) FO)
  obtain ⟨S, O, H, HR, FO, HV, HT, HF, HK, E0, EL0⟩ := id P
  show lm_wp _ 111 67 [.ref 64, .int (nI j), .int (nI N), .int 0, .int 0] [.int ((jrR T n (V j).2.2.2 0 N (zrR R)).1)] (h5x, hl, X) _
  refine w_N 1 68 [.ref 64, .int (nI j), .int (nI N), .int 0, .int 0] [.int (-1), .int ((jrR T n (V j).2.2.2 0 N (zrR R)).1)] rfl ?_
  refine w_icmp_eq_t (t := 78) rfl rfl hj1 ?_
  refine w_N 2 80 [.ref 64, .int (nI j), .int (nI N), .int 0, .int 0] [.int 2, .int 0] rfl ?_
  refine w_icmp_ge_f (t := 95) rfl rfl (by decide) ?_
  refine w_N 1 84 [.ref 64, .int (nI j), .int (nI N), .int 0, .int 0] [.ref 64] rfl ?_
  refine w_gr 104 rfl rfl rfl (A_k S 64 (by decide)) (A_r S 64 8 (by decide)) ?_
  refine w_gr 105 rfl rfl rfl (A_k S 104 (by decide)) (A_r S 104 2 (by decide)) ?_
  refine w_N 1 91 [.ref 64, .int (nI j), .int (nI N), .int 0, .int 0] [.int 0, .ref 105] rfl ?_
  refine w_ia 0 (v := (jrZ T n (hl (107 + 2 * j + 1)) 0 N (bgZ (R 10))).2 1) rfl (A_k S 105 (by decide)) (show X.2.2.1 105 = 2 from A_l S 105 (by decide)) rfl (by decide) (by decide) (Z5.2.1) ?_
  refine w_N 1 105 [.ref 64, .int (nI j), .int (nI N), .int 0, .int 0] [.int ((jrZ T n (hl (107 + 2 * j + 1)) 0 N (bgZ (R 10))).2 1)] rfl ?_
  refine w_ri rfl rfl ?_
  rw [← jz.2.2.1]
  exact cq_ P (by omega) hC
theorem y_told0 {d : Nat} {hi : Nat → Nat → Int32} {hl : Nat → Nat → Int64} {X : lm_X} {hi0 : Nat → Nat → Int32} {hl0 : Nat → Nat → Int64} {X0 : lm_X} {n ts : Nat} {T : lm_T} {R : Nat → Int32} {KO : ab_K} {V : ab_V} {tl F : Nat → Int32} (P : mP hi0 hl0 X0 hi hl X T n R KO V ts tl F) {B D : Nat} (Z : okZ B D T n R KO V ts tl) {j N : Nat} (hj : j < 8) (hN : N ≤ 20) (hz : (V j).2.1 ≤ 40) (h0 : lkW (V j).1 (V j).2.1 (nI N) = 0) (hj1 : (jrR T n (V j).2.2.2 0 N (zrR R)).1 = -1) : lm_w (d + 30) 196 [.ref 123, .int (nI j), .int (nI N), .int 0] (hi, hl, X) (mQ hi0 hl0 X0 (.int ((jrR T n (V j).2.2.2 0 N (zrR R)).2 20)) T n R KO V ts tl F) := by
  obtain ⟨SR, O, H, HR, HV, HT, HF, HK, E0, EL0, EX0⟩ := id P
  have S := SR.1
  obtain ⟨hT, hO, hV, hts, htl, hDB, hB0, hKO⟩ := id Z
  refine lm_w_in (Nat.le_of_ble_eq_true rfl) ?_
  show lm_wp (d + 30) 196 0 [.ref 123, .int (nI j), .int (nI N), .int 0, lm_jk] [] (hi, hl, X) _
  refine w_N 4 6 [.ref 123, .int (nI j), .int (nI N), .int 0, lm_jk] [.long 2, .long 0, .long 0] rfl ?_
  refine w_cc rfl (lm_c_1 (m_in (x := 0) (lo := 0) (up := 2) (by decide) (by decide) (by decide)) (by decide)) ?_
  show lm_wp _ 196 9 [.ref 123, .int (nI j), .int (nI N), .int 0, lm_jk] [.int 1] (hi, hl, X) _
  refine w_if_ne_t (t := 22) rfl rfl (by decide) ?_
  refine w_N 3 25 [.ref 123, .int (nI j), .int (nI N), .int 0, lm_jk] [.int (nI N), .int (nI j), .ref 123] rfl ?_
  refine w_cc (w_vst rfl rfl rfl (Nat.le_of_ble_eq_true rfl) (Nat.le_of_ble_eq_true rfl) (M_kd S)) (m_noTold_0 P hj hN hz h0) ?_
  show lm_wp _ 196 28 [.ref 123, .int (nI j), .int (nI N), .int 0, lm_jk] [.int 0] (hi, hl, X) _
  refine w_N 2 32 [.ref 123, .int (nI j), .int (nI N), .int 0, .int 0] [.int 0] rfl ?_
  refine w_if_eq_t (t := 41) rfl rfl (by decide) ?_
  refine w_N 3 44 [.ref 123, .int (nI j), .int (nI N), .int 0, .int 0] [.int (nI N), .int (nI j), .ref 123] rfl ?_
  refine w_ca (w_vst rfl rfl rfl (Nat.le_of_ble_eq_true rfl) (Nat.le_of_ble_eq_true rfl) (M_kd S)) (m_goThrough (d := d + 9) P Z hj hN) ?_
  rintro _ _ ⟨rfl, h5x, hl5, X5, rfl, P, S7, n23, R8⟩
  obtain ⟨SR, O, H, HR, HV, HT, HF, HK, E0, EL0, EX0⟩ := id P
  have S := SR.1
  show lm_wp _ 196 47 [.ref 123, .int (nI j), .int (nI N), .int 0, .int 0] [.int ((jrR T n (V j).2.2.2 0 N (zrR R)).1)] (h5x, hl5, X5) _
  refine w_N 1 48 [.ref 123, .int (nI j), .int (nI N), .int 0, .int 0] [.int (-1), .int ((jrR T n (V j).2.2.2 0 N (zrR R)).1)] rfl ?_
  refine w_icmp_eq_t (t := 61) rfl rfl hj1 ?_
  refine w_N 2 63 [.ref 123, .int (nI j), .int (nI N), .int 0, .int 0] [.int 2, .int 0] rfl ?_
  refine w_icmp_ne_t (t := 76) rfl rfl (by decide) ?_
  refine w_N 1 77 [.ref 123, .int (nI j), .int (nI N), .int 0, .int 0] [.ref 123] rfl ?_
  refine w_gr 700 rfl rfl rfl (M_kd S) n23 ?_
  refine w_gr 733 rfl rfl rfl (M_kd S7) (M_r S7 (k := 17) (o := 33) rfl) ?_
  refine w_N 1 84 [.ref 123, .int (nI j), .int (nI N), .int 0, .int 0] [.int 0, .ref 733] rfl ?_
  refine w_ia 0 (v := (jrR T n (V j).2.2.2 0 N (zrR R)).2 20) rfl (show X5.2.1 (733) = 1 from M_k S7 33 (by decide)) (show X5.2.2.1 (733) = 2 from M_l S7 33 (by decide)) rfl (by decide) (by decide) (R8.2.2.2.2.2.2.1) ?_
  refine w_ri rfl rfl ?_
  exact mq_ P
theorem x_told1 {d : Nat} {hi : Nat → Nat → Int32} {hl : Nat → Nat → Int64} {X : lm_X} {hi0 : Nat → Nat → Int32} {hl0 : Nat → Nat → Int64} {C n ts : Nat} {T : lm_T} {R : Nat → Int32} {KO : ab_K} {V : ab_V} {tl F : Nat → Int32} (P : cP hi0 hl0 hi hl X C T n R KO V ts tl F) {B D : Nat} (Z : okZ B D T n R KO V ts tl) {j N : Nat} (hj : j < 8) (hN : N ≤ 20) (hz : (V j).2.1 ≤ 40) (h0 : lkW (V j).1 (V j).2.1 (nI N) = 0) (hj1 : (jrR T n (V j).2.2.2 0 N (zrR R)).1 = -1) (hC : C + 25 < 2147483648) : lm_w (d + 30) 111 [.ref 64, .int (nI j), .int (nI N), .int 1] (hi, hl, X) (cQ hi0 hl0 X (C + 25) (.int ((jrR T n (V j).2.2.2 0 N (zrR R)).2 21)) T n R KO V ts tl F) := by
  obtain ⟨S, O, H, HR, FO, HV, HT, HF, HK, E0, EL0⟩ := id P
  obtain ⟨hT, hO, hV, hts, htl, hDB, hB0, hKO⟩ := id Z
  have jz := jr_eq T n (hl (107 + 2 * j + 1)) (V j).2.2.2 N 0 (bgZ (R 10)) (zrR R) (fun i hi2 => (HV j hj).2.2.2 i (by omega)) rfl rfl rfl
  refine lm_w_in (Nat.le_of_ble_eq_true rfl) ?_
  show lm_wp (d + 30) 111 0 [.ref 64, .int (nI j), .int (nI N), .int 1, lm_jk] [] (hi, hl, X) _
  refine w_N 1 1 [.ref 64, .int (nI j), .int (nI N), .int 1, lm_jk] [.int (nI j)] rfl ?_
  refine w_cc rfl (x_isShelf1 (wi_t (n := 7) (Nat.le_of_lt_succ hj) (by decide))) ?_
  show lm_wp _ 111 4 [.ref 64, .int (nI j), .int (nI N), .int 1, lm_jk] [.int 1] (hi, hl, X) _
  refine w_if_eq_f (t := 26) rfl rfl (by decide) ?_
  refine w_N 3 11 [.ref 64, .int (nI j), .int (nI N), .int 1, lm_jk] [.int 20, .int 0, .int (nI N)] rfl ?_
  refine w_cc rfl (x_within1 (wi_t (n := 20) hN (by decide))) ?_
  show lm_wp _ 111 14 [.ref 64, .int (nI j), .int (nI N), .int 1, lm_jk] [.int 1] (hi, hl, X) _
  refine w_if_eq_f (t := 26) rfl rfl (by decide) ?_
  refine w_N 3 20 [.ref 64, .int (nI j), .int (nI N), .int 1, lm_jk] [.int 2, .int 0, .int 1] rfl ?_
  refine w_cc rfl (x_within1 (by decide)) ?_
  show lm_wp _ 111 23 [.ref 64, .int (nI j), .int (nI N), .int 1, lm_jk] [.int 1] (hi, hl, X) _
  refine w_if_ne_t (t := 33) rfl rfl (by decide) ?_
  refine w_N 3 36 [.ref 64, .int (nI j), .int (nI N), .int 1, lm_jk] [.int (nI N), .int (nI j), .ref 64] rfl ?_
  refine w_cc (w_vst rfl rfl rfl (Nat.le_of_ble_eq_true rfl) (Nat.le_of_ble_eq_true rfl) (A_k S 64 (by decide))) (lm_c_v (x_lackRow P hj) h0) ?_
  show lm_wp _ 111 39 [.ref 64, .int (nI j), .int (nI N), .int 1, lm_jk] [.int 0] (hi, hl, X) _
  refine w_N 2 43 [.ref 64, .int (nI j), .int (nI N), .int 1, .int 0] [.int 0] rfl ?_
  refine w_if_eq_t (t := 53) rfl rfl (by decide) ?_
  refine w_N 1 54 [.ref 64, .int (nI j), .int (nI N), .int 1, .int 0] [.ref 64] rfl ?_
  refine w_gr 104 rfl rfl rfl (A_k S 64 (by decide)) (A_r S 64 8 (by decide)) ?_
  refine w_N 1 58 [.ref 64, .int (nI j), .int (nI N), .int 1, .int 0] [.ref 64, .ref 104] rfl ?_
  refine w_gr 97 rfl rfl rfl (A_k S 64 (by decide)) (A_r S 64 5 (by decide)) ?_
  refine w_N 1 62 [.ref 64, .int (nI j), .int (nI N), .int 1, .int 0] [.int (nI j), .ref 97, .ref 104] rfl ?_
  refine w_aa j (107 + 2 * j) rfl ⟨by rw [A_k S 97 (by decide)]; decide, by rw [A_k S 97 (by decide)]; decide⟩ (show X.2.2.1 97 = 8 from A_l S 97 (by decide)) rfl hj (by decide) (A_sv S hj) ?_
  refine w_N 1 64 [.ref 64, .int (nI j), .int (nI N), .int 1, .int 0] [.int (nI N), .ref (107 + 2 * j), .ref 104] rfl ?_
  refine w_ca (w_vst rfl rfl rfl (Nat.le_of_ble_eq_true rfl) (Nat.le_of_ble_eq_true rfl) (A_k S 104 (by decide))) (z_goByRow (d := d + 26) S (A_Sf S hj) hT (by omega) H HR.1) ?_
  rintro _ _ ⟨h5x, rfl, rfl, Z5, f5⟩
  rw [jz.1]
  have P := cP_fore P (fr_mono f5 (by decide)) (fok_fr f5 (by decide) FO)
  obtain ⟨S, O, H, HR, FO, HV, HT, HF, HK, E0, EL0⟩ := id P
  show lm_wp _ 111 67 [.ref 64, .int (nI j), .int (nI N), .int 1, .int 0] [.int ((jrR T n (V j).2.2.2 0 N (zrR R)).1)] (h5x, hl, X) _
  refine w_N 1 68 [.ref 64, .int (nI j), .int (nI N), .int 1, .int 0] [.int (-1), .int ((jrR T n (V j).2.2.2 0 N (zrR R)).1)] rfl ?_
  refine w_icmp_eq_t (t := 78) rfl rfl hj1 ?_
  refine w_N 2 80 [.ref 64, .int (nI j), .int (nI N), .int 1, .int 0] [.int 2, .int 1] rfl ?_
  refine w_icmp_ge_f (t := 95) rfl rfl (by decide) ?_
  refine w_N 1 84 [.ref 64, .int (nI j), .int (nI N), .int 1, .int 0] [.ref 64] rfl ?_
  refine w_gr 104 rfl rfl rfl (A_k S 64 (by decide)) (A_r S 64 8 (by decide)) ?_
  refine w_gr 105 rfl rfl rfl (A_k S 104 (by decide)) (A_r S 104 2 (by decide)) ?_
  refine w_N 1 91 [.ref 64, .int (nI j), .int (nI N), .int 1, .int 0] [.int 1, .ref 105] rfl ?_
  refine w_ia 1 (v := (jrZ T n (hl (107 + 2 * j + 1)) 0 N (bgZ (R 10))).2 2) rfl (A_k S 105 (by decide)) (show X.2.2.1 105 = 2 from A_l S 105 (by decide)) rfl (by decide) (by decide) (Z5.2.2.1) ?_
  refine w_N 1 105 [.ref 64, .int (nI j), .int (nI N), .int 1, .int 0] [.int ((jrZ T n (hl (107 + 2 * j + 1)) 0 N (bgZ (R 10))).2 2)] rfl ?_
  refine w_ri rfl rfl ?_
  rw [← jz.2.2.2]
  exact cq_ P (by omega) hC
theorem y_told1 {d : Nat} {hi : Nat → Nat → Int32} {hl : Nat → Nat → Int64} {X : lm_X} {hi0 : Nat → Nat → Int32} {hl0 : Nat → Nat → Int64} {X0 : lm_X} {n ts : Nat} {T : lm_T} {R : Nat → Int32} {KO : ab_K} {V : ab_V} {tl F : Nat → Int32} (P : mP hi0 hl0 X0 hi hl X T n R KO V ts tl F) {B D : Nat} (Z : okZ B D T n R KO V ts tl) {j N : Nat} (hj : j < 8) (hN : N ≤ 20) (hz : (V j).2.1 ≤ 40) (h0 : lkW (V j).1 (V j).2.1 (nI N) = 0) (hj1 : (jrR T n (V j).2.2.2 0 N (zrR R)).1 = -1) : lm_w (d + 30) 196 [.ref 123, .int (nI j), .int (nI N), .int 1] (hi, hl, X) (mQ hi0 hl0 X0 (.int ((jrR T n (V j).2.2.2 0 N (zrR R)).2 21)) T n R KO V ts tl F) := by
  obtain ⟨SR, O, H, HR, HV, HT, HF, HK, E0, EL0, EX0⟩ := id P
  have S := SR.1
  obtain ⟨hT, hO, hV, hts, htl, hDB, hB0, hKO⟩ := id Z
  refine lm_w_in (Nat.le_of_ble_eq_true rfl) ?_
  show lm_wp (d + 30) 196 0 [.ref 123, .int (nI j), .int (nI N), .int 1, lm_jk] [] (hi, hl, X) _
  refine w_N 4 6 [.ref 123, .int (nI j), .int (nI N), .int 1, lm_jk] [.long 2, .long 0, .long 1] rfl ?_
  refine w_cc rfl (lm_c_1 (m_in (x := 1) (lo := 0) (up := 2) (by decide) (by decide) (by decide)) (by decide)) ?_
  show lm_wp _ 196 9 [.ref 123, .int (nI j), .int (nI N), .int 1, lm_jk] [.int 1] (hi, hl, X) _
  refine w_if_ne_t (t := 22) rfl rfl (by decide) ?_
  refine w_N 3 25 [.ref 123, .int (nI j), .int (nI N), .int 1, lm_jk] [.int (nI N), .int (nI j), .ref 123] rfl ?_
  refine w_cc (w_vst rfl rfl rfl (Nat.le_of_ble_eq_true rfl) (Nat.le_of_ble_eq_true rfl) (M_kd S)) (m_noTold_0 P hj hN hz h0) ?_
  show lm_wp _ 196 28 [.ref 123, .int (nI j), .int (nI N), .int 1, lm_jk] [.int 0] (hi, hl, X) _
  refine w_N 2 32 [.ref 123, .int (nI j), .int (nI N), .int 1, .int 0] [.int 0] rfl ?_
  refine w_if_eq_t (t := 41) rfl rfl (by decide) ?_
  refine w_N 3 44 [.ref 123, .int (nI j), .int (nI N), .int 1, .int 0] [.int (nI N), .int (nI j), .ref 123] rfl ?_
  refine w_ca (w_vst rfl rfl rfl (Nat.le_of_ble_eq_true rfl) (Nat.le_of_ble_eq_true rfl) (M_kd S)) (m_goThrough (d := d + 9) P Z hj hN) ?_
  rintro _ _ ⟨rfl, h5x, hl5, X5, rfl, P, S7, n23, R8⟩
  obtain ⟨SR, O, H, HR, HV, HT, HF, HK, E0, EL0, EX0⟩ := id P
  have S := SR.1
  show lm_wp _ 196 47 [.ref 123, .int (nI j), .int (nI N), .int 1, .int 0] [.int ((jrR T n (V j).2.2.2 0 N (zrR R)).1)] (h5x, hl5, X5) _
  refine w_N 1 48 [.ref 123, .int (nI j), .int (nI N), .int 1, .int 0] [.int (-1), .int ((jrR T n (V j).2.2.2 0 N (zrR R)).1)] rfl ?_
  refine w_icmp_eq_t (t := 61) rfl rfl hj1 ?_
  refine w_N 2 63 [.ref 123, .int (nI j), .int (nI N), .int 1, .int 0] [.int 2, .int 1] rfl ?_
  refine w_icmp_ne_t (t := 76) rfl rfl (by decide) ?_
  refine w_N 1 77 [.ref 123, .int (nI j), .int (nI N), .int 1, .int 0] [.ref 123] rfl ?_
  refine w_gr 700 rfl rfl rfl (M_kd S) n23 ?_
  refine w_gr 733 rfl rfl rfl (M_kd S7) (M_r S7 (k := 17) (o := 33) rfl) ?_
  refine w_N 1 84 [.ref 123, .int (nI j), .int (nI N), .int 1, .int 0] [.int 1, .ref 733] rfl ?_
  refine w_ia 1 (v := (jrR T n (V j).2.2.2 0 N (zrR R)).2 21) rfl (show X5.2.1 (733) = 1 from M_k S7 33 (by decide)) (show X5.2.2.1 (733) = 2 from M_l S7 33 (by decide)) rfl (by decide) (by decide) (R8.2.2.2.2.2.2.2) ?_
  refine w_ri rfl rfl ?_
  exact mq_ P
theorem x_told2 {d : Nat} {hi : Nat → Nat → Int32} {hl : Nat → Nat → Int64} {X : lm_X} {hi0 : Nat → Nat → Int32} {hl0 : Nat → Nat → Int64} {C n ts : Nat} {T : lm_T} {R : Nat → Int32} {KO : ab_K} {V : ab_V} {tl F : Nat → Int32} (P : cP hi0 hl0 hi hl X C T n R KO V ts tl F) {B D : Nat} (Z : okZ B D T n R KO V ts tl) {j N : Nat} (hj : j < 8) (hN : N ≤ 20) (hz : (V j).2.1 ≤ 40) (h0 : lkW (V j).1 (V j).2.1 (nI N) = 0) (hj1 : (jrR T n (V j).2.2.2 0 N (zrR R)).1 = -1) (hC : C + 25 < 2147483648) : lm_w (d + 30) 111 [.ref 64, .int (nI j), .int (nI N), .int 2] (hi, hl, X) (cQ hi0 hl0 X (C + 25) (.int (s_marks ((jrR T n (V j).2.2.2 0 N (zrR R)).2 10))) T n R KO V ts tl F) := by
  obtain ⟨S, O, H, HR, FO, HV, HT, HF, HK, E0, EL0⟩ := id P
  obtain ⟨hT, hO, hV, hts, htl, hDB, hB0, hKO⟩ := id Z
  have jz := jr_eq T n (hl (107 + 2 * j + 1)) (V j).2.2.2 N 0 (bgZ (R 10)) (zrR R) (fun i hi2 => (HV j hj).2.2.2 i (by omega)) rfl rfl rfl
  refine lm_w_in (Nat.le_of_ble_eq_true rfl) ?_
  show lm_wp (d + 30) 111 0 [.ref 64, .int (nI j), .int (nI N), .int 2, lm_jk] [] (hi, hl, X) _
  refine w_N 1 1 [.ref 64, .int (nI j), .int (nI N), .int 2, lm_jk] [.int (nI j)] rfl ?_
  refine w_cc rfl (x_isShelf1 (wi_t (n := 7) (Nat.le_of_lt_succ hj) (by decide))) ?_
  show lm_wp _ 111 4 [.ref 64, .int (nI j), .int (nI N), .int 2, lm_jk] [.int 1] (hi, hl, X) _
  refine w_if_eq_f (t := 26) rfl rfl (by decide) ?_
  refine w_N 3 11 [.ref 64, .int (nI j), .int (nI N), .int 2, lm_jk] [.int 20, .int 0, .int (nI N)] rfl ?_
  refine w_cc rfl (x_within1 (wi_t (n := 20) hN (by decide))) ?_
  show lm_wp _ 111 14 [.ref 64, .int (nI j), .int (nI N), .int 2, lm_jk] [.int 1] (hi, hl, X) _
  refine w_if_eq_f (t := 26) rfl rfl (by decide) ?_
  refine w_N 3 20 [.ref 64, .int (nI j), .int (nI N), .int 2, lm_jk] [.int 2, .int 0, .int 2] rfl ?_
  refine w_cc rfl (x_within1 (by decide)) ?_
  show lm_wp _ 111 23 [.ref 64, .int (nI j), .int (nI N), .int 2, lm_jk] [.int 1] (hi, hl, X) _
  refine w_if_ne_t (t := 33) rfl rfl (by decide) ?_
  refine w_N 3 36 [.ref 64, .int (nI j), .int (nI N), .int 2, lm_jk] [.int (nI N), .int (nI j), .ref 64] rfl ?_
  refine w_cc (w_vst rfl rfl rfl (Nat.le_of_ble_eq_true rfl) (Nat.le_of_ble_eq_true rfl) (A_k S 64 (by decide))) (lm_c_v (x_lackRow P hj) h0) ?_
  show lm_wp _ 111 39 [.ref 64, .int (nI j), .int (nI N), .int 2, lm_jk] [.int 0] (hi, hl, X) _
  refine w_N 2 43 [.ref 64, .int (nI j), .int (nI N), .int 2, .int 0] [.int 0] rfl ?_
  refine w_if_eq_t (t := 53) rfl rfl (by decide) ?_
  refine w_N 1 54 [.ref 64, .int (nI j), .int (nI N), .int 2, .int 0] [.ref 64] rfl ?_
  refine w_gr 104 rfl rfl rfl (A_k S 64 (by decide)) (A_r S 64 8 (by decide)) ?_
  refine w_N 1 58 [.ref 64, .int (nI j), .int (nI N), .int 2, .int 0] [.ref 64, .ref 104] rfl ?_
  refine w_gr 97 rfl rfl rfl (A_k S 64 (by decide)) (A_r S 64 5 (by decide)) ?_
  refine w_N 1 62 [.ref 64, .int (nI j), .int (nI N), .int 2, .int 0] [.int (nI j), .ref 97, .ref 104] rfl ?_
  refine w_aa j (107 + 2 * j) rfl ⟨by rw [A_k S 97 (by decide)]; decide, by rw [A_k S 97 (by decide)]; decide⟩ (show X.2.2.1 97 = 8 from A_l S 97 (by decide)) rfl hj (by decide) (A_sv S hj) ?_
  refine w_N 1 64 [.ref 64, .int (nI j), .int (nI N), .int 2, .int 0] [.int (nI N), .ref (107 + 2 * j), .ref 104] rfl ?_
  refine w_ca (w_vst rfl rfl rfl (Nat.le_of_ble_eq_true rfl) (Nat.le_of_ble_eq_true rfl) (A_k S 104 (by decide))) (z_goByRow (d := d + 26) S (A_Sf S hj) hT (by omega) H HR.1) ?_
  rintro _ _ ⟨h5x, rfl, rfl, Z5, f5⟩
  rw [jz.1]
  have P := cP_fore P (fr_mono f5 (by decide)) (fok_fr f5 (by decide) FO)
  obtain ⟨S, O, H, HR, FO, HV, HT, HF, HK, E0, EL0⟩ := id P
  show lm_wp _ 111 67 [.ref 64, .int (nI j), .int (nI N), .int 2, .int 0] [.int ((jrR T n (V j).2.2.2 0 N (zrR R)).1)] (h5x, hl, X) _
  refine w_N 1 68 [.ref 64, .int (nI j), .int (nI N), .int 2, .int 0] [.int (-1), .int ((jrR T n (V j).2.2.2 0 N (zrR R)).1)] rfl ?_
  refine w_icmp_eq_t (t := 78) rfl rfl hj1 ?_
  refine w_N 2 80 [.ref 64, .int (nI j), .int (nI N), .int 2, .int 0] [.int 2, .int 2] rfl ?_
  refine w_icmp_ge_t (t := 95) rfl rfl (by decide) ?_
  refine w_N 1 96 [.ref 64, .int (nI j), .int (nI N), .int 2, .int 0] [.ref 64] rfl ?_
  refine w_gr 104 rfl rfl rfl (A_k S 64 (by decide)) (A_r S 64 8 (by decide)) ?_
  refine w_gi (v := (jrZ T n (hl (107 + 2 * j + 1)) 0 N (bgZ (R 10))).2 0) rfl rfl rfl (A_k S 104 (by decide)) (Z5.1) ?_
  refine w_cc rfl c_X4_marksIn ?_
  show lm_wp _ 111 105 [.ref 64, .int (nI j), .int (nI N), .int 2, .int 0] [.int (s_marks ((jrZ T n (hl (107 + 2 * j + 1)) 0 N (bgZ (R 10))).2 0))] (h5x, hl, X) _
  refine w_ri rfl rfl ?_
  rw [← jz.2.1]
  exact cq_ P (by omega) hC
theorem y_told2 {d : Nat} {hi : Nat → Nat → Int32} {hl : Nat → Nat → Int64} {X : lm_X} {hi0 : Nat → Nat → Int32} {hl0 : Nat → Nat → Int64} {X0 : lm_X} {n ts : Nat} {T : lm_T} {R : Nat → Int32} {KO : ab_K} {V : ab_V} {tl F : Nat → Int32} (P : mP hi0 hl0 X0 hi hl X T n R KO V ts tl F) {B D : Nat} (Z : okZ B D T n R KO V ts tl) {j N : Nat} (hj : j < 8) (hN : N ≤ 20) (hz : (V j).2.1 ≤ 40) (h0 : lkW (V j).1 (V j).2.1 (nI N) = 0) (hj1 : (jrR T n (V j).2.2.2 0 N (zrR R)).1 = -1) : lm_w (d + 30) 196 [.ref 123, .int (nI j), .int (nI N), .int 2] (hi, hl, X) (mQ hi0 hl0 X0 (.int (s_marks ((jrR T n (V j).2.2.2 0 N (zrR R)).2 10))) T n R KO V ts tl F) := by
  obtain ⟨SR, O, H, HR, HV, HT, HF, HK, E0, EL0, EX0⟩ := id P
  have S := SR.1
  obtain ⟨hT, hO, hV, hts, htl, hDB, hB0, hKO⟩ := id Z
  refine lm_w_in (Nat.le_of_ble_eq_true rfl) ?_
  show lm_wp (d + 30) 196 0 [.ref 123, .int (nI j), .int (nI N), .int 2, lm_jk] [] (hi, hl, X) _
  refine w_N 4 6 [.ref 123, .int (nI j), .int (nI N), .int 2, lm_jk] [.long 2, .long 0, .long 2] rfl ?_
  refine w_cc rfl (lm_c_1 (m_in (x := 2) (lo := 0) (up := 2) (by decide) (by decide) (by decide)) (by decide)) ?_
  show lm_wp _ 196 9 [.ref 123, .int (nI j), .int (nI N), .int 2, lm_jk] [.int 1] (hi, hl, X) _
  refine w_if_ne_t (t := 22) rfl rfl (by decide) ?_
  refine w_N 3 25 [.ref 123, .int (nI j), .int (nI N), .int 2, lm_jk] [.int (nI N), .int (nI j), .ref 123] rfl ?_
  refine w_cc (w_vst rfl rfl rfl (Nat.le_of_ble_eq_true rfl) (Nat.le_of_ble_eq_true rfl) (M_kd S)) (m_noTold_0 P hj hN hz h0) ?_
  show lm_wp _ 196 28 [.ref 123, .int (nI j), .int (nI N), .int 2, lm_jk] [.int 0] (hi, hl, X) _
  refine w_N 2 32 [.ref 123, .int (nI j), .int (nI N), .int 2, .int 0] [.int 0] rfl ?_
  refine w_if_eq_t (t := 41) rfl rfl (by decide) ?_
  refine w_N 3 44 [.ref 123, .int (nI j), .int (nI N), .int 2, .int 0] [.int (nI N), .int (nI j), .ref 123] rfl ?_
  refine w_ca (w_vst rfl rfl rfl (Nat.le_of_ble_eq_true rfl) (Nat.le_of_ble_eq_true rfl) (M_kd S)) (m_goThrough (d := d + 9) P Z hj hN) ?_
  rintro _ _ ⟨rfl, h5x, hl5, X5, rfl, P, S7, n23, R8⟩
  obtain ⟨SR, O, H, HR, HV, HT, HF, HK, E0, EL0, EX0⟩ := id P
  have S := SR.1
  show lm_wp _ 196 47 [.ref 123, .int (nI j), .int (nI N), .int 2, .int 0] [.int ((jrR T n (V j).2.2.2 0 N (zrR R)).1)] (h5x, hl5, X5) _
  refine w_N 1 48 [.ref 123, .int (nI j), .int (nI N), .int 2, .int 0] [.int (-1), .int ((jrR T n (V j).2.2.2 0 N (zrR R)).1)] rfl ?_
  refine w_icmp_eq_t (t := 61) rfl rfl hj1 ?_
  refine w_N 2 63 [.ref 123, .int (nI j), .int (nI N), .int 2, .int 0] [.int 2, .int 2] rfl ?_
  refine w_icmp_ne_f (t := 76) rfl rfl (by decide) ?_
  refine w_N 1 67 [.ref 123, .int (nI j), .int (nI N), .int 2, .int 0] [.ref 123] rfl ?_
  refine w_gr 700 rfl rfl rfl (M_kd S) n23 ?_
  refine w_gi (v := s_marks ((jrR T n (V j).2.2.2 0 N (zrR R)).2 10)) rfl rfl rfl (M_kd S7) (R8.1.1) ?_
  refine w_N 1 85 [.ref 123, .int (nI j), .int (nI N), .int 2, .int 0] [.int (s_marks ((jrR T n (V j).2.2.2 0 N (zrR R)).2 10))] rfl ?_
  refine w_ri rfl rfl ?_
  exact mq_ P
theorem st_told {B D : Nat} {n ts : Nat} {T : lm_T} {R : Nat → Int32} {KO : ab_K} {V : ab_V} {tl F : Nat → Int32} {s m w : Int32} (Z : okZ B D T n R KO V ts tl) (hB : B + 20 < 2000000) : STEP B 111 196 [.int s, .int m, .int w] T n R KO V ts tl F := by
  obtain ⟨hT, hO, hV, hts, htl, hDB, hB0, hKO⟩ := id Z
  by_cases hb : (wi s 0 7 && wi m 0 20 && wi w 0 2) = false
  · cases hw : wi w 0 2
    · exact ⟨_, D, _, _, _, _, _, _, _, _, okZ_up Z hB, fun _ _ _ _ _ _ P hC => x_told_b (d := 10) P hb hC, fun _ _ _ _ _ _ P => y_told_b1 (d := 10) P hw⟩
    · exact ⟨_, D, _, _, _, _, _, _, _, _, okZ_up Z hB, fun _ _ _ _ _ _ P hC => x_told_b (d := 10) P hb hC, fun _ _ _ _ _ _ P => y_told_b2 (d := 10) P hw (by rw [hw, Bool.and_true] at hb; exact hb)⟩
  · obtain ⟨h1, h2, h3⟩ := and3_t hb
    obtain ⟨j, rfl, hj⟩ := wi_e (n := 7) h1 (by decide)
    obtain ⟨N, rfl, hN⟩ := wi_e (n := 20) h2 (by decide)
    obtain ⟨w, rfl, hw⟩ := wi_e (n := 2) h3 (by decide)
    have hz := (hV j (by omega)).2.1
    by_cases h0 : lkW (V j).1 (V j).2.1 (nI N) = 0
    · by_cases hj1 : (jrR T n (V j).2.2.2 0 N (zrR R)).1 = -1
      · rcases (by omega : w = 0 ∨ w = 1 ∨ w = 2) with rfl | rfl | rfl
        · exact ⟨_, D, _, _, _, _, _, _, _, _, okZ_up Z hB, fun _ _ _ _ _ _ P hC => x_told0 (d := 10) P Z (by omega) hN hz h0 hj1 hC, fun _ _ _ _ _ _ P => y_told0 (d := 10) P Z (by omega) hN hz h0 hj1⟩
        · exact ⟨_, D, _, _, _, _, _, _, _, _, okZ_up Z hB, fun _ _ _ _ _ _ P hC => x_told1 (d := 10) P Z (by omega) hN hz h0 hj1 hC, fun _ _ _ _ _ _ P => y_told1 (d := 10) P Z (by omega) hN hz h0 hj1⟩
        · exact ⟨_, D, _, _, _, _, _, _, _, _, okZ_up Z hB, fun _ _ _ _ _ _ P hC => x_told2 (d := 10) P Z (by omega) hN hz h0 hj1 hC, fun _ _ _ _ _ _ P => y_told2 (d := 10) P Z (by omega) hN hz h0 hj1⟩
      · exact ⟨_, D, _, _, _, _, _, _, _, _, okZ_up Z hB, fun _ _ _ _ _ _ P hC => x_told_s (d := 10) P Z (by omega) hN hw hz h0 hj1 hC, fun _ _ _ _ _ _ P => y_told_s (d := 10) P Z (by omega) hN hw hz h0 hj1⟩
    · exact ⟨_, D, _, _, _, _, _, _, _, _, okZ_up Z hB, fun _ _ _ _ _ _ P hC => x_told_l (d := 10) P (by omega) hN hw hz h0 hC, fun _ _ _ _ _ _ P => y_told_l (d := 10) P (by omega) hN hw hz h0⟩
