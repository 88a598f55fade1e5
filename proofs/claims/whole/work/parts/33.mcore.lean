set_option maxRecDepth 16384
/-! the reference: canBe, doIt, valueOf, standing, putBack -/
def wi (x lo up : Int32) : Bool := !decide (x < lo) && !decide (up < x)
theorem lgc_gt (x y : Int64) : 0 < lg_cmp x y ↔ y.toInt < x.toInt := by
  unfold lg_cmp
  split
  · rename_i h
    have h := Int64.lt_iff_toInt_lt.mp h
    constructor
    · intro _; exact h
    · intro _; decide
  · rename_i h1
    have h3 : ¬ y.toInt < x.toInt := fun z => h1 (Int64.lt_iff_toInt_lt.mpr z)
    split
    · constructor
      · intro z; exact absurd z (by decide)
      · intro z; exact absurd z h3
    · constructor
      · intro z; exact absurd z (by decide)
      · intro z; exact absurd z h3
theorem m_in {d : Nat} {hi : Nat → Nat → Int32} {hl : Nat → Nat → Int64} {X : lm_X} {x lo up : Int32} {x1 lo1 up1 : Int64} (hx : x.toInt64 = x1) (hlo : lo.toInt64 = lo1) (hup : up.toInt64 = up1) : lm_c d 133 [.long x1, .long lo1, .long up1] (hi, hl, X) (some (.int (bz (wi x lo up))), (hi, hl, X)) := by
  subst hx hlo hup
  refine lm_c_of (lm_w_in (Nat.le_of_ble_eq_true rfl) ?_)
  show lm_wp d 133 0 [.long x.toInt64, lm_jk, .long lo.toInt64, lm_jk, .long up.toInt64, lm_jk] [] (hi, hl, X) _
  have q1 : lg_cmp x.toInt64 lo.toInt64 < 0 ↔ x < lo := by rw [lgc_lt, Int32.toInt_toInt64, Int32.toInt_toInt64, Int32.lt_iff_toInt_lt]
  have q2 : 0 < lg_cmp x.toInt64 up.toInt64 ↔ up < x := by rw [lgc_gt, Int32.toInt_toInt64, Int32.toInt_toInt64, Int32.lt_iff_toInt_lt]
  refine w_N 3 3 [.long x.toInt64, lm_jk, .long lo.toInt64, lm_jk, .long up.toInt64, lm_jk] [.int (lg_cmp x.toInt64 lo.toInt64)] rfl ?_
  refine w_if_lt (t := 17) rfl rfl (fun c1 => ?_) (fun c1 => ?_)
  · refine w_N 1 18 [.long x.toInt64, lm_jk, .long lo.toInt64, lm_jk, .long up.toInt64, lm_jk] [.int 0] rfl ?_
    refine w_rz rfl rfl (by decide) ?_
    simp_all [wi, bz]
  · refine w_N 3 10 [.long x.toInt64, lm_jk, .long lo.toInt64, lm_jk, .long up.toInt64, lm_jk] [.int (lg_cmp x.toInt64 up.toInt64)] rfl ?_
    refine w_if_gt (t := 17) rfl rfl (fun c2 => ?_) (fun c2 => ?_)
    · refine w_N 1 18 [.long x.toInt64, lm_jk, .long lo.toInt64, lm_jk, .long up.toInt64, lm_jk] [.int 0] rfl ?_
      refine w_rz rfl rfl (by decide) ?_
      simp_all [wi, bz]
    · refine w_N 2 18 [.long x.toInt64, lm_jk, .long lo.toInt64, lm_jk, .long up.toInt64, lm_jk] [.int 1] rfl ?_
      refine w_rz rfl rfl (by decide) ?_
      simp_all [wi, bz]
theorem m_has {d : Nat} {hi : Nat → Nat → Int32} {hl : Nat → Nat → Int64} {X : lm_X} {x k : Int32} : lm_c d 135 [.int x, .int k] (hi, hl, X) (some (.int (bz (s_std x k))), (hi, hl, X)) := by
  refine lm_c_of (lm_w_in (Nat.le_of_ble_eq_true rfl) ?_)
  show lm_wp d 135 0 [.int x, .int k] [] (hi, hl, X) _
  refine w_N 5 5 [.int x, .int k] [.int ((x >>> (k &&& 31)) &&& 1)] rfl ?_
  refine w_if_eq (t := 12) rfl rfl (fun c1 => ?_) (fun c1 => ?_)
  · refine w_N 1 13 [.int x, .int k] [.int 0] rfl ?_
    refine w_rz rfl rfl (by decide) ?_
    simp [bz, s_std, *]
  · refine w_N 2 13 [.int x, .int k] [.int 1] rfl ?_
    refine w_rz rfl rfl (by decide) ?_
    simp [bz, s_std, *]
theorem m_canBe {d : Nat} {hi : Nat → Nat → Int32} {hl : Nat → Nat → Int64} {X : lm_X} {b n : Nat} {T : lm_T} {s : Int32} (S : sh_M X b) (H : rT hi b T n) (HS : rS hi b s) {hf a : Nat} (hT : okT T n) (ha : a < n) : lm_c (d + 1) 172 [.ref b, .int (nI a), .int (nI hf)] (hi, hl, X) (some (.int (bz (alw T (a + 1) hf s))), (hi, hl, X)) := by
  refine lm_c_of (lm_w_in (Nat.le_of_ble_eq_true rfl) ?_)
  show lm_wp (d + 1) 172 0 [.ref b, .int (nI a), .int (nI hf), lm_jk, lm_jk] [] (hi, hl, X) _
  have hn10 := rTle H
  obtain ⟨kk, m, c, x, dd, bb, l, e0, h0, e1, h1, e2, h2, e3, h3, h3', e4, h4, e5, h5, e6, h6⟩ := hT.1 a ha
  clear e0 h0
  have q4 : (T 4 a &&& (s_marks s ^^^ (-1)) = 0) ↔ (s &&& T 4 a = T 4 a) := by rw [e4]; exact needs_eq h4
  have q5 : (T 5 a &&& s_marks s = 0) ↔ (s &&& T 5 a = 0) := by rw [e5]; exact bars_eq h5
  have q1 : s_std (s_marks s) (T 1 a) = s_std s (T 1 a) := by rw [e1]; exact std_marks h1
  have q6 : s_std (T 6 a) (nI hf) = lkd (T 6 a) hf := rfl
  have q2 : s_count s (nI c) = s_count s (T 2 a) := by rw [e2]
  refine w_N 1 1 [.ref b, .int (nI a), .int (nI hf), lm_jk, lm_jk] [.ref b] rfl ?_
  refine w_gr (b + 18) rfl rfl rfl (M_kd S) (M_r S (k := 11) (o := 18) rfl) ?_
  refine w_N 1 5 [.ref b, .int (nI a), .int (nI hf), lm_jk, lm_jk] [.int (nI a), .ref (b + 18)] rfl ?_
  refine w_aa a (b + (19 + a)) rfl (M_kk S (o := 18) (by decide)) (show X.2.2.1 (b + 18) = 10 from M_l S 18 (by decide)) rfl (by omega) (by decide) (M_acr S (by omega)) ?_
  refine w_N 3 10 [.ref b, .int (nI a), .int (nI hf), .ref (b + (19 + a)), lm_jk] [.int 6, .ref (b + (19 + a))] rfl ?_
  refine w_ia 6 (v := T 6 a) rfl (M_ack S (by omega)) (M_acl S (by omega)) rfl (by decide) (by decide) (rTa H (by decide) (by omega)) ?_
  refine w_N 1 12 [.ref b, .int (nI a), .int (nI hf), .ref (b + (19 + a)), lm_jk] [.int (nI hf), .int (T 6 a)] rfl ?_
  refine w_cc rfl m_has ?_
  show lm_wp _ 172 15 [.ref b, .int (nI a), .int (nI hf), .ref (b + (19 + a)), lm_jk] [.int (bz (s_std (T 6 a) (nI hf)))] (hi, hl, X) _
  refine w_zne (t := 42) rfl rfl (fun c1 => ?_) (fun c1 => ?_)
  · refine w_N 1 43 [.ref b, .int (nI a), .int (nI hf), .ref (b + (19 + a)), lm_jk] [.int 0] rfl ?_
    refine w_rz rfl rfl (by decide) ?_
    simp only [q1, q2, q4, q5, q6] at *
    simp_all [bz, alw]
  · refine w_N 2 20 [.ref b, .int (nI a), .int (nI hf), .ref (b + (19 + a)), lm_jk] [.int 4, .ref (b + (19 + a))] rfl ?_
    refine w_ia 4 (v := T 4 a) rfl (M_ack S (by omega)) (M_acl S (by omega)) rfl (by decide) (by decide) (rTa H (by decide) (by omega)) ?_
    refine w_N 1 22 [.ref b, .int (nI a), .int (nI hf), .ref (b + (19 + a)), lm_jk] [.ref b, .int (T 4 a)] rfl ?_
    refine w_gi (v := s_marks s) rfl rfl rfl (M_kd S) (HS.1) ?_
    refine w_N 3 28 [.ref b, .int (nI a), .int (nI hf), .ref (b + (19 + a)), lm_jk] [.int ((T 4 a) &&& ((s_marks s) ^^^ (-1)))] rfl ?_
    refine w_if_ne (t := 42) rfl rfl (fun c2 => ?_) (fun c2 => ?_)
    · refine w_N 1 43 [.ref b, .int (nI a), .int (nI hf), .ref (b + (19 + a)), lm_jk] [.int 0] rfl ?_
      refine w_rz rfl rfl (by decide) ?_
      simp only [q1, q2, q4, q5, q6] at *
      simp_all [bz, alw]
    · refine w_N 2 33 [.ref b, .int (nI a), .int (nI hf), .ref (b + (19 + a)), lm_jk] [.int 5, .ref (b + (19 + a))] rfl ?_
      refine w_ia 5 (v := T 5 a) rfl (M_ack S (by omega)) (M_acl S (by omega)) rfl (by decide) (by decide) (rTa H (by decide) (by omega)) ?_
      refine w_N 1 35 [.ref b, .int (nI a), .int (nI hf), .ref (b + (19 + a)), lm_jk] [.ref b, .int (T 5 a)] rfl ?_
      refine w_gi (v := s_marks s) rfl rfl rfl (M_kd S) (HS.1) ?_
      refine w_N 1 39 [.ref b, .int (nI a), .int (nI hf), .ref (b + (19 + a)), lm_jk] [.int ((T 5 a) &&& (s_marks s))] rfl ?_
      refine w_if_eq (t := 44) rfl rfl (fun c3 => ?_) (fun c3 => ?_)
      · refine w_N 1 45 [.ref b, .int (nI a), .int (nI hf), .ref (b + (19 + a)), lm_jk] [.ref b] rfl ?_
        refine w_gi (v := s_marks s) rfl rfl rfl (M_kd S) (HS.1) ?_
        refine w_N 2 50 [.ref b, .int (nI a), .int (nI hf), .ref (b + (19 + a)), lm_jk] [.int 1, .ref (b + (19 + a)), .int (s_marks s)] rfl ?_
        refine w_ia 1 (v := T 1 a) rfl (M_ack S (by omega)) (M_acl S (by omega)) rfl (by decide) (by decide) (rTa H (by decide) (by omega)) ?_
        refine w_cc rfl m_has ?_
        show lm_wp _ 172 54 [.ref b, .int (nI a), .int (nI hf), .ref (b + (19 + a)), lm_jk] [.int (bz (s_std (s_marks s) (T 1 a)))] (hi, hl, X) _
        refine w_N 3 58 [.ref b, .int (nI a), .int (nI hf), .ref (b + (19 + a)), .int (bz (s_std (s_marks s) (T 1 a)))] [.int 0, .ref (b + (19 + a))] rfl ?_
        refine w_ia 0 (v := T 0 a) rfl (M_ack S (by omega)) (M_acl S (by omega)) rfl (by decide) (by decide) (rTa H (by decide) (by omega)) ?_
        refine lm_by (x := T 0 a) 1 ?_ ?_
        · intro c4
          refine w_ts (t := 92) rfl (by decide) (by rw [c4]; rfl) ?_
          refine w_N 1 94 [.ref b, .int (nI a), .int (nI hf), .ref (b + (19 + a)), .int (bz (s_std (s_marks s) (T 1 a)))] [.int (bz (s_std (s_marks s) (T 1 a)))] rfl ?_
          refine w_zne (t := 101) rfl rfl (fun c5 => ?_) (fun c5 => ?_)
          · refine w_N 1 102 [.ref b, .int (nI a), .int (nI hf), .ref (b + (19 + a)), .int (bz (s_std (s_marks s) (T 1 a)))] [.int 0] rfl ?_
            refine w_rz rfl rfl (by decide) ?_
            simp only [q1, q2, q4, q5, q6] at *
            simp_all [bz, alw]
          · refine w_N 2 102 [.ref b, .int (nI a), .int (nI hf), .ref (b + (19 + a)), .int (bz (s_std (s_marks s) (T 1 a)))] [.int 1] rfl ?_
            refine w_rz rfl rfl (by decide) ?_
            simp only [q1, q2, q4, q5, q6] at *
            simp_all [bz, alw]
        intro c4_0
        refine lm_by (x := T 0 a) 2 ?_ ?_
        · intro c4
          refine w_ts (t := 103) rfl (by decide) (by rw [c4]; rfl) ?_
          refine w_N 1 105 [.ref b, .int (nI a), .int (nI hf), .ref (b + (19 + a)), .int (bz (s_std (s_marks s) (T 1 a)))] [.int (bz (s_std (s_marks s) (T 1 a)))] rfl ?_
          refine w_rz rfl rfl (bz_or _) ?_
          simp only [q1, q2, q4, q5, q6] at *
          simp_all [bz, alw]
        intro c4_1
        refine lm_by (x := T 0 a) 3 ?_ ?_
        · intro c4
          refine w_ts (t := 159) rfl (by decide) (by rw [c4]; rfl) ?_
          refine w_N 1 160 [.ref b, .int (nI a), .int (nI hf), .ref (b + (19 + a)), .int (bz (s_std (s_marks s) (T 1 a)))] [.int 1] rfl ?_
          refine w_rz rfl rfl (by decide) ?_
          simp only [q1, q2, q4, q5, q6] at *
          simp_all [bz, alw]
        intro c4_2
        refine lm_by (x := T 0 a) 4 ?_ ?_
        · intro c4
          refine w_ts (t := 106) rfl (by decide) (by rw [c4]; rfl) ?_
          refine w_N 1 108 [.ref b, .int (nI a), .int (nI hf), .ref (b + (19 + a)), .int (bz (s_std (s_marks s) (T 1 a)))] [.int (bz (s_std (s_marks s) (T 1 a)))] rfl ?_
          refine w_zne (t := 129) rfl rfl (fun c6 => ?_) (fun c6 => ?_)
          · refine w_N 1 130 [.ref b, .int (nI a), .int (nI hf), .ref (b + (19 + a)), .int (bz (s_std (s_marks s) (T 1 a)))] [.int 0] rfl ?_
            refine w_rz rfl rfl (by decide) ?_
            simp only [q1, q2, q4, q5, q6] at *
            simp_all [bz, alw]
          · refine w_N 1 112 [.ref b, .int (nI a), .int (nI hf), .ref (b + (19 + a)), .int (bz (s_std (s_marks s) (T 1 a)))] [.ref b] rfl ?_
            refine w_gr (b + 29) rfl rfl rfl (M_kd S) (M_r S (k := 13) (o := 29) rfl) ?_
            refine w_N 2 117 [.ref b, .int (nI a), .int (nI hf), .ref (b + (19 + a)), .int (bz (s_std (s_marks s) (T 1 a)))] [.int 2, .ref (b + (19 + a)), .ref (b + 29)] rfl ?_
            refine w_ia 2 (v := T 2 a) rfl (M_ack S (by omega)) (M_acl S (by omega)) rfl (by decide) (by decide) (rTa H (by decide) (by omega)) ?_
            refine w_ia c (v := s_count s (nI c)) rfl (show X.2.1 (b + 29) = 1 from M_k S 29 (by decide)) (show X.2.2.1 (b + 29) = 4 from M_l S 29 (by decide)) e2 (by omega) (by decide) (HS.2 c (by omega)) ?_
            refine w_N 2 121 [.ref b, .int (nI a), .int (nI hf), .ref (b + (19 + a)), .int (bz (s_std (s_marks s) (T 1 a)))] [.int 3, .ref (b + (19 + a)), .int (s_count s (nI c))] rfl ?_
            refine w_ia 3 (v := T 3 a) rfl (M_ack S (by omega)) (M_acl S (by omega)) rfl (by decide) (by decide) (rTa H (by decide) (by omega)) ?_
            refine w_icmp_lt (t := 129) rfl rfl (fun c7 => ?_) (fun c7 => ?_)
            · refine w_N 1 130 [.ref b, .int (nI a), .int (nI hf), .ref (b + (19 + a)), .int (bz (s_std (s_marks s) (T 1 a)))] [.int 0] rfl ?_
              refine w_rz rfl rfl (by decide) ?_
              simp only [q1, q2, q4, q5, q6] at *
              simp_all [bz, alw]
            · refine w_N 2 130 [.ref b, .int (nI a), .int (nI hf), .ref (b + (19 + a)), .int (bz (s_std (s_marks s) (T 1 a)))] [.int 1] rfl ?_
              refine w_rz rfl rfl (by decide) ?_
              simp only [q1, q2, q4, q5, q6] at *
              simp_all [bz, alw]
        intro c4_3
        refine lm_by (x := T 0 a) 5 ?_ ?_
        · intro c4
          refine w_ts (t := 131) rfl (by decide) (by rw [c4]; rfl) ?_
          refine w_N 1 133 [.ref b, .int (nI a), .int (nI hf), .ref (b + (19 + a)), .int (bz (s_std (s_marks s) (T 1 a)))] [.int (bz (s_std (s_marks s) (T 1 a)))] rfl ?_
          refine w_zeq (t := 157) rfl rfl (fun c8 => ?_) (fun c8 => ?_)
          · refine w_N 1 158 [.ref b, .int (nI a), .int (nI hf), .ref (b + (19 + a)), .int (bz (s_std (s_marks s) (T 1 a)))] [.int 0] rfl ?_
            refine w_rz rfl rfl (by decide) ?_
            simp only [q1, q2, q4, q5, q6] at *
            simp_all [bz, alw]
          · refine w_N 1 137 [.ref b, .int (nI a), .int (nI hf), .ref (b + (19 + a)), .int (bz (s_std (s_marks s) (T 1 a)))] [.ref b] rfl ?_
            refine w_gr (b + 29) rfl rfl rfl (M_kd S) (M_r S (k := 13) (o := 29) rfl) ?_
            refine w_N 2 142 [.ref b, .int (nI a), .int (nI hf), .ref (b + (19 + a)), .int (bz (s_std (s_marks s) (T 1 a)))] [.int 2, .ref (b + (19 + a)), .ref (b + 29)] rfl ?_
            refine w_ia 2 (v := T 2 a) rfl (M_ack S (by omega)) (M_acl S (by omega)) rfl (by decide) (by decide) (rTa H (by decide) (by omega)) ?_
            refine w_ia c (v := s_count s (nI c)) rfl (show X.2.1 (b + 29) = 1 from M_k S 29 (by decide)) (show X.2.2.1 (b + 29) = 4 from M_l S 29 (by decide)) e2 (by omega) (by decide) (HS.2 c (by omega)) ?_
            refine w_N 2 146 [.ref b, .int (nI a), .int (nI hf), .ref (b + (19 + a)), .int (bz (s_std (s_marks s) (T 1 a)))] [.int 3, .ref (b + (19 + a)), .int (s_count s (nI c))] rfl ?_
            refine w_ia 3 (v := T 3 a) rfl (M_ack S (by omega)) (M_acl S (by omega)) rfl (by decide) (by decide) (rTa H (by decide) (by omega)) ?_
            refine w_N 2 150 [.ref b, .int (nI a), .int (nI hf), .ref (b + (19 + a)), .int (bz (s_std (s_marks s) (T 1 a)))] [.int 23, .int ((s_count s (nI c)) + (T 3 a))] rfl ?_
            refine w_icmp_gt (t := 157) rfl rfl (fun c9 => ?_) (fun c9 => ?_)
            · refine w_N 1 158 [.ref b, .int (nI a), .int (nI hf), .ref (b + (19 + a)), .int (bz (s_std (s_marks s) (T 1 a)))] [.int 0] rfl ?_
              refine w_rz rfl rfl (by decide) ?_
              simp only [q1, q2, q4, q5, q6] at *
              simp_all [bz, alw]
            · refine w_N 2 158 [.ref b, .int (nI a), .int (nI hf), .ref (b + (19 + a)), .int (bz (s_std (s_marks s) (T 1 a)))] [.int 1] rfl ?_
              refine w_rz rfl rfl (by decide) ?_
              simp only [q1, q2, q4, q5, q6] at *
              simp_all [bz, alw]
        intro c4_4
        refine w_ts (t := 159) rfl (by decide) (congrArg (lm_tg _) (lm_sw_n c4_0 (lm_sw_n c4_1 (lm_sw_n c4_2 (lm_sw_n c4_3 (lm_sw_n c4_4 (lm_sw_0))))))) ?_
        refine w_N 1 160 [.ref b, .int (nI a), .int (nI hf), .ref (b + (19 + a)), .int (bz (s_std (s_marks s) (T 1 a)))] [.int 1] rfl ?_
        refine w_rz rfl rfl (by decide) ?_
        simp only [q1, q2, q4, q5, q6] at *
        simp_all [bz, alw]
      · refine w_N 1 43 [.ref b, .int (nI a), .int (nI hf), .ref (b + (19 + a)), lm_jk] [.int 0] rfl ?_
        refine w_rz rfl rfl (by decide) ?_
        simp only [q1, q2, q4, q5, q6] at *
        simp_all [bz, alw]
theorem m_canBeE {d : Nat} {hi : Nat → Nat → Int32} {hl : Nat → Nat → Int64} {X : lm_X} {b n : Nat} {T : lm_T} {s : Int32} (S : sh_M X b) (H : rT hi b T n) (HS : rS hi b s) {hf a : Nat} {x y : Int32} (hT : okT T n) (hx : x = nI a) (hy : y = nI hf) (ha : a < n) : lm_c (d + 1) 172 [.ref b, .int x, .int y] (hi, hl, X) (some (.int (bz (alw T (a + 1) hf s))), (hi, hl, X)) := by
  subst hx hy; exact m_canBe S H HS hT ha
theorem m_doIt1 {d : Nat} {hi : Nat → Nat → Int32} {hl : Nat → Nat → Int64} {X : lm_X} {b n : Nat} {T : lm_T} {s : Int32} (S : sh_M X b) (H : rT hi b T n) (HS : rS hi b s) {hf a : Nat} (hT : okT T n) (ha : a < n) (hal : alw T (a + 1) hf s = true) : lm_w d 173 [.ref b, .int (nI a)] (hi, hl, X) (fun v h1 => ∃ hi', v = none ∧ h1 = (hi', hl, X) ∧ rS hi' b (aft T (a + 1) s) ∧ rX hi hi' b ∧ hi' b 14 = hi b 14) := by
  refine lm_w_in (Nat.le_of_ble_eq_true rfl) ?_
  show lm_wp d 173 0 [.ref b, .int (nI a), lm_jk] [] (hi, hl, X) _
  have hn10 := rTle H
  obtain ⟨kk, m, c, x, dd, bb, l, e0, h0, e1, h1, e2, h2, e3, h3, h3', e4, h4, e5, h5, e6, h6⟩ := hT.1 a ha
  clear e0 h0
  have ha1 : ¬ nI a = -1 := fun z => by have := (aI_none (i := a + 1) (by omega)).mp z; omega
  have ak := alw_k hal
  refine w_N 2 2 [.ref b, .int (nI a), lm_jk] [.int (-1), .int (nI a)] rfl ?_
  refine w_icmp_ne_t (t := 6) rfl rfl ha1 ?_
  refine w_N 1 7 [.ref b, .int (nI a), lm_jk] [.ref b] rfl ?_
  refine w_gr (b + 18) rfl rfl rfl (M_kd S) (M_r S (k := 11) (o := 18) rfl) ?_
  refine w_N 1 11 [.ref b, .int (nI a), lm_jk] [.int (nI a), .ref (b + 18)] rfl ?_
  refine w_aa a (b + (19 + a)) rfl (M_kk S (o := 18) (by decide)) (show X.2.2.1 (b + 18) = 10 from M_l S 18 (by decide)) rfl (by omega) (by decide) (M_acr S (by omega)) ?_
  refine w_N 3 15 [.ref b, .int (nI a), .ref (b + (19 + a))] [.int 0, .ref (b + (19 + a))] rfl ?_
  refine w_ia 0 (v := T 0 a) rfl (M_ack S (by omega)) (M_acl S (by omega)) rfl (by decide) (by decide) (rTa H (by decide) (by omega)) ?_
  refine lm_by (x := T 0 a) 1 ?_ ?_
  · intro c1
    refine w_ts (t := 52) rfl (by decide) (by rw [c1]; rfl) ?_
    refine w_N 2 54 [.ref b, .int (nI a), .ref (b + (19 + a))] [.ref b, .ref b] rfl ?_
    refine w_gi (v := s_marks s) rfl rfl rfl (M_kd S) (HS.1) ?_
    refine w_N 3 60 [.ref b, .int (nI a), .ref (b + (19 + a))] [.int 1, .ref (b + (19 + a)), .int 1, .int (s_marks s), .ref b] rfl ?_
    refine w_ia 1 (v := T 1 a) rfl (M_ack S (by omega)) (M_acl S (by omega)) rfl (by decide) (by decide) (rTa H (by decide) (by omega)) ?_
    refine w_N 2 63 [.ref b, .int (nI a), .ref (b + (19 + a))] [.int ((s_marks s) ||| (1 <<< ((T 1 a) &&& 31))), .ref b] rfl ?_
    refine w_pi rfl rfl rfl rfl (M_kd S) (M_64 S) ?_
    refine w_N 1 211 [.ref b, .int (nI a), .ref (b + (19 + a))] [] rfl ?_
    refine w_rv rfl rfl ?_
    have ea : aft T (a + 1) s = s_turn s (T 1 a) := by simp [aft, *]
    refine ⟨_, rfl, rfl, ?_, rX_m (rX_rfl) (by decide), by simp [lm_up]⟩
    rw [ea, e1]
    exact rS_1 HS (or_turn h1 (by rw [← e1]; exact ak.1 (by assumption))) (fun e he => count_turn he h1)
  intro c1_0
  refine lm_by (x := T 0 a) 2 ?_ ?_
  · intro c1
    refine w_ts (t := 69) rfl (by decide) (by rw [c1]; rfl) ?_
    refine w_N 2 71 [.ref b, .int (nI a), .ref (b + (19 + a))] [.ref b, .ref b] rfl ?_
    refine w_gi (v := s_marks s) rfl rfl rfl (M_kd S) (HS.1) ?_
    refine w_N 3 77 [.ref b, .int (nI a), .ref (b + (19 + a))] [.int 1, .ref (b + (19 + a)), .int 1, .int (s_marks s), .ref b] rfl ?_
    refine w_ia 1 (v := T 1 a) rfl (M_ack S (by omega)) (M_acl S (by omega)) rfl (by decide) (by decide) (rTa H (by decide) (by omega)) ?_
    refine w_N 4 82 [.ref b, .int (nI a), .ref (b + (19 + a))] [.int ((s_marks s) &&& ((1 <<< ((T 1 a) &&& 31)) ^^^ (-1))), .ref b] rfl ?_
    refine w_pi rfl rfl rfl rfl (M_kd S) (M_64 S) ?_
    refine w_N 1 211 [.ref b, .int (nI a), .ref (b + (19 + a))] [] rfl ?_
    refine w_rv rfl rfl ?_
    have ea : aft T (a + 1) s = s_turn s (T 1 a) := by simp [aft, *]
    refine ⟨_, rfl, rfl, ?_, rX_m (rX_rfl) (by decide), by simp [lm_up]⟩
    rw [ea, e1]
    exact rS_1 HS (and_turn h1 (by rw [← e1]; exact ak.2.1 (by assumption))) (fun e he => count_turn he h1)
  intro c1_1
  refine lm_by (x := T 0 a) 3 ?_ ?_
  · intro c1
    refine w_ts (t := 88) rfl (by decide) (by rw [c1]; rfl) ?_
    refine w_N 2 90 [.ref b, .int (nI a), .ref (b + (19 + a))] [.ref b, .ref b] rfl ?_
    refine w_gi (v := s_marks s) rfl rfl rfl (M_kd S) (HS.1) ?_
    refine w_N 3 96 [.ref b, .int (nI a), .ref (b + (19 + a))] [.int 1, .ref (b + (19 + a)), .int 1, .int (s_marks s), .ref b] rfl ?_
    refine w_ia 1 (v := T 1 a) rfl (M_ack S (by omega)) (M_acl S (by omega)) rfl (by decide) (by decide) (rTa H (by decide) (by omega)) ?_
    refine w_N 2 99 [.ref b, .int (nI a), .ref (b + (19 + a))] [.int ((s_marks s) ^^^ (1 <<< ((T 1 a) &&& 31))), .ref b] rfl ?_
    refine w_pi rfl rfl rfl rfl (M_kd S) (M_64 S) ?_
    refine w_N 1 211 [.ref b, .int (nI a), .ref (b + (19 + a))] [] rfl ?_
    refine w_rv rfl rfl ?_
    have ea : aft T (a + 1) s = s_turn s (T 1 a) := by simp [aft, *]
    refine ⟨_, rfl, rfl, ?_, rX_m (rX_rfl) (by decide), by simp [lm_up]⟩
    rw [ea, e1]
    exact rS_1 HS (marks_turn h1).symm (fun e he => count_turn he h1)
  intro c1_2
  refine lm_by (x := T 0 a) 4 ?_ ?_
  · intro c1
    refine w_ts (t := 105) rfl (by decide) (by rw [c1]; rfl) ?_
    refine w_N 2 107 [.ref b, .int (nI a), .ref (b + (19 + a))] [.ref b, .ref b] rfl ?_
    refine w_gi (v := s_marks s) rfl rfl rfl (M_kd S) (HS.1) ?_
    refine w_N 3 113 [.ref b, .int (nI a), .ref (b + (19 + a))] [.int 1, .ref (b + (19 + a)), .int 1, .int (s_marks s), .ref b] rfl ?_
    refine w_ia 1 (v := T 1 a) rfl (M_ack S (by omega)) (M_acl S (by omega)) rfl (by decide) (by decide) (rTa H (by decide) (by omega)) ?_
    refine w_N 2 116 [.ref b, .int (nI a), .ref (b + (19 + a))] [.int ((s_marks s) ||| (1 <<< ((T 1 a) &&& 31))), .ref b] rfl ?_
    refine w_pi rfl rfl rfl rfl (M_kd S) (M_64 S) ?_
    refine w_N 1 120 [.ref b, .int (nI a), .ref (b + (19 + a))] [.ref b] rfl ?_
    refine w_gr (b + 29) rfl rfl rfl (M_kd S) (M_r S (k := 13) (o := 29) rfl) ?_
    refine w_N 2 125 [.ref b, .int (nI a), .ref (b + (19 + a))] [.int 2, .ref (b + (19 + a)), .ref (b + 29)] rfl ?_
    refine w_ia 2 (v := T 2 a) rfl (M_ack S (by omega)) (M_acl S (by omega)) rfl (by decide) (by decide) ((lm_up_na (by omega)).trans (rTa H (by decide) (by omega))) ?_
    refine w_N 1 127 [.ref b, .int (nI a), .ref (b + (19 + a))] [.int (T 2 a), .ref (b + 29), .int (T 2 a), .ref (b + 29)] rfl ?_
    refine w_ia c (v := s_count s (nI c)) rfl (show X.2.1 (b + 29) = 1 from M_k S 29 (by decide)) (show X.2.2.1 (b + 29) = 4 from M_l S 29 (by decide)) e2 (by omega) (by decide) ((lm_up_na (by omega)).trans (HS.2 c (by omega))) ?_
    refine w_N 2 130 [.ref b, .int (nI a), .ref (b + (19 + a))] [.int 3, .ref (b + (19 + a)), .int (s_count s (nI c)), .int (T 2 a), .ref (b + 29)] rfl ?_
    refine w_ia 3 (v := T 3 a) rfl (M_ack S (by omega)) (M_acl S (by omega)) rfl (by decide) (by decide) ((lm_up_na (by omega)).trans (rTa H (by decide) (by omega))) ?_
    refine w_N 1 132 [.ref b, .int (nI a), .ref (b + (19 + a))] [.int ((s_count s (nI c)) - (T 3 a)), .int (T 2 a), .ref (b + 29)] rfl ?_
    refine w_is c rfl (show X.2.1 (b + 29) = 1 from M_k S 29 (by decide)) (Nat.le_trans (M_64 S) (Nat.le_add_right _ _)) (show X.2.2.1 (b + 29) = 4 from M_l S 29 (by decide)) e2 (by omega) (by decide) ?_
    refine w_N 1 211 [.ref b, .int (nI a), .ref (b + (19 + a))] [] rfl ?_
    refine w_rv rfl rfl ?_
    have ea : aft T (a + 1) s = s_with (s_turn s (T 1 a)) (T 2 a) (s_count s (T 2 a) - T 3 a) := by simp [aft, *]
    obtain ⟨v, hv, ev⟩ := count_nI s h2
    have ak4 := ak.2.2.1 (by assumption)
    rw [e1, e2, e3, ev] at ak4
    have hx : x ≤ v := by
      have := ak4.2
      rw [nI_lt_iff (by omega) (by omega)] at this
      omega
    refine ⟨_, rfl, rfl, ?_, rX_c (rX_m (rX_rfl) (by decide)) (by omega), by simp [lm_up]⟩
    rw [ea, e1, e2, e3, ev, nI_sub hx]
    refine rS_2 HS ?_ (fun e he => ?_)
    · rw [marks_with h2 (by omega)]; exact or_turn h1 ak4.1
    · rw [count_with h2 he (by omega)]
      split
      · rfl
      · exact count_turn he h1
  intro c1_3
  refine lm_by (x := T 0 a) 5 ?_ ?_
  · intro c1
    refine w_ts (t := 136) rfl (by decide) (by rw [c1]; rfl) ?_
    refine w_N 2 138 [.ref b, .int (nI a), .ref (b + (19 + a))] [.ref b, .ref b] rfl ?_
    refine w_gi (v := s_marks s) rfl rfl rfl (M_kd S) (HS.1) ?_
    refine w_N 3 144 [.ref b, .int (nI a), .ref (b + (19 + a))] [.int 1, .ref (b + (19 + a)), .int 1, .int (s_marks s), .ref b] rfl ?_
    refine w_ia 1 (v := T 1 a) rfl (M_ack S (by omega)) (M_acl S (by omega)) rfl (by decide) (by decide) (rTa H (by decide) (by omega)) ?_
    refine w_N 4 149 [.ref b, .int (nI a), .ref (b + (19 + a))] [.int ((s_marks s) &&& ((1 <<< ((T 1 a) &&& 31)) ^^^ (-1))), .ref b] rfl ?_
    refine w_pi rfl rfl rfl rfl (M_kd S) (M_64 S) ?_
    refine w_N 1 153 [.ref b, .int (nI a), .ref (b + (19 + a))] [.ref b] rfl ?_
    refine w_gr (b + 29) rfl rfl rfl (M_kd S) (M_r S (k := 13) (o := 29) rfl) ?_
    refine w_N 2 158 [.ref b, .int (nI a), .ref (b + (19 + a))] [.int 2, .ref (b + (19 + a)), .ref (b + 29)] rfl ?_
    refine w_ia 2 (v := T 2 a) rfl (M_ack S (by omega)) (M_acl S (by omega)) rfl (by decide) (by decide) ((lm_up_na (by omega)).trans (rTa H (by decide) (by omega))) ?_
    refine w_N 1 160 [.ref b, .int (nI a), .ref (b + (19 + a))] [.int (T 2 a), .ref (b + 29), .int (T 2 a), .ref (b + 29)] rfl ?_
    refine w_ia c (v := s_count s (nI c)) rfl (show X.2.1 (b + 29) = 1 from M_k S 29 (by decide)) (show X.2.2.1 (b + 29) = 4 from M_l S 29 (by decide)) e2 (by omega) (by decide) ((lm_up_na (by omega)).trans (HS.2 c (by omega))) ?_
    refine w_N 2 163 [.ref b, .int (nI a), .ref (b + (19 + a))] [.int 3, .ref (b + (19 + a)), .int (s_count s (nI c)), .int (T 2 a), .ref (b + 29)] rfl ?_
    refine w_ia 3 (v := T 3 a) rfl (M_ack S (by omega)) (M_acl S (by omega)) rfl (by decide) (by decide) ((lm_up_na (by omega)).trans (rTa H (by decide) (by omega))) ?_
    refine w_N 1 165 [.ref b, .int (nI a), .ref (b + (19 + a))] [.int ((s_count s (nI c)) + (T 3 a)), .int (T 2 a), .ref (b + 29)] rfl ?_
    refine w_is c rfl (show X.2.1 (b + 29) = 1 from M_k S 29 (by decide)) (Nat.le_trans (M_64 S) (Nat.le_add_right _ _)) (show X.2.2.1 (b + 29) = 4 from M_l S 29 (by decide)) e2 (by omega) (by decide) ?_
    refine w_N 1 211 [.ref b, .int (nI a), .ref (b + (19 + a))] [] rfl ?_
    refine w_rv rfl rfl ?_
    have ea : aft T (a + 1) s = s_with (s_turn s (T 1 a)) (T 2 a) (s_count s (T 2 a) + T 3 a) := by simp [aft, *]
    obtain ⟨v, hv, ev⟩ := count_nI s h2
    have ak4 := ak.2.2.2 (by assumption)
    rw [e1, e2, e3, ev] at ak4
    have hx : v + x ≤ 23 := by
      have := ak4.2
      rw [nI_add', show (23 : Int32) = nI 23 from rfl, nI_lt_iff (by omega) (by omega)] at this
      omega
    refine ⟨_, rfl, rfl, ?_, rX_c (rX_m (rX_rfl) (by decide)) (by omega), by simp [lm_up]⟩
    rw [ea, e1, e2, e3, ev, nI_add']
    refine rS_2 HS ?_ (fun e he => ?_)
    · rw [marks_with h2 (by omega)]; exact and_turn h1 ak4.1
    · rw [count_with h2 he (by omega)]
      split
      · rfl
      · exact count_turn he h1
  intro c1_4
  refine w_ts (t := 169) rfl (by decide) (congrArg (lm_tg _) (lm_sw_n c1_0 (lm_sw_n c1_1 (lm_sw_n c1_2 (lm_sw_n c1_3 (lm_sw_n c1_4 (lm_sw_0))))))) ?_
  refine w_N 1 170 [.ref b, .int (nI a), .ref (b + (19 + a))] [.ref b] rfl ?_
  refine w_gr (b + 29) rfl rfl rfl (M_kd S) (M_r S (k := 13) (o := 29) rfl) ?_
  refine w_N 2 175 [.ref b, .int (nI a), .ref (b + (19 + a))] [.int 2, .ref (b + (19 + a)), .ref (b + 29)] rfl ?_
  refine w_ia 2 (v := T 2 a) rfl (M_ack S (by omega)) (M_acl S (by omega)) rfl (by decide) (by decide) (rTa H (by decide) (by omega)) ?_
  refine w_N 1 177 [.ref b, .int (nI a), .ref (b + (19 + a))] [.ref b, .int (T 2 a), .ref (b + 29)] rfl ?_
  refine w_gr (b + 29) rfl rfl rfl (M_kd S) (M_r S (k := 13) (o := 29) rfl) ?_
  refine w_N 2 182 [.ref b, .int (nI a), .ref (b + (19 + a))] [.int 2, .ref (b + (19 + a)), .ref (b + 29), .int (T 2 a), .ref (b + 29)] rfl ?_
  refine w_ia 2 (v := T 2 a) rfl (M_ack S (by omega)) (M_acl S (by omega)) rfl (by decide) (by decide) (rTa H (by decide) (by omega)) ?_
  refine w_ia c (v := s_count s (nI c)) rfl (show X.2.1 (b + 29) = 1 from M_k S 29 (by decide)) (show X.2.2.1 (b + 29) = 4 from M_l S 29 (by decide)) e2 (by omega) (by decide) (HS.2 c (by omega)) ?_
  refine w_N 2 186 [.ref b, .int (nI a), .ref (b + (19 + a))] [.int 3, .ref (b + (19 + a)), .int (s_count s (nI c)), .int (T 2 a), .ref (b + 29)] rfl ?_
  refine w_ia 3 (v := T 3 a) rfl (M_ack S (by omega)) (M_acl S (by omega)) rfl (by decide) (by decide) (rTa H (by decide) (by omega)) ?_
  refine w_N 2 190 [.ref b, .int (nI a), .ref (b + (19 + a))] [.int 23, .int ((s_count s (nI c)) + (T 3 a)), .int (T 2 a), .ref (b + 29)] rfl ?_
  refine w_icmp_le (t := 198) rfl rfl (fun c2 => ?_) (fun c2 => ?_)
  · refine w_N 1 199 [.ref b, .int (nI a), .ref (b + (19 + a))] [.ref b, .int (T 2 a), .ref (b + 29)] rfl ?_
    refine w_gr (b + 29) rfl rfl rfl (M_kd S) (M_r S (k := 13) (o := 29) rfl) ?_
    refine w_N 2 204 [.ref b, .int (nI a), .ref (b + (19 + a))] [.int 2, .ref (b + (19 + a)), .ref (b + 29), .int (T 2 a), .ref (b + 29)] rfl ?_
    refine w_ia 2 (v := T 2 a) rfl (M_ack S (by omega)) (M_acl S (by omega)) rfl (by decide) (by decide) (rTa H (by decide) (by omega)) ?_
    refine w_ia c (v := s_count s (nI c)) rfl (show X.2.1 (b + 29) = 1 from M_k S 29 (by decide)) (show X.2.2.1 (b + 29) = 4 from M_l S 29 (by decide)) e2 (by omega) (by decide) (HS.2 c (by omega)) ?_
    refine w_N 2 208 [.ref b, .int (nI a), .ref (b + (19 + a))] [.int 3, .ref (b + (19 + a)), .int (s_count s (nI c)), .int (T 2 a), .ref (b + 29)] rfl ?_
    refine w_ia 3 (v := T 3 a) rfl (M_ack S (by omega)) (M_acl S (by omega)) rfl (by decide) (by decide) (rTa H (by decide) (by omega)) ?_
    refine w_N 1 210 [.ref b, .int (nI a), .ref (b + (19 + a))] [.int ((s_count s (nI c)) + (T 3 a)), .int (T 2 a), .ref (b + 29)] rfl ?_
    refine w_is c rfl (show X.2.1 (b + 29) = 1 from M_k S 29 (by decide)) (Nat.le_trans (M_64 S) (Nat.le_add_right _ _)) (show X.2.2.1 (b + 29) = 4 from M_l S 29 (by decide)) e2 (by omega) (by decide) ?_
    refine w_rv rfl rfl ?_
    have ea : aft T (a + 1) s = s_with s (T 2 a) (if s_count s (T 2 a) + T 3 a < 23 then s_count s (T 2 a) + T 3 a else 23) := by simp [aft, *]
    obtain ⟨v, hv, ev⟩ := count_nI s h2
    rw [e3, ev, nI_add', show (23 : Int32) = nI 23 from rfl, nI_lt_iff (by omega) (by omega)] at c2
    refine ⟨_, rfl, rfl, ?_, rX_c (rX_rfl) (by omega), by simp [lm_up]⟩
    rw [ea, e2, e3, ev, nI_add', show (23 : Int32) = nI 23 from rfl]
    have hm : (if nI (v + x) < nI 23 then nI (v + x) else nI 23) = nI (v + x) := by
      split
      · rfl
      · rename_i hq; rw [nI_lt_iff (by omega) (by omega)] at hq; rw [show v + x = 23 by omega]
    rw [hm]
    exact rS_3 HS (marks_with h2 (by omega)) (fun e he => by rw [count_with h2 he (by omega)])
  · refine w_N 2 210 [.ref b, .int (nI a), .ref (b + (19 + a))] [.int 23, .int (T 2 a), .ref (b + 29)] rfl ?_
    refine w_is c rfl (show X.2.1 (b + 29) = 1 from M_k S 29 (by decide)) (Nat.le_trans (M_64 S) (Nat.le_add_right _ _)) (show X.2.2.1 (b + 29) = 4 from M_l S 29 (by decide)) e2 (by omega) (by decide) ?_
    refine w_rv rfl rfl ?_
    have ea : aft T (a + 1) s = s_with s (T 2 a) (if s_count s (T 2 a) + T 3 a < 23 then s_count s (T 2 a) + T 3 a else 23) := by simp [aft, *]
    obtain ⟨v, hv, ev⟩ := count_nI s h2
    rw [e3, ev, nI_add', show (23 : Int32) = nI 23 from rfl, nI_lt_iff (by omega) (by omega)] at c2
    refine ⟨_, rfl, rfl, ?_, rX_c (rX_rfl) (by omega), by simp [lm_up]⟩
    rw [ea, e2, e3, ev, nI_add', show (23 : Int32) = nI 23 from rfl]
    have hm : (if nI (v + x) < nI 23 then nI (v + x) else nI 23) = nI 23 := by
      split
      · rename_i hq; rw [nI_lt_iff (by omega) (by omega)] at hq; omega
      · rfl
    rw [hm]
    exact rS_3 HS (marks_with h2 (by omega)) (fun e he => by rw [count_with h2 he (by omega)])
theorem m_doIt {d : Nat} {hi : Nat → Nat → Int32} {hl : Nat → Nat → Int64} {X : lm_X} {b n : Nat} {T : lm_T} {s : Int32} (S : sh_M X b) (H : rT hi b T n) (HS : rS hi b s) {hf i : Nat} {y : Int32} (hT : okT T n) (hy : y = aI i) (ha : i ≤ n) (hal : alw T i hf s = true) : lm_w d 173 [.ref b, .int y] (hi, hl, X) (fun v h1 => ∃ hi', v = none ∧ h1 = (hi', hl, X) ∧ rS hi' b (aft T i s) ∧ rX hi hi' b ∧ hi' b 14 = hi b 14) := by
  subst hy
  cases i with
  | zero =>
    refine lm_w_in (Nat.le_of_ble_eq_true rfl) ?_
    show lm_wp d 173 0 [.ref b, .int (-1), lm_jk] [] (hi, hl, X) _
    refine w_N 2 2 [.ref b, .int (-1), lm_jk] [.int (-1), .int (-1)] rfl ?_
    refine w_icmp_ne_f (t := 6) rfl rfl rfl ?_
    refine w_rv rfl rfl ?_
    exact ⟨hi, rfl, rfl, HS, rX_rfl, rfl⟩
  | succ a => exact m_doIt1 S H HS hT (by omega) hal
theorem m_val1 {d : Nat} {hi : Nat → Nat → Int32} {hl : Nat → Nat → Int64} {X : lm_X} {b n : Nat} {T : lm_T} {s : Int32} (S : sh_M X b) (H : rT hi b T n) (HS : rS hi b s) {hf : Nat} (hh : hf < 2) {P : Option Value → lm_H → Prop} (k : ∀ mk : Int32, lm_wp (d + 1) 174 42 [.ref b, .int (nI hf), .int (val_m T hf s 8), .int mk] [] (hi, hl, X) P) : ∀ (j m : Nat) (sum : Int32) (mk : Int32), m + j = 8 → (sum = val_m T hf s m) → (mk = nI m) → lm_wp (d + 1) 174 4 [.ref b, .int (nI hf), .int sum, .int mk] [] (hi, hl, X) P := by
  intro j
  induction j with
  | zero =>
    intro m sum mk hm e1 e2
    refine w_N 2 7 [.ref b, .int (nI hf), .int sum, .int mk] [.int 8, .int mk] rfl ?_
    refine w_icmp_ge_t (t := 42) rfl rfl (by rw [e2, show m = 8 by omega]; decide) ?_
    obtain rfl : m = 8 := by omega
    rw [e1]
    exact k _
  | succ j ih =>
    intro m sum mk hm e1 e2
    refine w_N 2 7 [.ref b, .int (nI hf), .int sum, .int mk] [.int 8, .int mk] rfl ?_
    refine w_icmp_ge_f (t := 42) rfl rfl (by rw [e2]; exact nI_lt (b := 8) (by omega) (by decide)) ?_
    refine w_N 2 12 [.ref b, .int (nI hf), .int sum, .int mk] [.ref b, .int sum] rfl ?_
    refine w_gi (v := s_marks s) rfl rfl rfl (M_kd S) (HS.1) ?_
    refine w_N 1 16 [.ref b, .int (nI hf), .int sum, .int mk] [.int mk, .int (s_marks s), .int sum] rfl ?_
    refine w_cc rfl (by rw [e2]; exact m_has) ?_
    show lm_wp _ 174 19 [.ref b, .int (nI hf), .int sum, .int mk] [.int (bz (s_std (s_marks s) (nI m))), .int sum] (hi, hl, X) _
    refine w_zeq (t := 33) rfl rfl (fun c1 => ?_) (fun c1 => ?_)
    · refine w_N 5 4 [.ref b, .int (nI hf), .int (sum + 0), .int (mk + 1)] [] rfl ?_
      rw [std_marks (by omega)] at c1
      exact ih (m + 1) _ _ (by omega) (by simp [val_m, *]) (by rw [e2, nI_succ])
    · refine w_N 1 23 [.ref b, .int (nI hf), .int sum, .int mk] [.ref b, .int sum] rfl ?_
      refine w_gr (b + 30) rfl rfl rfl (M_kd S) (M_r S (k := 16) (o := 30) rfl) ?_
      refine w_N 1 27 [.ref b, .int (nI hf), .int sum, .int mk] [.int (nI hf), .ref (b + 30), .int sum] rfl ?_
      refine w_aa hf (b + (31 + hf)) rfl (M_kk S (o := 30) (by decide)) (show X.2.2.1 (b + 30) = 2 from M_l S 30 (by decide)) rfl (by omega) (by decide) (M_wor S (by omega)) ?_
      refine w_N 1 29 [.ref b, .int (nI hf), .int sum, .int mk] [.int mk, .ref (b + (31 + hf)), .int sum] rfl ?_
      refine w_ia m (v := T 7 (12 * hf + m)) rfl (M_wok S (by omega)) (M_wol S (by omega)) e2 (by omega) (by decide) (rTw H (by omega) (by omega)) ?_
      refine w_N 5 4 [.ref b, .int (nI hf), .int (sum + (T 7 (12 * hf + m))), .int (mk + 1)] [] rfl ?_
      rw [std_marks (by omega)] at c1
      exact ih (m + 1) _ _ (by omega) (by simp [val_m, *]) (by rw [e2, nI_succ])
theorem m_val2 {d : Nat} {hi : Nat → Nat → Int32} {hl : Nat → Nat → Int64} {X : lm_X} {b n : Nat} {T : lm_T} {s : Int32} (S : sh_M X b) (H : rT hi b T n) (HS : rS hi b s) {hf : Nat} (hh : hf < 2) {P : Option Value → lm_H → Prop} (k : ∀ mk : Int32, lm_wp (d + 1) 174 76 [.ref b, .int (nI hf), .int (val T hf s), .int mk] [] (hi, hl, X) P) : ∀ (j m : Nat) (sum : Int32) (mk : Int32), m + j = 4 → (sum = val_c T hf s m) → (mk = nI m) → lm_wp (d + 1) 174 44 [.ref b, .int (nI hf), .int sum, .int mk] [] (hi, hl, X) P := by
  intro j
  induction j with
  | zero =>
    intro m sum mk hm e1 e2
    refine w_N 2 46 [.ref b, .int (nI hf), .int sum, .int mk] [.int 4, .int mk] rfl ?_
    refine w_icmp_ge_t (t := 76) rfl rfl (by rw [e2, show m = 4 by omega]; decide) ?_
    obtain rfl : m = 4 := by omega
    rw [e1]
    exact k _
  | succ j ih =>
    intro m sum mk hm e1 e2
    refine w_N 2 46 [.ref b, .int (nI hf), .int sum, .int mk] [.int 4, .int mk] rfl ?_
    refine w_icmp_ge_f (t := 76) rfl rfl (by rw [e2]; exact nI_lt (b := 4) (by omega) (by decide)) ?_
    refine w_N 2 51 [.ref b, .int (nI hf), .int sum, .int mk] [.ref b, .int sum] rfl ?_
    refine w_gr (b + 29) rfl rfl rfl (M_kd S) (M_r S (k := 13) (o := 29) rfl) ?_
    refine w_N 1 55 [.ref b, .int (nI hf), .int sum, .int mk] [.int mk, .ref (b + 29), .int sum] rfl ?_
    refine w_ia m (v := s_count s (nI m)) rfl (show X.2.1 (b + 29) = 1 from M_k S 29 (by decide)) (show X.2.2.1 (b + 29) = 4 from M_l S 29 (by decide)) e2 (by omega) (by decide) (HS.2 m (by omega)) ?_
    refine w_N 1 57 [.ref b, .int (nI hf), .int sum, .int mk] [.ref b, .int (s_count s (nI m)), .int sum] rfl ?_
    refine w_gr (b + 30) rfl rfl rfl (M_kd S) (M_r S (k := 16) (o := 30) rfl) ?_
    refine w_N 1 61 [.ref b, .int (nI hf), .int sum, .int mk] [.int (nI hf), .ref (b + 30), .int (s_count s (nI m)), .int sum] rfl ?_
    refine w_aa hf (b + (31 + hf)) rfl (M_kk S (o := 30) (by decide)) (show X.2.2.1 (b + 30) = 2 from M_l S 30 (by decide)) rfl (by omega) (by decide) (M_wor S (by omega)) ?_
    refine w_N 3 66 [.ref b, .int (nI hf), .int sum, .int mk] [.int (8 + mk), .ref (b + (31 + hf)), .int (s_count s (nI m)), .int sum] rfl ?_
    refine w_ia (8 + m) (v := T 7 (12 * hf + (8 + m))) rfl (M_wok S (by omega)) (M_wol S (by omega)) (by rw [e2]; simp [nI]) (by omega) (by decide) (rTw H (by omega) (by omega)) ?_
    refine w_N 5 44 [.ref b, .int (nI hf), .int (sum + ((s_count s (nI m)) * (T 7 (12 * hf + (8 + m))))), .int (mk + 1)] [] rfl ?_
    exact ih (m + 1) _ _ (by omega) (by simp [val_c, e1, Nat.add_assoc]) (by rw [e2, nI_succ])
theorem m_valueOf {d : Nat} {hi : Nat → Nat → Int32} {hl : Nat → Nat → Int64} {X : lm_X} {b n : Nat} {T : lm_T} {s : Int32} (S : sh_M X b) (H : rT hi b T n) (HS : rS hi b s) {hf : Nat} (hh : hf < 2) : lm_c (d + 1) 174 [.ref b, .int (nI hf)] (hi, hl, X) (some (.int (val T hf s)), (hi, hl, X)) := by
  refine lm_c_of (lm_w_in (Nat.le_of_ble_eq_true rfl) ?_)
  show lm_wp (d + 1) 174 0 [.ref b, .int (nI hf), lm_jk, lm_jk] [] (hi, hl, X) _
  refine w_N 4 4 [.ref b, .int (nI hf), .int 0, .int 0] [] rfl ?_
  refine m_val1 S H HS hh (fun mk => ?_) 8 0 _ _ rfl rfl rfl
  refine w_N 2 44 [.ref b, .int (nI hf), .int (val_m T hf s 8), .int 0] [] rfl ?_
  refine m_val2 S H HS hh (fun mk => ?_) 4 0 _ _ rfl rfl rfl
  refine w_N 1 77 _ [.int (val T hf s)] rfl ?_
  exact w_ri rfl rfl rfl
theorem m_valueOfE {d : Nat} {hi : Nat → Nat → Int32} {hl : Nat → Nat → Int64} {X : lm_X} {b n : Nat} {T : lm_T} {s : Int32} (S : sh_M X b) (H : rT hi b T n) (HS : rS hi b s) {hf : Nat} {y : Int32} (hy : y = nI hf) (hh : hf < 2) : lm_c (d + 1) 174 [.ref b, .int y] (hi, hl, X) (some (.int (val T hf s)), (hi, hl, X)) := by
  subst hy; exact m_valueOf S H HS hh
/-! a state as one long -/
def mkN (s : Int32) : Nat := (s_marks s).toNatClampNeg
def ctN (s : Int32) (c : Nat) : Nat := (s_count s (nI c)).toNatClampNeg
theorem low_nI {x : Int32} {k : Nat} (hk : k < 31) (h : ∀ i, i < 32 → k ≤ i → bt x i = false) : x.toNatClampNeg < 2 ^ k ∧ x = nI x.toNatClampNeg := by
  have h1 : x.toBitVec.toNat < 2 ^ k := by
    apply Nat.lt_pow_two_of_testBit
    intro i hi
    rw [BitVec.testBit_toNat]
    by_cases h32 : i < 32
    · exact h i h32 hi
    · exact bt_big (by omega)
  have h2 : x = nI x.toBitVec.toNat := by
    apply Int32.toBitVec_inj.mp
    unfold nI
    rw [show ∀ v, (Int32.ofNat v).toBitVec = BitVec.ofNat 32 v from fun _ => rfl, BitVec.ofNat_toNat, BitVec.setWidth_eq]
  have h3 : x.toBitVec.toNat < 2147483648 := Nat.lt_of_lt_of_le h1 (Nat.le_trans (Nat.pow_le_pow_right (n := 2) (by decide) (show k ≤ 31 by omega)) (by decide))
  have h4 : x.toNatClampNeg = x.toBitVec.toNat := by
    conv => lhs; rw [h2]
    exact nI_nn h3
  rw [h4]
  exact ⟨h1, h2⟩
theorem mkN_e (s : Int32) : mkN s < 256 ∧ s_marks s = nI (mkN s) :=
  low_nI (k := 8) (by decide) (fun i hi h8 => by rw [bt_marks hi, decide_eq_false (by omega)]; rfl)
theorem ctN_e (s : Int32) {c : Nat} (hc : c < 4) : ctN s c < 32 ∧ s_count s (nI c) = nI (ctN s c) :=
  low_nI (k := 5) (by decide) (fun i hi h8 => by rw [bt_count hc hi, decide_eq_false (by omega)]; rfl)
def nL (n : Nat) : Int64 := Int64.ofNat n
theorem nL_ti {n : Nat} (h : n < 9223372036854775808) : (nL n).toInt = n := Int64.toInt_ofNat_of_lt (by omega)
theorem nI_L {n : Nat} (h : n < 2147483648) : (nI n).toInt64 = nL n := by
  apply Int64.toInt_inj.mp
  rw [Int32.toInt_toInt64, nI_ti h, nL_ti (by omega)]
theorem nL_I {n : Nat} (h : n < 2147483648) : (nL n).toInt32 = nI n := by
  apply Int32.toInt_inj.mp
  rw [Int64.toInt_toInt32, nL_ti (by omega), nI_ti h, Int.bmod_eq_of_le (by first | (simp; omega) | (simp; done) | omega) (by first | (simp; omega) | (simp; done) | omega)]
theorem nL_div {n k : Nat} (h : n < 9223372036854775808) (hk : k < 9223372036854775808) : nL n / nL k = nL (n / k) := by
  apply Int64.toInt_inj.mp
  have h1 : n / k ≤ n := Nat.div_le_self n k
  rw [Int64.toInt_div, nL_ti h, nL_ti hk, nL_ti (by omega)]
  have e : (n : Int).tdiv (k : Int) = ((n / k : Nat) : Int) := by
    rw [Int.tdiv_eq_ediv_of_nonneg (by omega)]
    exact (Int.natCast_ediv n k).symm
  rw [e]
  have hb : n / k < 9223372036854775808 := by omega
  generalize n / k = q at hb ⊢
  exact Int.bmod_eq_of_le (by first | (simp; omega) | (simp; done) | omega) (by first | (simp; omega) | (simp; done) | omega)
theorem nL_rem {n k : Nat} (h : n < 9223372036854775808) (hk : k < 9223372036854775808) : nL n - nL n / nL k * nL k = nL (n % k) := by
  rw [nL_div h hk, show nL (n / k) * nL k = nL (n / k * k) from (Int64.ofNat_mul _ _).symm]
  have e : nL n = nL (n % k) + nL (n / k * k) := by
    rw [show nL (n % k) + nL (n / k * k) = nL (n % k + n / k * k) from (Int64.ofNat_add _ _).symm]
    congr 1
    have := Nat.mod_add_div n k
    rw [Nat.mul_comm k] at this
    exact this.symm
  rw [e, Int64.add_sub_cancel]
def stN (s : Int32) : Nat → Nat
  | 0 => mkN s
  | c + 1 => stN s c * 32 + ctN s c
def stg (s : Int32) : Int64 := nL (stN s 4)
theorem stN_lt (s : Int32) : ∀ c, c ≤ 4 → stN s c < 256 * 32 ^ c := by
  intro c
  induction c with
  | zero => intro _; exact (mkN_e s).1
  | succ c ih =>
    intro hc
    have h1 := ih (by omega)
    have h2 := (ctN_e s (show c < 4 by omega)).1
    show stN s c * 32 + ctN s c < 256 * 32 ^ (c + 1)
    rw [Nat.pow_succ]
    omega
theorem stN_b (s : Int32) {c : Nat} (hc : c ≤ 4) : stN s c < 268435456 := by
  have h := stN_lt s c hc
  have h2 : 32 ^ c ≤ 32 ^ 4 := Nat.pow_le_pow_right (by decide) hc
  have h3 : (32 : Nat) ^ 4 = 1048576 := by decide
  omega
theorem m_std1 {d : Nat} {hi : Nat → Nat → Int32} {hl : Nat → Nat → Int64} {X : lm_X} {b : Nat} {s : Int32} (S : sh_M X b) (HS : rS hi b s) {P : Option Value → lm_H → Prop} (k : ∀ mk : Int32, lm_wp d 175 33 [.ref b, .long (stg s), lm_jk, .int mk] [] (hi, hl, X) P) : ∀ (j m : Nat) (v : Int64) (mk : Int32), m + j = 4 → (v = nL (stN s m)) → (mk = nI m) → lm_wp d 175 8 [.ref b, .long v, lm_jk, .int mk] [] (hi, hl, X) P := by
  intro j
  induction j with
  | zero =>
    intro m v mk hm e1 e2
    refine w_N 2 10 [.ref b, .long v, lm_jk, .int mk] [.int 4, .int mk] rfl ?_
    refine w_icmp_ge_t (t := 33) rfl rfl (by rw [e2, show m = 4 by omega]; decide) ?_
    obtain rfl : m = 4 := by omega
    rw [e1]
    exact k _
  | succ j ih =>
    intro m v mk hm e1 e2
    refine w_N 2 10 [.ref b, .long v, lm_jk, .int mk] [.int 4, .int mk] rfl ?_
    refine w_icmp_ge_f (t := 33) rfl rfl (by rw [e2]; exact nI_lt (b := 4) (by omega) (by decide)) ?_
    refine w_N 4 19 [.ref b, .long v, lm_jk, .int mk] [.ref b, .long (v * 32)] rfl ?_
    refine w_gr (b + 29) rfl rfl rfl (M_kd S) (M_r S (k := 13) (o := 29) rfl) ?_
    refine w_N 1 23 [.ref b, .long v, lm_jk, .int mk] [.int mk, .ref (b + 29), .long (v * 32)] rfl ?_
    refine w_ia m (v := s_count s (nI m)) rfl (show X.2.1 (b + 29) = 1 from M_k S 29 (by decide)) (show X.2.2.1 (b + 29) = 4 from M_l S 29 (by decide)) e2 (by omega) (by decide) (HS.2 m (by omega)) ?_
    refine w_N 5 8 [.ref b, .long ((v * 32) + ((s_count s (nI m)).toInt64)), lm_jk, .int (mk + 1)] [] rfl ?_
    refine ih (m + 1) _ _ (by omega) ?_ (by rw [e2, nI_succ])
    have q := ctN_e s (show m < 4 by omega)
    rw [e1, q.2, nI_L (by omega), show (32 : Int64) = nL 32 from rfl]
    show _ = nL (stN s m * 32 + ctN s m)
    rw [show nL (stN s m) * nL 32 = nL (stN s m * 32) from (Int64.ofNat_mul _ _).symm]
    exact (Int64.ofNat_add _ _).symm
theorem m_standing {d : Nat} {hi : Nat → Nat → Int32} {hl : Nat → Nat → Int64} {X : lm_X} {b : Nat} {s : Int32} (S : sh_M X b) (HS : rS hi b s) : lm_c d 175 [.ref b] (hi, hl, X) (some (.long (stg s)), (hi, hl, X)) := by
  refine lm_c_of (lm_w_in (Nat.le_of_ble_eq_true rfl) ?_)
  show lm_wp d 175 0 [.ref b, lm_jk, lm_jk, lm_jk] [] (hi, hl, X) _
  refine w_N 1 1 [.ref b, lm_jk, lm_jk, lm_jk] [.ref b] rfl ?_
  refine w_gi (v := s_marks s) rfl rfl rfl (M_kd S) (HS.1) ?_
  refine w_N 4 8 [.ref b, .long ((s_marks s).toInt64), lm_jk, .int 0] [] rfl ?_
  refine m_std1 S HS (fun mk => ?_) 4 0 _ _ rfl ?_ rfl
  · refine w_N 1 34 _ [.long (stg s)] rfl ?_
    exact w_rl rfl rfl rfl
  · rw [(mkN_e s).2, nI_L (by have := (mkN_e s).1; omega)]; rfl
theorem m_pb1 {d : Nat} {hi : Nat → Nat → Int32} {hl : Nat → Nat → Int64} {X : lm_X} {b : Nat} {s : Int32} {u : Int64} (S : sh_M X b) {P : Option Value → lm_H → Prop} (k : ∀ (mk : Int32) (hi' : Nat → Nat → Int32), hi' b = hi b → (∀ c, c < 4 → hi' (b + 29) c = s_count s (nI c)) → rX hi hi' b → lm_wp d 176 35 [.ref b, .long u, lm_jk, .long (nL (mkN s)), lm_jk, .int mk] [] (hi', hl, X) P) : ∀ (j m : Nat) (hi' : Nat → Nat → Int32) (v : Int64) (mk : Int32), m + j = 4 → (v = nL (stN s j)) → (mk = aI j) → (hi' b = hi b) → (∀ c, j ≤ c → c < 4 → hi' (b + 29) c = s_count s (nI c)) → (rX hi hi' b) → lm_wp d 176 5 [.ref b, .long u, lm_jk, .long v, lm_jk, .int mk] [] (hi', hl, X) P := by
  intro j
  induction j with
  | zero =>
    intro m hi' v mk hm e1 e2 e3 e4 e5
    refine w_N 1 7 [.ref b, .long u, lm_jk, .long v, lm_jk, .int mk] [.int mk] rfl ?_
    refine w_if_lt_t (t := 35) rfl rfl (by rw [e2]; decide) ?_
    rw [e1]
    exact k _ hi' e3 (fun c hc => e4 c (by omega) hc) e5
  | succ j ih =>
    intro m hi' v mk hm e1 e2 e3 e4 e5
    have q0 : ¬ mk < 0 := by rw [e2]; exact nI_pos (by omega)
    have e2a : mk = nI j := e2
    refine w_N 1 7 [.ref b, .long u, lm_jk, .long v, lm_jk, .int mk] [.int mk] rfl ?_
    refine w_if_lt_f (t := 35) rfl rfl q0 ?_
    refine w_N 1 11 [.ref b, .long u, lm_jk, .long v, lm_jk, .int mk] [.ref b] rfl ?_
    refine w_gr (b + 29) rfl rfl rfl (M_kd S) (M_r S (k := 13) (o := 29) rfl) ?_
    refine w_N 3 20 [.ref b, .long u, lm_jk, .long v, lm_jk, .int mk] [.long 32, .long v, .int mk, .ref (b + 29)] rfl ?_
    refine w_lrem rfl (by decide) ?_
    refine w_N 1 22 [.ref b, .long u, lm_jk, .long v, lm_jk, .int mk] [.int ((v - v / 32 * 32).toInt32), .int mk, .ref (b + 29)] rfl ?_
    refine w_is j rfl (show X.2.1 (b + 29) = 1 from M_k S 29 (by decide)) (Nat.le_trans (M_64 S) (Nat.le_add_right _ _)) (show X.2.2.1 (b + 29) = 4 from M_l S 29 (by decide)) e2a (by omega) (by decide) ?_
    refine w_N 2 27 [.ref b, .long u, lm_jk, .long v, lm_jk, .int mk] [.long 32, .long v] rfl ?_
    refine w_ldiv rfl (by decide) ?_
    refine w_N 3 5 [.ref b, .long u, lm_jk, .long (v / 32), lm_jk, .int (mk + (-1))] [] rfl ?_
    have qb := stN_b s (show j + 1 ≤ 4 by omega)
    have qc := ctN_e s (show j < 4 by omega)
    refine ih (m + 1) _ _ _ (by omega) ?_ ?_ ?_ ?_ ?_
    · rw [e1, show (32 : Int64) = nL 32 from rfl, nL_div (by omega) (by decide), show stN s (j + 1) = stN s j * 32 + ctN s j from rfl, show (stN s j * 32 + ctN s j) / 32 = stN s j by omega]
    · rw [e2a]; cases j with
      | zero => rfl
      | succ q => show nI (q + 1) + (-1) = nI q; rw [nI_succ, Int32.add_assoc, show (1 : Int32) + (-1) = 0 from rfl, Int32.add_zero]
    · rw [lm_up_rw (by omega)]; exact e3
    · intro c h1 h2
      by_cases hcj : c = j
      · subst hcj
        rw [lm_up_eq, e1, show (32 : Int64) = nL 32 from rfl, nL_rem (by omega) (by decide), show stN s (c + 1) = stN s c * 32 + ctN s c from rfl, show (stN s c * 32 + ctN s c) % 32 = ctN s c by omega, nL_I (by omega), qc.2]
      · rw [lm_up_nk hcj]; exact e4 c (by omega) h2
    · exact rX_c e5 (by omega)
theorem m_putBack {d : Nat} {hi : Nat → Nat → Int32} {hl : Nat → Nat → Int64} {X : lm_X} {b : Nat} {s : Int32} (S : sh_M X b) : lm_w d 176 [.ref b, .long (stg s)] (hi, hl, X) (fun v h1 => ∃ hi', v = none ∧ h1 = (hi', hl, X) ∧ rS hi' b s ∧ rX hi hi' b ∧ hi' b 14 = hi b 14) := by
  refine lm_w_in (Nat.le_of_ble_eq_true rfl) ?_
  show lm_wp d 176 0 [.ref b, .long (stg s), lm_jk, lm_jk, lm_jk, lm_jk] [] (hi, hl, X) _
  refine w_N 4 5 [.ref b, .long (stg s), lm_jk, .long (stg s), lm_jk, .int 3] [] rfl ?_
  refine m_pb1 (s := s) S (fun mk hi1 q1 q2 q3 => ?_) 4 0 hi _ _ rfl rfl rfl rfl (fun c h1 h2 => by omega) rX_rfl
  have qm := mkN_e s
  refine w_N 3 38 _ [.int (nL (mkN s)).toInt32, .ref b] rfl ?_
  refine w_pi rfl rfl rfl rfl (M_kd S) (M_64 S) ?_
  refine w_rv rfl rfl ?_
  refine ⟨_, rfl, rfl, ⟨?_, fun c hc => ?_⟩, rX_m q3 (by decide), ?_⟩
  · rw [lm_up_eq, nL_I (by omega)]; exact qm.2.symm
  · rw [lm_up_na (by omega)]; exact q2 c hc
  · rw [lm_up_nk (by decide), q1]
