theorem c_awkz {d : Nat} {hi : Nat → Nat → Int32} {hl : Nat → Nat → Int64} {X : lm_X} {s : Int32} {z : Nat} (hz : awk s = z) : lm_c d 34 [.int s] (hi, hl, X) (some (.int (nI z)), (hi, hl, X)) := by
  rw [← hz, ← awk_eq]
  exact c_X4_awakeIn
theorem t_isLocked {d : Nat} {hi : Nat → Nat → Int32} {hl : Nat → Nat → Int64} {X : lm_X} {b n : Nat} {T : lm_T} (S : sh_T X b) (H : isT hi b T n) {hf a : Nat} (ha : a < 10) : lm_c d 57 [.ref b, .int (nI hf), .int (nI a)] (hi, hl, X) (some (.int (bz (lkd (T 6 a) hf))), (hi, hl, X)) := by
  refine lm_c_of (lm_w_in (Nat.le_of_ble_eq_true rfl) ?_)
  show lm_wp d 57 0 [.ref b, .int (nI hf), .int (nI a)] [] (hi, hl, X) _
  refine w_N 1 1 [.ref b, .int (nI hf), .int (nI a)] [.ref b] rfl ?_
  refine w_gr (b + 7) rfl rfl rfl (T_kd S) (T_r6 S) ?_
  refine w_N 1 5 [.ref b, .int (nI hf), .int (nI a)] [.int (nI a), .ref (b + 7)] rfl ?_
  refine w_ia a (v := T 6 a) rfl (T_k6 S) (T_l6 S) rfl (by omega) (by decide) (isT6 H (by omega)) ?_
  refine w_N 4 10 [.ref b, .int (nI hf), .int (nI a)] [.int (((T 6 a) >>> ((nI hf) &&& 31)) &&& 1)] rfl ?_
  refine w_if_eq (t := 17) rfl rfl (fun c1 => ?_) (fun c1 => ?_)
  · refine w_N 1 18 [.ref b, .int (nI hf), .int (nI a)] [.int 0] rfl ?_
    refine w_rz rfl rfl (by decide) ?_
    simp [bz, lkd, *]
  · refine w_N 2 18 [.ref b, .int (nI hf), .int (nI a)] [.int 1] rfl ?_
    refine w_rz rfl rfl (by decide) ?_
    simp [bz, lkd, *]
theorem t_allows1 {d : Nat} {hi : Nat → Nat → Int32} {hl : Nat → Nat → Int64} {X : lm_X} {b n : Nat} {T : lm_T} (S : sh_T X b) (H : isT hi b T n) {hf a : Nat} {s : Int32} (ha : a < 10) : lm_c (d + 1) 60 [.ref b, .int (nI a), .int (nI hf), .int s] (hi, hl, X) (some (.int (bz (alw T (a + 1) hf s))), (hi, hl, X)) := by
  refine lm_c_of (lm_w_in (Nat.le_of_ble_eq_true rfl) ?_)
  show lm_wp (d + 1) 60 0 [.ref b, .int (nI a), .int (nI hf), .int s, lm_jk, lm_jk] [] (hi, hl, X) _
  have ha1 : ¬ nI a = -1 := fun z => by have := (aI_none (i := a + 1) (by omega)).mp z; omega
  refine w_N 2 2 [.ref b, .int (nI a), .int (nI hf), .int s, lm_jk, lm_jk] [.int (-1), .int (nI a)] rfl ?_
  refine w_icmp_ne_t (t := 7) rfl rfl ha1 ?_
  refine w_N 3 10 [.ref b, .int (nI a), .int (nI hf), .int s, lm_jk, lm_jk] [.int (nI a), .int (nI hf), .ref b] rfl ?_
  refine w_cc (w_vst rfl rfl rfl (Nat.le_of_ble_eq_true rfl) (Nat.le_of_ble_eq_true rfl) (T_kd S)) (t_isLocked S H ha) ?_
  show lm_wp _ 60 13 [.ref b, .int (nI a), .int (nI hf), .int s, lm_jk, lm_jk] [.int (bz (lkd (T 6 a) hf))] (hi, hl, X) _
  refine w_zne (t := 44) rfl rfl (fun c1 => ?_) (fun c1 => ?_)
  · refine w_N 1 45 [.ref b, .int (nI a), .int (nI hf), .int s, lm_jk, lm_jk] [.int 0] rfl ?_
    refine w_rz rfl rfl (by decide) ?_
    simp_all [bz, alw]
  · refine w_N 2 18 [.ref b, .int (nI a), .int (nI hf), .int s, lm_jk, lm_jk] [.ref b, .int s] rfl ?_
    refine w_gr (b + 5) rfl rfl rfl (T_kd S) (T_r4 S) ?_
    refine w_N 1 22 [.ref b, .int (nI a), .int (nI hf), .int s, lm_jk, lm_jk] [.int (nI a), .ref (b + 5), .int s] rfl ?_
    refine w_ia a (v := T 4 a) rfl (T_k4 S) (T_l4 S) rfl (by omega) (by decide) (isT4 H (by omega)) ?_
    refine w_N 2 25 [.ref b, .int (nI a), .int (nI hf), .int s, lm_jk, lm_jk] [.ref b, .int (s &&& (T 4 a))] rfl ?_
    refine w_gr (b + 5) rfl rfl rfl (T_kd S) (T_r4 S) ?_
    refine w_N 1 29 [.ref b, .int (nI a), .int (nI hf), .int s, lm_jk, lm_jk] [.int (nI a), .ref (b + 5), .int (s &&& (T 4 a))] rfl ?_
    refine w_ia a (v := T 4 a) rfl (T_k4 S) (T_l4 S) rfl (by omega) (by decide) (isT4 H (by omega)) ?_
    refine w_icmp_ne (t := 44) rfl rfl (fun c2 => ?_) (fun c2 => ?_)
    · refine w_N 1 45 [.ref b, .int (nI a), .int (nI hf), .int s, lm_jk, lm_jk] [.int 0] rfl ?_
      refine w_rz rfl rfl (by decide) ?_
      simp_all [bz, alw]
    · refine w_N 2 35 [.ref b, .int (nI a), .int (nI hf), .int s, lm_jk, lm_jk] [.ref b, .int s] rfl ?_
      refine w_gr (b + 6) rfl rfl rfl (T_kd S) (T_r5 S) ?_
      refine w_N 1 39 [.ref b, .int (nI a), .int (nI hf), .int s, lm_jk, lm_jk] [.int (nI a), .ref (b + 6), .int s] rfl ?_
      refine w_ia a (v := T 5 a) rfl (T_k5 S) (T_l5 S) rfl (by omega) (by decide) (isT5 H (by omega)) ?_
      refine w_N 1 41 [.ref b, .int (nI a), .int (nI hf), .int s, lm_jk, lm_jk] [.int (s &&& (T 5 a))] rfl ?_
      refine w_if_eq (t := 46) rfl rfl (fun c3 => ?_) (fun c3 => ?_)
      · refine w_N 2 48 [.ref b, .int (nI a), .int (nI hf), .int s, lm_jk, lm_jk] [.ref b, .int s] rfl ?_
        refine w_gr (b + 2) rfl rfl rfl (T_kd S) (T_r1 S) ?_
        refine w_N 1 52 [.ref b, .int (nI a), .int (nI hf), .int s, lm_jk, lm_jk] [.int (nI a), .ref (b + 2), .int s] rfl ?_
        refine w_ia a (v := T 1 a) rfl (T_k1 S) (T_l1 S) rfl (by omega) (by decide) (isT1 H (by omega)) ?_
        refine w_cc rfl c_X4_isStanding ?_
        show lm_wp _ 60 56 [.ref b, .int (nI a), .int (nI hf), .int s, lm_jk, lm_jk] [.int (bz (s_std s (T 1 a)))] (hi, hl, X) _
        refine w_N 3 60 [.ref b, .int (nI a), .int (nI hf), .int s, .int (bz (s_std s (T 1 a))), lm_jk] [.ref b, .int s] rfl ?_
        refine w_gr (b + 3) rfl rfl rfl (T_kd S) (T_r2 S) ?_
        refine w_N 1 64 [.ref b, .int (nI a), .int (nI hf), .int s, .int (bz (s_std s (T 1 a))), lm_jk] [.int (nI a), .ref (b + 3), .int s] rfl ?_
        refine w_ia a (v := T 2 a) rfl (T_k2 S) (T_l2 S) rfl (by omega) (by decide) (isT2 H (by omega)) ?_
        refine w_cc rfl c_X4_countIn ?_
        show lm_wp _ 60 68 [.ref b, .int (nI a), .int (nI hf), .int s, .int (bz (s_std s (T 1 a))), lm_jk] [.int (s_count s (T 2 a))] (hi, hl, X) _
        refine w_N 2 71 [.ref b, .int (nI a), .int (nI hf), .int s, .int (bz (s_std s (T 1 a))), .int (s_count s (T 2 a))] [.ref b] rfl ?_
        refine w_gr (b + 1) rfl rfl rfl (T_kd S) (T_r0 S) ?_
        refine w_N 1 75 [.ref b, .int (nI a), .int (nI hf), .int s, .int (bz (s_std s (T 1 a))), .int (s_count s (T 2 a))] [.int (nI a), .ref (b + 1)] rfl ?_
        refine w_ia a (v := T 0 a) rfl (T_k0 S) (T_l0 S) rfl (by omega) (by decide) (isT0 H (by omega)) ?_
        refine lm_by (x := T 0 a) 1 ?_ ?_
        · intro c4
          refine w_ts (t := 112) rfl (by decide) (by rw [c4]; rfl) ?_
          refine w_N 1 114 [.ref b, .int (nI a), .int (nI hf), .int s, .int (bz (s_std s (T 1 a))), .int (s_count s (T 2 a))] [.int (bz (s_std s (T 1 a)))] rfl ?_
          refine w_zne (t := 121) rfl rfl (fun c5 => ?_) (fun c5 => ?_)
          · refine w_N 1 122 [.ref b, .int (nI a), .int (nI hf), .int s, .int (bz (s_std s (T 1 a))), .int (s_count s (T 2 a))] [.int 0] rfl ?_
            refine w_rz rfl rfl (by decide) ?_
            simp_all [bz, alw]
          · refine w_N 2 122 [.ref b, .int (nI a), .int (nI hf), .int s, .int (bz (s_std s (T 1 a))), .int (s_count s (T 2 a))] [.int 1] rfl ?_
            refine w_rz rfl rfl (by decide) ?_
            simp_all [bz, alw]
        intro c4_0
        refine lm_by (x := T 0 a) 2 ?_ ?_
        · intro c4
          refine w_ts (t := 123) rfl (by decide) (by rw [c4]; rfl) ?_
          refine w_N 1 125 [.ref b, .int (nI a), .int (nI hf), .int s, .int (bz (s_std s (T 1 a))), .int (s_count s (T 2 a))] [.int (bz (s_std s (T 1 a)))] rfl ?_
          refine w_rz rfl rfl (bz_or _) ?_
          simp_all [bz, alw]
        intro c4_1
        refine lm_by (x := T 0 a) 3 ?_ ?_
        · intro c4
          refine w_ts (t := 173) rfl (by decide) (by rw [c4]; rfl) ?_
          refine w_N 1 174 [.ref b, .int (nI a), .int (nI hf), .int s, .int (bz (s_std s (T 1 a))), .int (s_count s (T 2 a))] [.int 1] rfl ?_
          refine w_rz rfl rfl (by decide) ?_
          simp_all [bz, alw]
        intro c4_2
        refine lm_by (x := T 0 a) 4 ?_ ?_
        · intro c4
          refine w_ts (t := 126) rfl (by decide) (by rw [c4]; rfl) ?_
          refine w_N 1 128 [.ref b, .int (nI a), .int (nI hf), .int s, .int (bz (s_std s (T 1 a))), .int (s_count s (T 2 a))] [.int (bz (s_std s (T 1 a)))] rfl ?_
          refine w_zne (t := 146) rfl rfl (fun c6 => ?_) (fun c6 => ?_)
          · refine w_N 1 147 [.ref b, .int (nI a), .int (nI hf), .int s, .int (bz (s_std s (T 1 a))), .int (s_count s (T 2 a))] [.int 0] rfl ?_
            refine w_rz rfl rfl (by decide) ?_
            simp_all [bz, alw]
          · refine w_N 2 134 [.ref b, .int (nI a), .int (nI hf), .int s, .int (bz (s_std s (T 1 a))), .int (s_count s (T 2 a))] [.ref b, .int (s_count s (T 2 a))] rfl ?_
            refine w_gr (b + 4) rfl rfl rfl (T_kd S) (T_r3 S) ?_
            refine w_N 1 138 [.ref b, .int (nI a), .int (nI hf), .int s, .int (bz (s_std s (T 1 a))), .int (s_count s (T 2 a))] [.int (nI a), .ref (b + 4), .int (s_count s (T 2 a))] rfl ?_
            refine w_ia a (v := T 3 a) rfl (T_k3 S) (T_l3 S) rfl (by omega) (by decide) (isT3 H (by omega)) ?_
            refine w_icmp_lt (t := 146) rfl rfl (fun c7 => ?_) (fun c7 => ?_)
            · refine w_N 1 147 [.ref b, .int (nI a), .int (nI hf), .int s, .int (bz (s_std s (T 1 a))), .int (s_count s (T 2 a))] [.int 0] rfl ?_
              refine w_rz rfl rfl (by decide) ?_
              simp_all [bz, alw]
            · refine w_N 2 147 [.ref b, .int (nI a), .int (nI hf), .int s, .int (bz (s_std s (T 1 a))), .int (s_count s (T 2 a))] [.int 1] rfl ?_
              refine w_rz rfl rfl (by decide) ?_
              simp_all [bz, alw]
        intro c4_3
        refine lm_by (x := T 0 a) 5 ?_ ?_
        · intro c4
          refine w_ts (t := 148) rfl (by decide) (by rw [c4]; rfl) ?_
          refine w_N 1 150 [.ref b, .int (nI a), .int (nI hf), .int s, .int (bz (s_std s (T 1 a))), .int (s_count s (T 2 a))] [.int (bz (s_std s (T 1 a)))] rfl ?_
          refine w_zeq (t := 171) rfl rfl (fun c8 => ?_) (fun c8 => ?_)
          · refine w_N 1 172 [.ref b, .int (nI a), .int (nI hf), .int s, .int (bz (s_std s (T 1 a))), .int (s_count s (T 2 a))] [.int 0] rfl ?_
            refine w_rz rfl rfl (by decide) ?_
            simp_all [bz, alw]
          · refine w_N 2 156 [.ref b, .int (nI a), .int (nI hf), .int s, .int (bz (s_std s (T 1 a))), .int (s_count s (T 2 a))] [.ref b, .int (s_count s (T 2 a))] rfl ?_
            refine w_gr (b + 4) rfl rfl rfl (T_kd S) (T_r3 S) ?_
            refine w_N 1 160 [.ref b, .int (nI a), .int (nI hf), .int s, .int (bz (s_std s (T 1 a))), .int (s_count s (T 2 a))] [.int (nI a), .ref (b + 4), .int (s_count s (T 2 a))] rfl ?_
            refine w_ia a (v := T 3 a) rfl (T_k3 S) (T_l3 S) rfl (by omega) (by decide) (isT3 H (by omega)) ?_
            refine w_N 2 164 [.ref b, .int (nI a), .int (nI hf), .int s, .int (bz (s_std s (T 1 a))), .int (s_count s (T 2 a))] [.int 23, .int ((s_count s (T 2 a)) + (T 3 a))] rfl ?_
            refine w_icmp_gt (t := 171) rfl rfl (fun c9 => ?_) (fun c9 => ?_)
            · refine w_N 1 172 [.ref b, .int (nI a), .int (nI hf), .int s, .int (bz (s_std s (T 1 a))), .int (s_count s (T 2 a))] [.int 0] rfl ?_
              refine w_rz rfl rfl (by decide) ?_
              simp_all [bz, alw]
            · refine w_N 2 172 [.ref b, .int (nI a), .int (nI hf), .int s, .int (bz (s_std s (T 1 a))), .int (s_count s (T 2 a))] [.int 1] rfl ?_
              refine w_rz rfl rfl (by decide) ?_
              simp_all [bz, alw]
        intro c4_4
        refine w_ts (t := 173) rfl (by decide) (congrArg (lm_tg _) (lm_sw_n c4_0 (lm_sw_n c4_1 (lm_sw_n c4_2 (lm_sw_n c4_3 (lm_sw_n c4_4 (lm_sw_0))))))) ?_
        refine w_N 1 174 [.ref b, .int (nI a), .int (nI hf), .int s, .int (bz (s_std s (T 1 a))), .int (s_count s (T 2 a))] [.int 1] rfl ?_
        refine w_rz rfl rfl (by decide) ?_
        simp_all [bz, alw]
      · refine w_N 1 45 [.ref b, .int (nI a), .int (nI hf), .int s, lm_jk, lm_jk] [.int 0] rfl ?_
        refine w_rz rfl rfl (by decide) ?_
        simp_all [bz, alw]
theorem t_allows0 {d : Nat} {hi : Nat → Nat → Int32} {hl : Nat → Nat → Int64} {X : lm_X} {b n : Nat} {T : lm_T} (S : sh_T X b) (H : isT hi b T n) {hf : Nat} {s : Int32} : lm_c (d + 1) 60 [.ref b, .int (-1), .int (nI hf), .int s] (hi, hl, X) (some (.int (bz (alw T 0 hf s))), (hi, hl, X)) := by
  refine lm_c_of (lm_w_in (Nat.le_of_ble_eq_true rfl) ?_)
  show lm_wp (d + 1) 60 0 [.ref b, .int (-1), .int (nI hf), .int s, lm_jk, lm_jk] [] (hi, hl, X) _
  refine w_N 2 2 [.ref b, .int (-1), .int (nI hf), .int s, lm_jk, lm_jk] [.int (-1), .int (-1)] rfl ?_
  refine w_icmp_ne_f (t := 7) rfl rfl (by decide) ?_
  refine w_N 1 6 [.ref b, .int (-1), .int (nI hf), .int s, lm_jk, lm_jk] [.int 1] rfl ?_
  refine w_rz rfl rfl (by decide) ?_
  rfl
theorem t_allows {d : Nat} {hi : Nat → Nat → Int32} {hl : Nat → Nat → Int64} {X : lm_X} {b n : Nat} {T : lm_T} (S : sh_T X b) (H : isT hi b T n) {i hf : Nat} {s : Int32} (hi10 : i ≤ 10) : lm_c (d + 1) 60 [.ref b, .int (aI i), .int (nI hf), .int s] (hi, hl, X) (some (.int (bz (alw T i hf s))), (hi, hl, X)) := by
  cases i with
  | zero => exact t_allows0 S H
  | succ a => exact t_allows1 S H (by omega)
theorem t_after1 {d : Nat} {hi : Nat → Nat → Int32} {hl : Nat → Nat → Int64} {X : lm_X} {b n : Nat} {T : lm_T} (S : sh_T X b) (H : isT hi b T n) {a : Nat} {s : Int32} (ha : a < 10) : lm_c (d + 1) 61 [.ref b, .int (nI a), .int s] (hi, hl, X) (some (.int (aft T (a + 1) s)), (hi, hl, X)) := by
  refine lm_c_of (lm_w_in (Nat.le_of_ble_eq_true rfl) ?_)
  show lm_wp (d + 1) 61 0 [.ref b, .int (nI a), .int s, lm_jk, lm_jk] [] (hi, hl, X) _
  have ha1 : ¬ nI a = -1 := fun z => by have := (aI_none (i := a + 1) (by omega)).mp z; omega
  refine w_N 2 2 [.ref b, .int (nI a), .int s, lm_jk, lm_jk] [.int (-1), .int (nI a)] rfl ?_
  refine w_icmp_ne_t (t := 7) rfl rfl ha1 ?_
  refine w_N 1 8 [.ref b, .int (nI a), .int s, lm_jk, lm_jk] [.ref b] rfl ?_
  refine w_gr (b + 3) rfl rfl rfl (T_kd S) (T_r2 S) ?_
  refine w_N 1 12 [.ref b, .int (nI a), .int s, lm_jk, lm_jk] [.int (nI a), .ref (b + 3)] rfl ?_
  refine w_ia a (v := T 2 a) rfl (T_k2 S) (T_l2 S) rfl (by omega) (by decide) (isT2 H (by omega)) ?_
  refine w_N 3 16 [.ref b, .int (nI a), .int s, .int (T 2 a), lm_jk] [.int (T 2 a), .int s] rfl ?_
  refine w_cc rfl c_X4_countIn ?_
  show lm_wp _ 61 19 [.ref b, .int (nI a), .int s, .int (T 2 a), lm_jk] [.int (s_count s (T 2 a))] (hi, hl, X) _
  refine w_N 2 22 [.ref b, .int (nI a), .int s, .int (T 2 a), .int (s_count s (T 2 a))] [.ref b] rfl ?_
  refine w_gr (b + 1) rfl rfl rfl (T_kd S) (T_r0 S) ?_
  refine w_N 1 26 [.ref b, .int (nI a), .int s, .int (T 2 a), .int (s_count s (T 2 a))] [.int (nI a), .ref (b + 1)] rfl ?_
  refine w_ia a (v := T 0 a) rfl (T_k0 S) (T_l0 S) rfl (by omega) (by decide) (isT0 H (by omega)) ?_
  refine lm_by (x := T 0 a) 1 ?_ ?_
  · intro c1
    refine w_ts (t := 60) rfl (by decide) (by rw [c1]; rfl) ?_
    refine w_N 2 62 [.ref b, .int (nI a), .int s, .int (T 2 a), .int (s_count s (T 2 a))] [.ref b, .int s] rfl ?_
    refine w_gr (b + 2) rfl rfl rfl (T_kd S) (T_r1 S) ?_
    refine w_N 1 66 [.ref b, .int (nI a), .int s, .int (T 2 a), .int (s_count s (T 2 a))] [.int (nI a), .ref (b + 2), .int s] rfl ?_
    refine w_ia a (v := T 1 a) rfl (T_k1 S) (T_l1 S) rfl (by omega) (by decide) (isT1 H (by omega)) ?_
    refine w_cc rfl c_X4_turned ?_
    show lm_wp _ 61 70 [.ref b, .int (nI a), .int s, .int (T 2 a), .int (s_count s (T 2 a))] [.int (s_turn s (T 1 a))] (hi, hl, X) _
    refine w_ri rfl rfl ?_
    simp [aft, *]
  intro c1_0
  refine lm_by (x := T 0 a) 2 ?_ ?_
  · intro c1
    refine w_ts (t := 60) rfl (by decide) (by rw [c1]; rfl) ?_
    refine w_N 2 62 [.ref b, .int (nI a), .int s, .int (T 2 a), .int (s_count s (T 2 a))] [.ref b, .int s] rfl ?_
    refine w_gr (b + 2) rfl rfl rfl (T_kd S) (T_r1 S) ?_
    refine w_N 1 66 [.ref b, .int (nI a), .int s, .int (T 2 a), .int (s_count s (T 2 a))] [.int (nI a), .ref (b + 2), .int s] rfl ?_
    refine w_ia a (v := T 1 a) rfl (T_k1 S) (T_l1 S) rfl (by omega) (by decide) (isT1 H (by omega)) ?_
    refine w_cc rfl c_X4_turned ?_
    show lm_wp _ 61 70 [.ref b, .int (nI a), .int s, .int (T 2 a), .int (s_count s (T 2 a))] [.int (s_turn s (T 1 a))] (hi, hl, X) _
    refine w_ri rfl rfl ?_
    simp [aft, *]
  intro c1_1
  refine lm_by (x := T 0 a) 3 ?_ ?_
  · intro c1
    refine w_ts (t := 60) rfl (by decide) (by rw [c1]; rfl) ?_
    refine w_N 2 62 [.ref b, .int (nI a), .int s, .int (T 2 a), .int (s_count s (T 2 a))] [.ref b, .int s] rfl ?_
    refine w_gr (b + 2) rfl rfl rfl (T_kd S) (T_r1 S) ?_
    refine w_N 1 66 [.ref b, .int (nI a), .int s, .int (T 2 a), .int (s_count s (T 2 a))] [.int (nI a), .ref (b + 2), .int s] rfl ?_
    refine w_ia a (v := T 1 a) rfl (T_k1 S) (T_l1 S) rfl (by omega) (by decide) (isT1 H (by omega)) ?_
    refine w_cc rfl c_X4_turned ?_
    show lm_wp _ 61 70 [.ref b, .int (nI a), .int s, .int (T 2 a), .int (s_count s (T 2 a))] [.int (s_turn s (T 1 a))] (hi, hl, X) _
    refine w_ri rfl rfl ?_
    simp [aft, *]
  intro c1_2
  refine lm_by (x := T 0 a) 4 ?_ ?_
  · intro c1
    refine w_ts (t := 71) rfl (by decide) (by rw [c1]; rfl) ?_
    refine w_N 2 73 [.ref b, .int (nI a), .int s, .int (T 2 a), .int (s_count s (T 2 a))] [.ref b, .int s] rfl ?_
    refine w_gr (b + 2) rfl rfl rfl (T_kd S) (T_r1 S) ?_
    refine w_N 1 77 [.ref b, .int (nI a), .int s, .int (T 2 a), .int (s_count s (T 2 a))] [.int (nI a), .ref (b + 2), .int s] rfl ?_
    refine w_ia a (v := T 1 a) rfl (T_k1 S) (T_l1 S) rfl (by omega) (by decide) (isT1 H (by omega)) ?_
    refine w_cc rfl c_X4_turned ?_
    show lm_wp _ 61 81 [.ref b, .int (nI a), .int s, .int (T 2 a), .int (s_count s (T 2 a))] [.int (s_turn s (T 1 a))] (hi, hl, X) _
    refine w_N 3 85 [.ref b, .int (nI a), .int s, .int (T 2 a), .int (s_count s (T 2 a))] [.ref b, .int (s_count s (T 2 a)), .int (T 2 a), .int (s_turn s (T 1 a))] rfl ?_
    refine w_gr (b + 4) rfl rfl rfl (T_kd S) (T_r3 S) ?_
    refine w_N 1 89 [.ref b, .int (nI a), .int s, .int (T 2 a), .int (s_count s (T 2 a))] [.int (nI a), .ref (b + 4), .int (s_count s (T 2 a)), .int (T 2 a), .int (s_turn s (T 1 a))] rfl ?_
    refine w_ia a (v := T 3 a) rfl (T_k3 S) (T_l3 S) rfl (by omega) (by decide) (isT3 H (by omega)) ?_
    refine w_N 1 91 [.ref b, .int (nI a), .int s, .int (T 2 a), .int (s_count s (T 2 a))] [.int ((s_count s (T 2 a)) - (T 3 a)), .int (T 2 a), .int (s_turn s (T 1 a))] rfl ?_
    refine w_cc rfl c_X4_withCount ?_
    show lm_wp _ 61 94 [.ref b, .int (nI a), .int s, .int (T 2 a), .int (s_count s (T 2 a))] [.int (s_with (s_turn s (T 1 a)) (T 2 a) ((s_count s (T 2 a)) - (T 3 a)))] (hi, hl, X) _
    refine w_ri rfl rfl ?_
    simp [aft, *]
  intro c1_3
  refine lm_by (x := T 0 a) 5 ?_ ?_
  · intro c1
    refine w_ts (t := 95) rfl (by decide) (by rw [c1]; rfl) ?_
    refine w_N 2 97 [.ref b, .int (nI a), .int s, .int (T 2 a), .int (s_count s (T 2 a))] [.ref b, .int s] rfl ?_
    refine w_gr (b + 2) rfl rfl rfl (T_kd S) (T_r1 S) ?_
    refine w_N 1 101 [.ref b, .int (nI a), .int s, .int (T 2 a), .int (s_count s (T 2 a))] [.int (nI a), .ref (b + 2), .int s] rfl ?_
    refine w_ia a (v := T 1 a) rfl (T_k1 S) (T_l1 S) rfl (by omega) (by decide) (isT1 H (by omega)) ?_
    refine w_cc rfl c_X4_turned ?_
    show lm_wp _ 61 105 [.ref b, .int (nI a), .int s, .int (T 2 a), .int (s_count s (T 2 a))] [.int (s_turn s (T 1 a))] (hi, hl, X) _
    refine w_N 3 109 [.ref b, .int (nI a), .int s, .int (T 2 a), .int (s_count s (T 2 a))] [.ref b, .int (s_count s (T 2 a)), .int (T 2 a), .int (s_turn s (T 1 a))] rfl ?_
    refine w_gr (b + 4) rfl rfl rfl (T_kd S) (T_r3 S) ?_
    refine w_N 1 113 [.ref b, .int (nI a), .int s, .int (T 2 a), .int (s_count s (T 2 a))] [.int (nI a), .ref (b + 4), .int (s_count s (T 2 a)), .int (T 2 a), .int (s_turn s (T 1 a))] rfl ?_
    refine w_ia a (v := T 3 a) rfl (T_k3 S) (T_l3 S) rfl (by omega) (by decide) (isT3 H (by omega)) ?_
    refine w_N 1 115 [.ref b, .int (nI a), .int s, .int (T 2 a), .int (s_count s (T 2 a))] [.int ((s_count s (T 2 a)) + (T 3 a)), .int (T 2 a), .int (s_turn s (T 1 a))] rfl ?_
    refine w_cc rfl c_X4_withCount ?_
    show lm_wp _ 61 118 [.ref b, .int (nI a), .int s, .int (T 2 a), .int (s_count s (T 2 a))] [.int (s_with (s_turn s (T 1 a)) (T 2 a) ((s_count s (T 2 a)) + (T 3 a)))] (hi, hl, X) _
    refine w_ri rfl rfl ?_
    simp [aft, *]
  intro c1_4
  refine w_ts (t := 119) rfl (by decide) (congrArg (lm_tg _) (lm_sw_n c1_0 (lm_sw_n c1_1 (lm_sw_n c1_2 (lm_sw_n c1_3 (lm_sw_n c1_4 (lm_sw_0))))))) ?_
  refine w_N 5 126 [.ref b, .int (nI a), .int s, .int (T 2 a), .int (s_count s (T 2 a))] [.ref b, .int (s_count s (T 2 a)), .int 23, .int (T 2 a), .int s] rfl ?_
  refine w_gr (b + 4) rfl rfl rfl (T_kd S) (T_r3 S) ?_
  refine w_N 1 130 [.ref b, .int (nI a), .int s, .int (T 2 a), .int (s_count s (T 2 a))] [.int (nI a), .ref (b + 4), .int (s_count s (T 2 a)), .int 23, .int (T 2 a), .int s] rfl ?_
  refine w_ia a (v := T 3 a) rfl (T_k3 S) (T_l3 S) rfl (by omega) (by decide) (isT3 H (by omega)) ?_
  refine w_N 2 135 [.ref b, .int (nI a), .int s, .int (T 2 a), .int (s_count s (T 2 a))] [.int (if (s_count s (T 2 a)) + (T 3 a) < 23 then (s_count s (T 2 a)) + (T 3 a) else 23), .int (T 2 a), .int s] rfl ?_
  refine w_cc rfl c_X4_withCount ?_
  show lm_wp _ 61 138 [.ref b, .int (nI a), .int s, .int (T 2 a), .int (s_count s (T 2 a))] [.int (s_with s (T 2 a) (if (s_count s (T 2 a)) + (T 3 a) < 23 then (s_count s (T 2 a)) + (T 3 a) else 23))] (hi, hl, X) _
  refine w_ri rfl rfl ?_
  simp [aft, *]
theorem t_after0 {d : Nat} {hi : Nat → Nat → Int32} {hl : Nat → Nat → Int64} {X : lm_X} {b n : Nat} {T : lm_T} (S : sh_T X b) (H : isT hi b T n) {s : Int32} : lm_c (d + 1) 61 [.ref b, .int (-1), .int s] (hi, hl, X) (some (.int (aft T 0 s)), (hi, hl, X)) := by
  refine lm_c_of (lm_w_in (Nat.le_of_ble_eq_true rfl) ?_)
  show lm_wp (d + 1) 61 0 [.ref b, .int (-1), .int s, lm_jk, lm_jk] [] (hi, hl, X) _
  refine w_N 2 2 [.ref b, .int (-1), .int s, lm_jk, lm_jk] [.int (-1), .int (-1)] rfl ?_
  refine w_icmp_ne_f (t := 7) rfl rfl (by decide) ?_
  refine w_N 1 6 [.ref b, .int (-1), .int s, lm_jk, lm_jk] [.int s] rfl ?_
  refine w_ri rfl rfl ?_
  rfl
theorem t_after {d : Nat} {hi : Nat → Nat → Int32} {hl : Nat → Nat → Int64} {X : lm_X} {b n : Nat} {T : lm_T} (S : sh_T X b) (H : isT hi b T n) {i : Nat} {s : Int32} (hi10 : i ≤ 10) : lm_c (d + 1) 61 [.ref b, .int (aI i), .int s] (hi, hl, X) (some (.int (aft T i s)), (hi, hl, X)) := by
  cases i with
  | zero => exact t_after0 S H
  | succ a => exact t_after1 S H (by omega)
theorem t_val1 {d : Nat} {hi : Nat → Nat → Int32} {hl : Nat → Nat → Int64} {X : lm_X} {b n : Nat} {T : lm_T} (S : sh_T X b) (H : isT hi b T n) {hf : Nat} {s : Int32} (hh : hf < 2) {P : Option Value → lm_H → Prop} (k : ∀ mk : Int32, lm_wp (d + 1) 62 47 [.ref b, .int (nI hf), .int s, .int (nI hf * 12), .int (val_m T hf s 8), .int mk] [] (hi, hl, X) P) : ∀ (j m : Nat) (sum : Int32) (mk : Int32), m + j = 8 → (sum = val_m T hf s m) → (mk = nI m) → lm_wp (d + 1) 62 11 [.ref b, .int (nI hf), .int s, .int (nI hf * 12), .int sum, .int mk] [] (hi, hl, X) P := by
  intro j
  induction j with
  | zero =>
    intro m sum mk hm e1 e2
    refine w_N 2 15 [.ref b, .int (nI hf), .int s, .int (nI hf * 12), .int sum, .int mk] [.int 8, .int mk] rfl ?_
    refine w_icmp_ge_t (t := 47) rfl rfl (by rw [e2, show m = 8 by omega]; decide) ?_
    obtain rfl : m = 8 := by omega
    rw [e1]
    exact k _
  | succ j ih =>
    intro m sum mk hm e1 e2
    refine w_N 2 15 [.ref b, .int (nI hf), .int s, .int (nI hf * 12), .int sum, .int mk] [.int 8, .int mk] rfl ?_
    refine w_icmp_ge_f (t := 47) rfl rfl (by rw [e2]; exact nI_lt (b := 8) (by omega) (by decide)) ?_
    refine w_N 2 21 [.ref b, .int (nI hf), .int s, .int (nI hf * 12), .int sum, .int mk] [.int mk, .int s] rfl ?_
    refine w_cc rfl (by rw [e2]; exact c_X4_isStanding) ?_
    show lm_wp _ 62 24 [.ref b, .int (nI hf), .int s, .int (nI hf * 12), .int sum, .int mk] [.int (bz (s_std s (nI m)))] (hi, hl, X) _
    refine w_zeq (t := 41) rfl rfl (fun c1 => ?_) (fun c1 => ?_)
    · refine w_N 2 11 [.ref b, .int (nI hf), .int s, .int (nI hf * 12), .int sum, .int (mk + 1)] [] rfl ?_
      exact ih (m + 1) _ _ (by omega) (by simp [val_m, *]) (by rw [e2, nI_succ])
    · refine w_N 2 30 [.ref b, .int (nI hf), .int s, .int (nI hf * 12), .int sum, .int mk] [.ref b, .int sum] rfl ?_
      refine w_gr (b + 8) rfl rfl rfl (T_kd S) (T_r7 S) ?_
      refine w_N 3 37 [.ref b, .int (nI hf), .int s, .int (nI hf * 12), .int sum, .int mk] [.int ((nI hf * 12) + mk), .ref (b + 8), .int sum] rfl ?_
      refine w_ia (12 * hf + m) (v := T 7 (12 * hf + m)) rfl (T_k7 S) (T_l7 S) (by rw [e2]; simp [nI, Nat.mul_comm]) (by omega) (by decide) (isT7 H (by omega)) ?_
      refine w_N 4 11 [.ref b, .int (nI hf), .int s, .int (nI hf * 12), .int (sum + (T 7 (12 * hf + m))), .int (mk + 1)] [] rfl ?_
      exact ih (m + 1) _ _ (by omega) (by simp [val_m, *]) (by rw [e2, nI_succ])
theorem t_val2 {d : Nat} {hi : Nat → Nat → Int32} {hl : Nat → Nat → Int64} {X : lm_X} {b n : Nat} {T : lm_T} (S : sh_T X b) (H : isT hi b T n) {hf : Nat} {s : Int32} (hh : hf < 2) {P : Option Value → lm_H → Prop} (k : ∀ mk : Int32, lm_wp (d + 1) 62 86 [.ref b, .int (nI hf), .int s, .int (nI hf * 12), .int (val T hf s), .int mk] [] (hi, hl, X) P) : ∀ (j m : Nat) (sum : Int32) (mk : Int32), m + j = 4 → (sum = val_c T hf s m) → (mk = nI m) → lm_wp (d + 1) 62 50 [.ref b, .int (nI hf), .int s, .int (nI hf * 12), .int sum, .int mk] [] (hi, hl, X) P := by
  intro j
  induction j with
  | zero =>
    intro m sum mk hm e1 e2
    refine w_N 2 53 [.ref b, .int (nI hf), .int s, .int (nI hf * 12), .int sum, .int mk] [.int 4, .int mk] rfl ?_
    refine w_icmp_ge_t (t := 86) rfl rfl (by rw [e2, show m = 4 by omega]; decide) ?_
    obtain rfl : m = 4 := by omega
    rw [e1]
    exact k _
  | succ j ih =>
    intro m sum mk hm e1 e2
    refine w_N 2 53 [.ref b, .int (nI hf), .int s, .int (nI hf * 12), .int sum, .int mk] [.int 4, .int mk] rfl ?_
    refine w_icmp_ge_f (t := 86) rfl rfl (by rw [e2]; exact nI_lt (b := 4) (by omega) (by decide)) ?_
    refine w_N 3 61 [.ref b, .int (nI hf), .int s, .int (nI hf * 12), .int sum, .int mk] [.int mk, .int s, .int sum] rfl ?_
    refine w_cc rfl (by rw [e2]; exact c_X4_countIn) ?_
    show lm_wp _ 62 64 [.ref b, .int (nI hf), .int s, .int (nI hf * 12), .int sum, .int mk] [.int (s_count s (nI m)), .int sum] (hi, hl, X) _
    refine w_N 1 65 [.ref b, .int (nI hf), .int s, .int (nI hf * 12), .int sum, .int mk] [.ref b, .int (s_count s (nI m)), .int sum] rfl ?_
    refine w_gr (b + 8) rfl rfl rfl (T_kd S) (T_r7 S) ?_
    refine w_N 5 75 [.ref b, .int (nI hf), .int s, .int (nI hf * 12), .int sum, .int mk] [.int (((nI hf * 12) + 8) + mk), .ref (b + 8), .int (s_count s (nI m)), .int sum] rfl ?_
    refine w_ia (12 * hf + 8 + m) (v := T 7 (12 * hf + 8 + m)) rfl (T_k7 S) (T_l7 S) (by rw [e2]; simp [nI, Nat.mul_comm]) (by omega) (by decide) (isT7 H (by omega)) ?_
    refine w_N 5 50 [.ref b, .int (nI hf), .int s, .int (nI hf * 12), .int (sum + ((s_count s (nI m)) * (T 7 (12 * hf + 8 + m)))), .int (mk + 1)] [] rfl ?_
    exact ih (m + 1) _ _ (by omega) (by simp [val_c, *]) (by rw [e2, nI_succ])
theorem t_valueTo {d : Nat} {hi : Nat → Nat → Int32} {hl : Nat → Nat → Int64} {X : lm_X} {b n : Nat} {T : lm_T} (S : sh_T X b) (H : isT hi b T n) {hf : Nat} {s : Int32} (hh : hf < 2) : lm_c (d + 1) 62 [.ref b, .int (nI hf), .int s] (hi, hl, X) (some (.int (val T hf s)), (hi, hl, X)) := by
  refine lm_c_of (lm_w_in (Nat.le_of_ble_eq_true rfl) ?_)
  show lm_wp (d + 1) 62 0 [.ref b, .int (nI hf), .int s, lm_jk, lm_jk, lm_jk] [] (hi, hl, X) _
  refine w_N 8 11 [.ref b, .int (nI hf), .int s, .int ((nI hf) * 12), .int 0, .int 0] [] rfl ?_
  refine t_val1 S H hh (fun mk => ?_) 8 0 _ _ rfl rfl rfl
  refine w_N 2 50 [.ref b, .int (nI hf), .int s, .int (nI hf * 12), .int (val_m T hf s 8), .int 0] [] rfl ?_
  refine t_val2 S H hh (fun mk => ?_) 4 0 _ _ rfl rfl rfl
  refine w_N 1 88 _ [.int (val T hf s)] rfl ?_
  exact w_ri rfl rfl rfl
theorem t_live0 {d : Nat} {hi : Nat → Nat → Int32} {hl : Nat → Nat → Int64} {X : lm_X} {b n : Nat} {T : lm_T} (S : sh_T X b) (H : isT hi b T n) {R : Nat → Int32} (HR : isR hi b R) {i : Nat} (hi10 : i ≤ 10) (hz : awk (R 10) = 0) : lm_w (d + 2) 63 [.ref b, .int (aI i)] (hi, hl, X) (fun v h1 => ∃ hi', v = none ∧ h1 = (hi', hl, X) ∧ isT hi' b T n ∧ isR hi' b (lvR T i R) ∧ hi' b 16 = hi b 16 ∧ fr b (b + 10) hi hi') := by
  refine lm_w_in (Nat.le_of_ble_eq_true rfl) ?_
  show lm_wp (d + 2) 63 0 [.ref b, .int (aI i), lm_jk] [] (hi, hl, X) _
  refine w_N 1 1 [.ref b, .int (aI i), lm_jk] [.ref b] rfl ?_
  refine w_gi (v := R 10) rfl rfl rfl (T_kd S) (HR.1) ?_
  refine w_cc rfl (c_awkz hz) ?_
  show lm_wp _ 63 7 [.ref b, .int (aI i), lm_jk] [.int 0] (hi, hl, X) _
  refine w_N 3 10 [.ref b, .int (aI i), .int 0] [.ref b, .ref b] rfl ?_
  refine w_gi (v := R 10) rfl rfl rfl (T_kd S) (HR.1) ?_
  refine w_pi rfl rfl rfl rfl (T_kd S) (T_64 S) ?_
  refine w_N 2 18 [.ref b, .int (aI i), .int 0] [.int 1, .ref b] rfl ?_
  refine w_pb rfl rfl rfl rfl (T_kd S) (T_64 S) (by decide) ?_
  refine w_N 4 25 [.ref b, .int (aI i), .int 0] [.ref b, .int (aI i), .ref b, .ref b] rfl ?_
  refine w_gi (v := R 10) rfl rfl rfl (T_kd S) ((lm_up_nk (by decide)).trans ((lm_up_nk (by decide)).trans (HR.1))) ?_
  refine w_cc (w_vst rfl rfl rfl (Nat.le_of_ble_eq_true rfl) (Nat.le_of_ble_eq_true rfl) (T_kd S)) (t_after S (isT_f (by decide) (isT_f (by decide) H)) hi10) ?_
  show lm_wp _ 63 31 [.ref b, .int (aI i), .int 0] [.int (aft T i (R 10)), .ref b] (lm_up (lm_up hi b 14 (R 10)) b 15 1, hl, X) _
  refine w_pi rfl rfl rfl rfl (T_kd S) (T_64 S) ?_
  refine w_N 1 35 [.ref b, .int (aI i), .int 0] [.ref b] rfl ?_
  refine w_gr (b + 9) rfl rfl rfl (T_kd S) (T_r8 S) ?_
  refine w_N 2 40 [.ref b, .int (aI i), .int 0] [.int 0, .ref (b + 9), .int 0, .ref (b + 9)] rfl ?_
  refine w_ia 0 (v := hi (b + 9) 0) rfl (T_k8 S) (T_l8 S) rfl (by decide) (by decide) ((lm_up_na (by omega)).trans ((lm_up_na (by omega)).trans ((lm_up_na (by omega)).trans (rfl)))) ?_
  refine w_N 3 44 [.ref b, .int (aI i), .int 0] [.ref b, .int 0, .ref b, .int (hi (b + 9) 0), .int 0, .ref (b + 9)] rfl ?_
  refine w_gi (v := aft T i (R 10)) rfl rfl rfl (T_kd S) (lm_up_eq) ?_
  refine w_cc (w_vst rfl rfl rfl (Nat.le_of_ble_eq_true rfl) (Nat.le_of_ble_eq_true rfl) (T_kd S)) (t_valueTo (hf := 0) S (isT_f (by decide) (isT_f (by decide) (isT_f (by decide) H))) (by decide)) ?_
  show lm_wp _ 63 50 [.ref b, .int (aI i), .int 0] [.int (val T 0 (aft T i (R 10))), .int (hi (b + 9) 0), .int 0, .ref (b + 9)] (lm_up (lm_up (lm_up hi b 14 (R 10)) b 15 1) b 10 (aft T i (R 10)), hl, X) _
  refine w_N 1 51 [.ref b, .int (aI i), .int 0] [.int ((hi (b + 9) 0) + (val T 0 (aft T i (R 10)))), .int 0, .ref (b + 9)] rfl ?_
  refine w_is 0 rfl (T_k8 S) (Nat.le_trans (T_64 S) (Nat.le_add_right _ _)) (T_l8 S) rfl (by decide) (by decide) ?_
  refine w_N 2 54 [.ref b, .int (aI i), .int 0] [.ref b, .ref b] rfl ?_
  refine w_gi (v := aft T i (R 10)) rfl rfl rfl (T_kd S) ((lm_up_na (by omega)).trans (lm_up_eq)) ?_
  refine w_cc rfl c_X4_nextDay ?_
  show lm_wp _ 63 60 [.ref b, .int (aI i), .int 0] [.int (s_next (aft T i (R 10))), .ref b] (lm_up (lm_up (lm_up (lm_up hi b 14 (R 10)) b 15 1) b 10 (aft T i (R 10))) (b + 9) 0 ((hi (b + 9) 0) + (val T 0 (aft T i (R 10)))), hl, X) _
  refine w_pi rfl rfl rfl rfl (T_kd S) (T_64 S) ?_
  refine w_N 2 65 [.ref b, .int (aI i), .int 0] [.ref b, .ref b] rfl ?_
  refine w_gi (v := R 12) rfl rfl rfl (T_kd S) ((lm_up_nk (by decide)).trans ((lm_up_na (by omega)).trans ((lm_up_nk (by decide)).trans ((lm_up_nk (by decide)).trans ((lm_up_nk (by decide)).trans (HR.2.2.1)))))) ?_
  refine w_N 2 70 [.ref b, .int (aI i), .int 0] [.int ((R 12) + 1), .ref b] rfl ?_
  refine w_pi rfl rfl rfl rfl (T_kd S) (T_64 S) ?_
  refine w_rv rfl rfl ?_
  obtain ⟨r0, r1, r2, r3, r4, r5, r6, r7⟩ := HR
  refine ⟨_, rfl, rfl, (isT_f (by decide) (isT_f (by decide) (isT_g (isT_f (by decide) (isT_f (by decide) (isT_f (by decide) H)))))), ?_, ?_, ?_⟩
  · refine ⟨?_, ?_, ?_, ?_, ?_, ?_, ?_, ?_⟩ <;> simp [lm_up, lvR, *]
  · simp [lm_up]
  · exact fr_up (fr_up (fr_up (fr_up (fr_up (fr_up (fr_rfl) (by omega)) (by omega)) (by omega)) (by omega)) (by omega)) (by omega)
theorem t_live1 {d : Nat} {hi : Nat → Nat → Int32} {hl : Nat → Nat → Int64} {X : lm_X} {b n : Nat} {T : lm_T} (S : sh_T X b) (H : isT hi b T n) {R : Nat → Int32} (HR : isR hi b R) {i : Nat} (hi10 : i ≤ 10) (hz : awk (R 10) = 1) : lm_w (d + 2) 63 [.ref b, .int (aI i)] (hi, hl, X) (fun v h1 => ∃ hi', v = none ∧ h1 = (hi', hl, X) ∧ isT hi' b T n ∧ isR hi' b (lvR T i R) ∧ hi' b 16 = hi b 16 ∧ fr b (b + 10) hi hi') := by
  refine lm_w_in (Nat.le_of_ble_eq_true rfl) ?_
  show lm_wp (d + 2) 63 0 [.ref b, .int (aI i), lm_jk] [] (hi, hl, X) _
  refine w_N 1 1 [.ref b, .int (aI i), lm_jk] [.ref b] rfl ?_
  refine w_gi (v := R 10) rfl rfl rfl (T_kd S) (HR.1) ?_
  refine w_cc rfl (c_awkz hz) ?_
  show lm_wp _ 63 7 [.ref b, .int (aI i), lm_jk] [.int 1] (hi, hl, X) _
  refine w_N 3 10 [.ref b, .int (aI i), .int 1] [.ref b, .ref b] rfl ?_
  refine w_gi (v := R 10) rfl rfl rfl (T_kd S) (HR.1) ?_
  refine w_pi rfl rfl rfl rfl (T_kd S) (T_64 S) ?_
  refine w_N 2 18 [.ref b, .int (aI i), .int 1] [.int 1, .ref b] rfl ?_
  refine w_pb rfl rfl rfl rfl (T_kd S) (T_64 S) (by decide) ?_
  refine w_N 4 25 [.ref b, .int (aI i), .int 1] [.ref b, .int (aI i), .ref b, .ref b] rfl ?_
  refine w_gi (v := R 10) rfl rfl rfl (T_kd S) ((lm_up_nk (by decide)).trans ((lm_up_nk (by decide)).trans (HR.1))) ?_
  refine w_cc (w_vst rfl rfl rfl (Nat.le_of_ble_eq_true rfl) (Nat.le_of_ble_eq_true rfl) (T_kd S)) (t_after S (isT_f (by decide) (isT_f (by decide) H)) hi10) ?_
  show lm_wp _ 63 31 [.ref b, .int (aI i), .int 1] [.int (aft T i (R 10)), .ref b] (lm_up (lm_up hi b 14 (R 10)) b 15 1, hl, X) _
  refine w_pi rfl rfl rfl rfl (T_kd S) (T_64 S) ?_
  refine w_N 1 35 [.ref b, .int (aI i), .int 1] [.ref b] rfl ?_
  refine w_gr (b + 9) rfl rfl rfl (T_kd S) (T_r8 S) ?_
  refine w_N 2 40 [.ref b, .int (aI i), .int 1] [.int 1, .ref (b + 9), .int 1, .ref (b + 9)] rfl ?_
  refine w_ia 1 (v := hi (b + 9) 1) rfl (T_k8 S) (T_l8 S) rfl (by decide) (by decide) ((lm_up_na (by omega)).trans ((lm_up_na (by omega)).trans ((lm_up_na (by omega)).trans (rfl)))) ?_
  refine w_N 3 44 [.ref b, .int (aI i), .int 1] [.ref b, .int 1, .ref b, .int (hi (b + 9) 1), .int 1, .ref (b + 9)] rfl ?_
  refine w_gi (v := aft T i (R 10)) rfl rfl rfl (T_kd S) (lm_up_eq) ?_
  refine w_cc (w_vst rfl rfl rfl (Nat.le_of_ble_eq_true rfl) (Nat.le_of_ble_eq_true rfl) (T_kd S)) (t_valueTo (hf := 1) S (isT_f (by decide) (isT_f (by decide) (isT_f (by decide) H))) (by decide)) ?_
  show lm_wp _ 63 50 [.ref b, .int (aI i), .int 1] [.int (val T 1 (aft T i (R 10))), .int (hi (b + 9) 1), .int 1, .ref (b + 9)] (lm_up (lm_up (lm_up hi b 14 (R 10)) b 15 1) b 10 (aft T i (R 10)), hl, X) _
  refine w_N 1 51 [.ref b, .int (aI i), .int 1] [.int ((hi (b + 9) 1) + (val T 1 (aft T i (R 10)))), .int 1, .ref (b + 9)] rfl ?_
  refine w_is 1 rfl (T_k8 S) (Nat.le_trans (T_64 S) (Nat.le_add_right _ _)) (T_l8 S) rfl (by decide) (by decide) ?_
  refine w_N 2 54 [.ref b, .int (aI i), .int 1] [.ref b, .ref b] rfl ?_
  refine w_gi (v := aft T i (R 10)) rfl rfl rfl (T_kd S) ((lm_up_na (by omega)).trans (lm_up_eq)) ?_
  refine w_cc rfl c_X4_nextDay ?_
  show lm_wp _ 63 60 [.ref b, .int (aI i), .int 1] [.int (s_next (aft T i (R 10))), .ref b] (lm_up (lm_up (lm_up (lm_up hi b 14 (R 10)) b 15 1) b 10 (aft T i (R 10))) (b + 9) 1 ((hi (b + 9) 1) + (val T 1 (aft T i (R 10)))), hl, X) _
  refine w_pi rfl rfl rfl rfl (T_kd S) (T_64 S) ?_
  refine w_N 2 65 [.ref b, .int (aI i), .int 1] [.ref b, .ref b] rfl ?_
  refine w_gi (v := R 12) rfl rfl rfl (T_kd S) ((lm_up_nk (by decide)).trans ((lm_up_na (by omega)).trans ((lm_up_nk (by decide)).trans ((lm_up_nk (by decide)).trans ((lm_up_nk (by decide)).trans (HR.2.2.1)))))) ?_
  refine w_N 2 70 [.ref b, .int (aI i), .int 1] [.int ((R 12) + 1), .ref b] rfl ?_
  refine w_pi rfl rfl rfl rfl (T_kd S) (T_64 S) ?_
  refine w_rv rfl rfl ?_
  obtain ⟨r0, r1, r2, r3, r4, r5, r6, r7⟩ := HR
  refine ⟨_, rfl, rfl, (isT_f (by decide) (isT_f (by decide) (isT_g (isT_f (by decide) (isT_f (by decide) (isT_f (by decide) H)))))), ?_, ?_, ?_⟩
  · refine ⟨?_, ?_, ?_, ?_, ?_, ?_, ?_, ?_⟩ <;> simp [lm_up, lvR, *]
  · simp [lm_up]
  · exact fr_up (fr_up (fr_up (fr_up (fr_up (fr_up (fr_rfl) (by omega)) (by omega)) (by omega)) (by omega)) (by omega)) (by omega)
theorem t_live {d : Nat} {hi : Nat → Nat → Int32} {hl : Nat → Nat → Int64} {X : lm_X} {b n : Nat} {T : lm_T} (S : sh_T X b) (H : isT hi b T n) {R : Nat → Int32} (HR : isR hi b R) {i : Nat} (hi10 : i ≤ 10) : lm_w (d + 2) 63 [.ref b, .int (aI i)] (hi, hl, X) (fun v h1 => ∃ hi', v = none ∧ h1 = (hi', hl, X) ∧ isT hi' b T n ∧ isR hi' b (lvR T i R) ∧ hi' b 16 = hi b 16 ∧ fr b (b + 10) hi hi') := by
  have h := awk_lt (R 10)
  rcases (by omega : awk (R 10) = 0 ∨ awk (R 10) = 1) with h | h
  · exact t_live0 S H HR hi10 h
  · exact t_live1 S H HR hi10 h
def adT (T : lm_T) (n : Nat) (x0 x1 x2 x3 x4 x5 : Int32) : lm_T := fun k a => if a = n ∧ k < 7 then (if k = 0 then x0 else if k = 1 then x1 else if k = 2 then x2 else if k = 3 then x3 else if k = 4 then x4 else if k = 5 then x5 else 0) else T k a
def lkS (l : Int32) (hf : Nat) (is : Bool) : Int32 := if is = true then l ||| (1 <<< (nI hf &&& 31)) else l &&& ((1 <<< (nI hf &&& 31)) ^^^ (-1))
def lkn (T : lm_T) : Nat → Int32
  | 0 => 0
  | a + 1 => if T 6 a = 0 then lkn T a else lkn T a + 1
def acs (s : Int32) : Nat → Int32
  | 0 => 0
  | c + 1 => acs s c + s_count s (nI c)
def lky (T : lm_T) (hf : Nat) (bef st sn : Int32) : Nat → Int32
  | 0 => 0
  | i + 1 => if alw T i hf bef = true ∧ s_next (aft T i bef) &&& sn = st &&& sn then lky T hf bef st sn i ||| (1 <<< ((if i = 0 then 10 else aI i) &&& 31)) else lky T hf bef st sn i
def drw (x : Int32) : Int32 := x * 1103515245 + 12345
def drm (x : Int32) : Int32 := let y := (x.toUInt32 >>> (Int32.toUInt32 16 &&& Int32.toUInt32 31)).toInt32; y - y / 8 * 8
theorem t_addAct {d : Nat} {hi : Nat → Nat → Int32} {hl : Nat → Nat → Int64} {X : lm_X} {b n : Nat} {T : lm_T} (S : sh_T X b) (H : isT hi b T n) {R : Nat → Int32} (HR : isR hi b R) {x0 x1 x2 x3 x4 x5 : Int32} (hn : n < 10) : lm_w d 55 [.ref b, .int x0, .int x1, .int x2, .int x3, .int x4, .int x5] (hi, hl, X) (fun v h1 => ∃ hi', v = some (.int (nI n)) ∧ h1 = (hi', hl, X) ∧ isT hi' b (adT T n x0 x1 x2 x3 x4 x5) (n + 1) ∧ isR hi' b R ∧ hi' b 16 = hi b 16 + 1 ∧ fr b (b + 10) hi hi') := by
  refine lm_w_in (Nat.le_of_ble_eq_true rfl) ?_
  show lm_wp d 55 0 [.ref b, .int x0, .int x1, .int x2, .int x3, .int x4, .int x5, lm_jk] [] (hi, hl, X) _
  refine w_N 1 1 [.ref b, .int x0, .int x1, .int x2, .int x3, .int x4, .int x5, lm_jk] [.ref b] rfl ?_
  refine w_gi (v := nI n) rfl rfl rfl (T_kd S) (isTn H) ?_
  refine w_N 2 7 [.ref b, .int x0, .int x1, .int x2, .int x3, .int x4, .int x5, .int (nI n)] [.ref b] rfl ?_
  refine w_gr (b + 1) rfl rfl rfl (T_kd S) (T_r0 S) ?_
  refine w_N 2 13 [.ref b, .int x0, .int x1, .int x2, .int x3, .int x4, .int x5, .int (nI n)] [.int x0, .int (nI n), .ref (b + 1)] rfl ?_
  refine w_is n rfl (T_k0 S) (Nat.le_trans (T_64 S) (Nat.le_add_right _ _)) (T_l0 S) rfl (by omega) (by decide) ?_
  refine w_N 1 15 [.ref b, .int x0, .int x1, .int x2, .int x3, .int x4, .int x5, .int (nI n)] [.ref b] rfl ?_
  refine w_gr (b + 2) rfl rfl rfl (T_kd S) (T_r1 S) ?_
  refine w_N 2 21 [.ref b, .int x0, .int x1, .int x2, .int x3, .int x4, .int x5, .int (nI n)] [.int x1, .int (nI n), .ref (b + 2)] rfl ?_
  refine w_is n rfl (T_k1 S) (Nat.le_trans (T_64 S) (Nat.le_add_right _ _)) (T_l1 S) rfl (by omega) (by decide) ?_
  refine w_N 1 23 [.ref b, .int x0, .int x1, .int x2, .int x3, .int x4, .int x5, .int (nI n)] [.ref b] rfl ?_
  refine w_gr (b + 3) rfl rfl rfl (T_kd S) (T_r2 S) ?_
  refine w_N 2 29 [.ref b, .int x0, .int x1, .int x2, .int x3, .int x4, .int x5, .int (nI n)] [.int x2, .int (nI n), .ref (b + 3)] rfl ?_
  refine w_is n rfl (T_k2 S) (Nat.le_trans (T_64 S) (Nat.le_add_right _ _)) (T_l2 S) rfl (by omega) (by decide) ?_
  refine w_N 1 31 [.ref b, .int x0, .int x1, .int x2, .int x3, .int x4, .int x5, .int (nI n)] [.ref b] rfl ?_
  refine w_gr (b + 4) rfl rfl rfl (T_kd S) (T_r3 S) ?_
  refine w_N 2 38 [.ref b, .int x0, .int x1, .int x2, .int x3, .int x4, .int x5, .int (nI n)] [.int x3, .int (nI n), .ref (b + 4)] rfl ?_
  refine w_is n rfl (T_k3 S) (Nat.le_trans (T_64 S) (Nat.le_add_right _ _)) (T_l3 S) rfl (by omega) (by decide) ?_
  refine w_N 1 40 [.ref b, .int x0, .int x1, .int x2, .int x3, .int x4, .int x5, .int (nI n)] [.ref b] rfl ?_
  refine w_gr (b + 5) rfl rfl rfl (T_kd S) (T_r4 S) ?_
  refine w_N 2 47 [.ref b, .int x0, .int x1, .int x2, .int x3, .int x4, .int x5, .int (nI n)] [.int x4, .int (nI n), .ref (b + 5)] rfl ?_
  refine w_is n rfl (T_k4 S) (Nat.le_trans (T_64 S) (Nat.le_add_right _ _)) (T_l4 S) rfl (by omega) (by decide) ?_
  refine w_N 1 49 [.ref b, .int x0, .int x1, .int x2, .int x3, .int x4, .int x5, .int (nI n)] [.ref b] rfl ?_
  refine w_gr (b + 6) rfl rfl rfl (T_kd S) (T_r5 S) ?_
  refine w_N 2 56 [.ref b, .int x0, .int x1, .int x2, .int x3, .int x4, .int x5, .int (nI n)] [.int x5, .int (nI n), .ref (b + 6)] rfl ?_
  refine w_is n rfl (T_k5 S) (Nat.le_trans (T_64 S) (Nat.le_add_right _ _)) (T_l5 S) rfl (by omega) (by decide) ?_
  refine w_N 1 58 [.ref b, .int x0, .int x1, .int x2, .int x3, .int x4, .int x5, .int (nI n)] [.ref b] rfl ?_
  refine w_gr (b + 7) rfl rfl rfl (T_kd S) (T_r6 S) ?_
  refine w_N 2 64 [.ref b, .int x0, .int x1, .int x2, .int x3, .int x4, .int x5, .int (nI n)] [.int 0, .int (nI n), .ref (b + 7)] rfl ?_
  refine w_is n rfl (T_k6 S) (Nat.le_trans (T_64 S) (Nat.le_add_right _ _)) (T_l6 S) rfl (by omega) (by decide) ?_
  refine w_N 2 67 [.ref b, .int x0, .int x1, .int x2, .int x3, .int x4, .int x5, .int (nI n)] [.ref b, .ref b] rfl ?_
  refine w_gi (v := nI n) rfl rfl rfl (T_kd S) ((lm_up_na (by omega)).trans ((lm_up_na (by omega)).trans ((lm_up_na (by omega)).trans ((lm_up_na (by omega)).trans ((lm_up_na (by omega)).trans ((lm_up_na (by omega)).trans ((lm_up_na (by omega)).trans (isTn H)))))))) ?_
  refine w_N 2 72 [.ref b, .int x0, .int x1, .int x2, .int x3, .int x4, .int x5, .int (nI n)] [.int ((nI n) + 1), .ref b] rfl ?_
  refine w_pi rfl rfl rfl rfl (T_kd S) (T_64 S) ?_
  refine w_N 2 77 [.ref b, .int x0, .int x1, .int x2, .int x3, .int x4, .int x5, .int (nI n)] [.ref b, .ref b] rfl ?_
  refine w_gi (v := hi b 16) rfl rfl rfl (T_kd S) ((lm_up_nk (by decide)).trans ((lm_up_na (by omega)).trans ((lm_up_na (by omega)).trans ((lm_up_na (by omega)).trans ((lm_up_na (by omega)).trans ((lm_up_na (by omega)).trans ((lm_up_na (by omega)).trans ((lm_up_na (by omega)).trans (rfl))))))))) ?_
  refine w_N 2 82 [.ref b, .int x0, .int x1, .int x2, .int x3, .int x4, .int x5, .int (nI n)] [.int ((hi b 16) + 1), .ref b] rfl ?_
  refine w_pi rfl rfl rfl rfl (T_kd S) (T_64 S) ?_
  refine w_N 1 87 [.ref b, .int x0, .int x1, .int x2, .int x3, .int x4, .int x5, .int (nI n)] [.int (nI n)] rfl ?_
  refine w_ri rfl rfl ?_
  obtain ⟨r0, r1, r2, r3, r4, r5, r6, r7⟩ := HR
  refine ⟨_, rfl, rfl, ⟨fun k hk a ha => ?_, fun a ha => ?_, ?_, by omega⟩, ?_, ?_, ?_⟩
  · have q := H.1 k hk a ha
    revert q
    rcases (by omega : k = 0 ∨ k = 1 ∨ k = 2 ∨ k = 3 ∨ k = 4 ∨ k = 5 ∨ k = 6) with rfl | rfl | rfl | rfl | rfl | rfl | rfl <;> intro q <;> simp [lm_up, adT] <;> split <;> simp_all
  · have q := H.2.1 a ha
    simp [lm_up, adT, q]
  · simp [lm_up, nI_succ]
  · refine ⟨?_, ?_, ?_, ?_, ?_, ?_, ?_, ?_⟩ <;> simp [lm_up, *]
  · simp [lm_up]
  · exact fr_up (fr_up (fr_up (fr_up (fr_up (fr_up (fr_up (fr_up (fr_up (fr_rfl) (by omega)) (by omega)) (by omega)) (by omega)) (by omega)) (by omega)) (by omega)) (by omega)) (by omega)
theorem t_setLocked {d : Nat} {hi : Nat → Nat → Int32} {hl : Nat → Nat → Int64} {X : lm_X} {b n : Nat} {T : lm_T} (S : sh_T X b) (H : isT hi b T n) {R : Nat → Int32} (HR : isR hi b R) {hf a : Nat} {is : Bool} (ha : a < 10) : lm_w d 58 [.ref b, .int (nI hf), .int (nI a), .int (bz is)] (hi, hl, X) (fun v h1 => ∃ hi', v = none ∧ h1 = (hi', hl, X) ∧ isT hi' b (lm_up T 6 a (lkS (T 6 a) hf is)) n ∧ isR hi' b R ∧ hi' b 16 = hi b 16 + 1 ∧ fr b (b + 10) hi hi') := by
  refine lm_w_in (Nat.le_of_ble_eq_true rfl) ?_
  show lm_wp d 58 0 [.ref b, .int (nI hf), .int (nI a), .int (bz is), lm_jk] [] (hi, hl, X) _
  refine w_N 5 6 [.ref b, .int (nI hf), .int (nI a), .int (bz is), .int (1 <<< ((nI hf) &&& 31))] [.ref b] rfl ?_
  refine w_gr (b + 7) rfl rfl rfl (T_kd S) (T_r6 S) ?_
  refine w_N 2 11 [.ref b, .int (nI hf), .int (nI a), .int (bz is), .int (1 <<< ((nI hf) &&& 31))] [.int (bz is), .int (nI a), .ref (b + 7)] rfl ?_
  refine w_zeq (t := 26) rfl rfl (fun c1 => ?_) (fun c1 => ?_)
  · refine w_N 1 27 [.ref b, .int (nI hf), .int (nI a), .int (bz is), .int (1 <<< ((nI hf) &&& 31))] [.ref b, .int (nI a), .ref (b + 7)] rfl ?_
    refine w_gr (b + 7) rfl rfl rfl (T_kd S) (T_r6 S) ?_
    refine w_N 1 31 [.ref b, .int (nI hf), .int (nI a), .int (bz is), .int (1 <<< ((nI hf) &&& 31))] [.int (nI a), .ref (b + 7), .int (nI a), .ref (b + 7)] rfl ?_
    refine w_ia a (v := T 6 a) rfl (T_k6 S) (T_l6 S) rfl (by omega) (by decide) (isT6 H (by omega)) ?_
    refine w_N 4 37 [.ref b, .int (nI hf), .int (nI a), .int (bz is), .int (1 <<< ((nI hf) &&& 31))] [.int ((T 6 a) &&& ((1 <<< ((nI hf) &&& 31)) ^^^ (-1))), .int (nI a), .ref (b + 7)] rfl ?_
    refine w_is a rfl (T_k6 S) (Nat.le_trans (T_64 S) (Nat.le_add_right _ _)) (T_l6 S) rfl (by omega) (by decide) ?_
    refine w_N 2 40 [.ref b, .int (nI hf), .int (nI a), .int (bz is), .int (1 <<< ((nI hf) &&& 31))] [.ref b, .ref b] rfl ?_
    refine w_gi (v := hi b 16) rfl rfl rfl (T_kd S) ((lm_up_na (by omega)).trans (rfl)) ?_
    refine w_N 2 45 [.ref b, .int (nI hf), .int (nI a), .int (bz is), .int (1 <<< ((nI hf) &&& 31))] [.int ((hi b 16) + 1), .ref b] rfl ?_
    refine w_pi rfl rfl rfl rfl (T_kd S) (T_64 S) ?_
    refine w_rv rfl rfl ?_
    obtain ⟨r0, r1, r2, r3, r4, r5, r6, r7⟩ := HR
    refine ⟨_, rfl, rfl, ⟨fun k hk e he => ?_, fun e he => ?_, ?_, H.2.2.2⟩, ?_, ?_, ?_⟩
    · have q := H.1 k hk e he
      revert q
      rcases (by omega : k = 0 ∨ k = 1 ∨ k = 2 ∨ k = 3 ∨ k = 4 ∨ k = 5 ∨ k = 6) with rfl | rfl | rfl | rfl | rfl | rfl | rfl <;> intro q <;> simp [lm_up, lkS, *] <;> try (split <;> simp_all)
    · have q := H.2.1 e he
      simp [lm_up, q]
    · simp [lm_up, isTn H]
    · refine ⟨?_, ?_, ?_, ?_, ?_, ?_, ?_, ?_⟩ <;> simp [lm_up, *]
    · simp [lm_up]
    · exact fr_up (fr_up (fr_rfl) (by omega)) (by omega)
  · refine w_N 1 15 [.ref b, .int (nI hf), .int (nI a), .int (bz is), .int (1 <<< ((nI hf) &&& 31))] [.ref b, .int (nI a), .ref (b + 7)] rfl ?_
    refine w_gr (b + 7) rfl rfl rfl (T_kd S) (T_r6 S) ?_
    refine w_N 1 19 [.ref b, .int (nI hf), .int (nI a), .int (bz is), .int (1 <<< ((nI hf) &&& 31))] [.int (nI a), .ref (b + 7), .int (nI a), .ref (b + 7)] rfl ?_
    refine w_ia a (v := T 6 a) rfl (T_k6 S) (T_l6 S) rfl (by omega) (by decide) (isT6 H (by omega)) ?_
    refine w_N 3 37 [.ref b, .int (nI hf), .int (nI a), .int (bz is), .int (1 <<< ((nI hf) &&& 31))] [.int ((T 6 a) ||| (1 <<< ((nI hf) &&& 31))), .int (nI a), .ref (b + 7)] rfl ?_
    refine w_is a rfl (T_k6 S) (Nat.le_trans (T_64 S) (Nat.le_add_right _ _)) (T_l6 S) rfl (by omega) (by decide) ?_
    refine w_N 2 40 [.ref b, .int (nI hf), .int (nI a), .int (bz is), .int (1 <<< ((nI hf) &&& 31))] [.ref b, .ref b] rfl ?_
    refine w_gi (v := hi b 16) rfl rfl rfl (T_kd S) ((lm_up_na (by omega)).trans (rfl)) ?_
    refine w_N 2 45 [.ref b, .int (nI hf), .int (nI a), .int (bz is), .int (1 <<< ((nI hf) &&& 31))] [.int ((hi b 16) + 1), .ref b] rfl ?_
    refine w_pi rfl rfl rfl rfl (T_kd S) (T_64 S) ?_
    refine w_rv rfl rfl ?_
    obtain ⟨r0, r1, r2, r3, r4, r5, r6, r7⟩ := HR
    refine ⟨_, rfl, rfl, ⟨fun k hk e he => ?_, fun e he => ?_, ?_, H.2.2.2⟩, ?_, ?_, ?_⟩
    · have q := H.1 k hk e he
      revert q
      rcases (by omega : k = 0 ∨ k = 1 ∨ k = 2 ∨ k = 3 ∨ k = 4 ∨ k = 5 ∨ k = 6) with rfl | rfl | rfl | rfl | rfl | rfl | rfl <;> intro q <;> simp [lm_up, lkS, *] <;> try (split <;> simp_all)
    · have q := H.2.1 e he
      simp [lm_up, q]
    · simp [lm_up, isTn H]
    · refine ⟨?_, ?_, ?_, ?_, ?_, ?_, ?_, ?_⟩ <;> simp [lm_up, *]
    · simp [lm_up]
    · exact fr_up (fr_up (fr_rfl) (by omega)) (by omega)
theorem t_setWorth {d : Nat} {hi : Nat → Nat → Int32} {hl : Nat → Nat → Int64} {X : lm_X} {b n : Nat} {T : lm_T} (S : sh_T X b) (H : isT hi b T n) {R : Nat → Int32} (HR : isR hi b R) {hf w : Nat} {x : Int32} (ha : hf < 2) (hw : w < 12) : lm_w d 56 [.ref b, .int (nI hf), .int (nI w), .int x] (hi, hl, X) (fun v h1 => ∃ hi', v = none ∧ h1 = (hi', hl, X) ∧ isT hi' b (lm_up T 7 (12 * hf + w) x) n ∧ isR hi' b R ∧ hi' b 16 = hi b 16 + 1 ∧ fr b (b + 10) hi hi') := by
  refine lm_w_in (Nat.le_of_ble_eq_true rfl) ?_
  show lm_wp d 56 0 [.ref b, .int (nI hf), .int (nI w), .int x] [] (hi, hl, X) _
  refine w_N 1 1 [.ref b, .int (nI hf), .int (nI w), .int x] [.ref b] rfl ?_
  refine w_gr (b + 8) rfl rfl rfl (T_kd S) (T_r7 S) ?_
  refine w_N 6 11 [.ref b, .int (nI hf), .int (nI w), .int x] [.int x, .int (((nI hf) * 12) + (nI w)), .ref (b + 8)] rfl ?_
  refine w_is (12 * hf + w) rfl (T_k7 S) (Nat.le_trans (T_64 S) (Nat.le_add_right _ _)) (T_l7 S) (by simp [nI, Nat.mul_comm]) (by omega) (by decide) ?_
  refine w_N 2 14 [.ref b, .int (nI hf), .int (nI w), .int x] [.ref b, .ref b] rfl ?_
  refine w_gi (v := hi b 16) rfl rfl rfl (T_kd S) ((lm_up_na (by omega)).trans (rfl)) ?_
  refine w_N 2 19 [.ref b, .int (nI hf), .int (nI w), .int x] [.int ((hi b 16) + 1), .ref b] rfl ?_
  refine w_pi rfl rfl rfl rfl (T_kd S) (T_64 S) ?_
  refine w_rv rfl rfl ?_
  obtain ⟨r0, r1, r2, r3, r4, r5, r6, r7⟩ := HR
  refine ⟨_, rfl, rfl, ⟨fun k hk e he => ?_, fun e he => ?_, ?_, H.2.2.2⟩, ?_, ?_, ?_⟩
  · have q := H.1 k hk e he
    revert q
    rcases (by omega : k = 0 ∨ k = 1 ∨ k = 2 ∨ k = 3 ∨ k = 4 ∨ k = 5 ∨ k = 6) with rfl | rfl | rfl | rfl | rfl | rfl | rfl <;> intro q <;> simp [lm_up, *]
  · have q := H.2.1 e he
    simp [lm_up, q]
  · simp [lm_up, isTn H]
  · refine ⟨?_, ?_, ?_, ?_, ?_, ?_, ?_, ?_⟩ <;> simp [lm_up, *]
  · simp [lm_up]
  · exact fr_up (fr_up (fr_rfl) (by omega)) (by omega)
theorem t_drawMark {d : Nat} {hi : Nat → Nat → Int32} {hl : Nat → Nat → Int64} {X : lm_X} {b n : Nat} {T : lm_T} (S : sh_T X b) (H : isT hi b T n) {R : Nat → Int32} (HR : isR hi b R) : lm_w d 65 [.ref b] (hi, hl, X) (fun v h1 => ∃ hi', v = some (.int (drm (drw (R 13)))) ∧ h1 = (hi', hl, X) ∧ isT hi' b T n ∧ isR hi' b (lm_u1 R 13 (drw (R 13))) ∧ hi' b 16 = hi b 16 ∧ fr b (b + 10) hi hi') := by
  refine lm_w_in (Nat.le_of_ble_eq_true rfl) ?_
  show lm_wp d 65 0 [.ref b] [] (hi, hl, X) _
  refine w_N 2 2 [.ref b] [.ref b, .ref b] rfl ?_
  refine w_gi (v := R 13) rfl rfl rfl (T_kd S) (HR.2.2.2.1) ?_
  refine w_N 4 12 [.ref b] [.int (((R 13) * 1103515245) + 12345), .ref b] rfl ?_
  refine w_pi rfl rfl rfl rfl (T_kd S) (T_64 S) ?_
  refine w_N 1 16 [.ref b] [.ref b] rfl ?_
  refine w_gi (v := ((R 13) * 1103515245) + 12345) rfl rfl rfl (T_kd S) (lm_up_eq) ?_
  refine w_N 3 24 [.ref b] [.int 8, .int (((((R 13) * 1103515245) + 12345).toUInt32 >>> (Int32.toUInt32 16 &&& Int32.toUInt32 31)).toInt32)] rfl ?_
  refine w_rem rfl (by decide) ?_
  refine w_ri rfl rfl ?_
  obtain ⟨r0, r1, r2, r3, r4, r5, r6, r7⟩ := HR
  refine ⟨_, rfl, rfl, (isT_f (by decide) H), ?_, ?_, ?_⟩
  · refine ⟨?_, ?_, ?_, ?_, ?_, ?_, ?_, ?_⟩ <;> simp [lm_up, lm_u1, drw, *]
  · simp [lm_up]
  · exact fr_up (fr_rfl) (by omega)
theorem s_acs1 {d : Nat} {hi : Nat → Nat → Int32} {hl : Nat → Nat → Int64} {X : lm_X} {s : Int32} {P : Option Value → lm_H → Prop} (k : ∀ c : Int32, lm_wp (d + 1) 33 23 [.int s, .int (acs s 4), .int c] [] (hi, hl, X) P) : ∀ (j m : Nat) (sum : Int32) (mk : Int32), m + j = 4 → (sum = acs s m) → (mk = nI m) → lm_wp (d + 1) 33 4 [.int s, .int sum, .int mk] [] (hi, hl, X) P := by
  intro j
  induction j with
  | zero =>
    intro m sum mk hm e1 e2
    refine w_N 2 6 [.int s, .int sum, .int mk] [.int 4, .int mk] rfl ?_
    refine w_icmp_ge_t (t := 23) rfl rfl (by rw [e2, show m = 4 by omega]; decide) ?_
    obtain rfl : m = 4 := by omega
    rw [e1]
    exact k _
  | succ j ih =>
    intro m sum mk hm e1 e2
    refine w_N 2 6 [.int s, .int sum, .int mk] [.int 4, .int mk] rfl ?_
    refine w_icmp_ge_f (t := 23) rfl rfl (by rw [e2]; exact nI_lt (b := 4) (by omega) (by decide)) ?_
    refine w_N 3 12 [.int s, .int sum, .int mk] [.int mk, .int s, .int sum] rfl ?_
    refine w_cc rfl (by rw [e2]; exact c_X4_countIn) ?_
    show lm_wp _ 33 15 [.int s, .int sum, .int mk] [.int (s_count s (nI m)), .int sum] (hi, hl, X) _
    refine w_N 4 4 [.int s, .int (sum + (s_count s (nI m))), .int (mk + 1)] [] rfl ?_
    exact ih (m + 1) _ _ (by omega) (by simp [acs, *]) (by rw [e2, nI_succ])
theorem c_X4_allCountsIn {d : Nat} {hi : Nat → Nat → Int32} {hl : Nat → Nat → Int64} {X : lm_X} {s : Int32} : lm_c (d + 1) 33 [.int s] (hi, hl, X) (some (.int (acs s 4)), (hi, hl, X)) := by
  refine lm_c_of (lm_w_in (Nat.le_of_ble_eq_true rfl) ?_)
  show lm_wp (d + 1) 33 0 [.int s, lm_jk, lm_jk] [] (hi, hl, X) _
  refine w_N 4 4 [.int s, .int 0, .int 0] [] rfl ?_
  refine s_acs1 (fun c => ?_) 4 0 _ _ rfl rfl rfl
  refine w_N 1 24 _ [.int (acs s 4)] rfl ?_
  exact w_ri rfl rfl rfl
theorem t_lkn1 {d : Nat} {hi : Nat → Nat → Int32} {hl : Nat → Nat → Int64} {X : lm_X} {b n : Nat} {T : lm_T} (S : sh_T X b) (H : isT hi b T n) {R : Nat → Int32} (HR : isR hi b R) {P : Option Value → lm_H → Prop} (k : ∀ c : Int32, lm_wp d 59 30 [.ref b, .int (lkn T n), .int c] [] (hi, hl, X) P) : ∀ (j m : Nat) (sum : Int32) (mk : Int32), m + j = n → (sum = lkn T m) → (mk = nI m) → lm_wp d 59 4 [.ref b, .int sum, .int mk] [] (hi, hl, X) P := by
  intro j
  induction j with
  | zero =>
    intro m sum mk hm e1 e2
    refine w_N 2 6 [.ref b, .int sum, .int mk] [.ref b, .int mk] rfl ?_
    refine w_gi (v := nI n) rfl rfl rfl (T_kd S) (isTn H) ?_
    refine w_icmp_ge_t (t := 30) rfl rfl (by rw [e2, show m = n by omega]; exact fun z => Int32.lt_irrefl z) ?_
    obtain rfl : m = n := by omega
    rw [e1]
    exact k _
  | succ j ih =>
    intro m sum mk hm e1 e2
    have hn10 := isTle H
    refine w_N 2 6 [.ref b, .int sum, .int mk] [.ref b, .int mk] rfl ?_
    refine w_gi (v := nI n) rfl rfl rfl (T_kd S) (isTn H) ?_
    refine w_icmp_ge_f (t := 30) rfl rfl (by rw [e2]; exact nI_lt (by omega) (by omega)) ?_
    refine w_N 1 13 [.ref b, .int sum, .int mk] [.ref b] rfl ?_
    refine w_gr (b + 7) rfl rfl rfl (T_kd S) (T_r6 S) ?_
    refine w_N 1 17 [.ref b, .int sum, .int mk] [.int mk, .ref (b + 7)] rfl ?_
    refine w_ia m (v := T 6 m) rfl (T_k6 S) (T_l6 S) e2 (by omega) (by decide) (isT6 H (by omega)) ?_
    refine w_if_eq (t := 24) rfl rfl (fun c1 => ?_) (fun c1 => ?_)
    · refine w_N 2 4 [.ref b, .int sum, .int (mk + 1)] [] rfl ?_
      exact ih (m + 1) _ _ (by omega) (by simp [lkn, *]) (by rw [e2, nI_succ])
    · refine w_N 3 4 [.ref b, .int (sum + 1), .int (mk + 1)] [] rfl ?_
      exact ih (m + 1) _ _ (by omega) (by simp [lkn, *]) (by rw [e2, nI_succ])
theorem t_lockedActs {d : Nat} {hi : Nat → Nat → Int32} {hl : Nat → Nat → Int64} {X : lm_X} {b n : Nat} {T : lm_T} (S : sh_T X b) (H : isT hi b T n) {R : Nat → Int32} (HR : isR hi b R) : lm_c d 59 [.ref b] (hi, hl, X) (some (.int (lkn T n)), (hi, hl, X)) := by
  refine lm_c_of (lm_w_in (Nat.le_of_ble_eq_true rfl) ?_)
  show lm_wp d 59 0 [.ref b, lm_jk, lm_jk] [] (hi, hl, X) _
  refine w_N 4 4 [.ref b, .int 0, .int 0] [] rfl ?_
  refine t_lkn1 S H HR (fun c => ?_) n 0 _ _ (by omega) rfl rfl
  refine w_N 1 31 _ [.int (lkn T n)] rfl ?_
  exact w_ri rfl rfl rfl
theorem t_lky1 {d : Nat} {hi : Nat → Nat → Int32} {hl : Nat → Nat → Int64} {X : lm_X} {b n : Nat} {T : lm_T} (S : sh_T X b) (H : isT hi b T n) {R : Nat → Int32} (HR : isR hi b R) {u sn : Int32} {P : Option Value → lm_H → Prop} (k : ∀ c e : Value, lm_wp (d + 2) 64 103 [.ref b, .int u, .int (nI (awk (R 14))), .int (sn), .int (lky T (awk (R 14)) (R 14) (R 10) (sn) (n + 1)), c, e] [] (hi, hl, X) P) : ∀ (j m : Nat) (sum : Int32) (mk : Int32) (jx : Value), m + j = n + 1 → (sum = lky T (awk (R 14)) (R 14) (R 10) (sn) m) → (mk = aI m) → lm_wp (d + 2) 64 18 [.ref b, .int u, .int (nI (awk (R 14))), .int sn, .int sum, .int mk, jx] [] (hi, hl, X) P := by
  intro j
  induction j with
  | zero =>
    intro m sum mk jx hm e1 e2
    have hn10 := isTle H
    refine w_N 2 21 [.ref b, .int u, .int (nI (awk (R 14))), .int sn, .int sum, .int mk, jx] [.ref b, .int mk] rfl ?_
    refine w_gi (v := nI n) rfl rfl rfl (T_kd S) (isTn H) ?_
    refine w_icmp_ge_t (t := 103) rfl rfl (by rw [e2, aI_lt (by omega) (by omega)]; omega) ?_
    obtain rfl : m = n + 1 := by omega
    rw [e1]
    exact k _ _
  | succ j ih =>
    intro m sum mk jx hm e1 e2
    have hn10 := isTle H
    have hz : mk = -1 ↔ m = 0 := by rw [e2]; exact aI_none (by omega)
    refine w_N 2 21 [.ref b, .int u, .int (nI (awk (R 14))), .int sn, .int sum, .int mk, jx] [.ref b, .int mk] rfl ?_
    refine w_gi (v := nI n) rfl rfl rfl (T_kd S) (isTn H) ?_
    refine w_icmp_ge_f (t := 103) rfl rfl (by rw [e2, aI_lt (by omega) (by omega)]; omega) ?_
    refine w_N 4 32 [.ref b, .int u, .int (nI (awk (R 14))), .int sn, .int sum, .int mk, jx] [.ref b, .int (nI (awk (R 14))), .int mk, .ref b] rfl ?_
    refine w_gi (v := R 14) rfl rfl rfl (T_kd S) (HR.2.2.2.2.1) ?_
    refine w_cc (w_vst rfl rfl rfl (Nat.le_of_ble_eq_true rfl) (Nat.le_of_ble_eq_true rfl) (T_kd S)) (by rw [e2]; exact t_allows S H (by omega)) ?_
    show lm_wp _ 64 38 [.ref b, .int u, .int (nI (awk (R 14))), .int sn, .int sum, .int mk, jx] [.int (bz (alw T m (awk (R 14)) (R 14)))] (hi, hl, X) _
    refine w_zeq (t := 69) rfl rfl (fun c1 => ?_) (fun c1 => ?_)
    · refine w_N 3 74 [.ref b, .int u, .int (nI (awk (R 14))), .int sn, .int sum, .int mk, .int 0] [.int 0] rfl ?_
      refine w_if_eq_t (t := 97) rfl rfl (by decide) ?_
      refine w_N 2 18 [.ref b, .int u, .int (nI (awk (R 14))), .int sn, .int sum, .int (mk + 1), .int 0] [] rfl ?_
      have ee : sum = lky T (awk (R 14)) (R 14) (R 10) sn (m + 1) := by
        rw [e1]; symm; exact if_neg (fun z => by simp [c1] at z)
      exact ih (m + 1) _ _ _ (by omega) ee (by rw [e2, aI_succ])
    · refine w_N 3 45 [.ref b, .int u, .int (nI (awk (R 14))), .int sn, .int sum, .int mk, jx] [.ref b, .int mk, .ref b] rfl ?_
      refine w_gi (v := R 14) rfl rfl rfl (T_kd S) (HR.2.2.2.2.1) ?_
      refine w_cc (w_vst rfl rfl rfl (Nat.le_of_ble_eq_true rfl) (Nat.le_of_ble_eq_true rfl) (T_kd S)) (by rw [e2]; exact t_after S H (by omega)) ?_
      show lm_wp _ 64 51 [.ref b, .int u, .int (nI (awk (R 14))), .int sn, .int sum, .int mk, jx] [.int (aft T m (R 14))] (hi, hl, X) _
      refine w_cc rfl c_X4_nextDay ?_
      show lm_wp _ 64 54 [.ref b, .int u, .int (nI (awk (R 14))), .int sn, .int sum, .int mk, jx] [.int (s_next (aft T m (R 14)))] (hi, hl, X) _
      refine w_N 3 57 [.ref b, .int u, .int (nI (awk (R 14))), .int sn, .int sum, .int mk, jx] [.ref b, .int ((s_next (aft T m (R 14))) &&& sn)] rfl ?_
      refine w_gi (v := R 10) rfl rfl rfl (T_kd S) (HR.1) ?_
      refine w_N 2 62 [.ref b, .int u, .int (nI (awk (R 14))), .int sn, .int sum, .int mk, jx] [.int ((R 10) &&& sn), .int ((s_next (aft T m (R 14))) &&& sn)] rfl ?_
      refine w_icmp_ne (t := 69) rfl rfl (fun c2 => ?_) (fun c2 => ?_)
      · refine w_N 3 74 [.ref b, .int u, .int (nI (awk (R 14))), .int sn, .int sum, .int mk, .int 0] [.int 0] rfl ?_
        refine w_if_eq_t (t := 97) rfl rfl (by decide) ?_
        refine w_N 2 18 [.ref b, .int u, .int (nI (awk (R 14))), .int sn, .int sum, .int (mk + 1), .int 0] [] rfl ?_
        have ee : sum = lky T (awk (R 14)) (R 14) (R 10) sn (m + 1) := by
          rw [e1]; symm; exact if_neg (fun z => by exact c2 z.2)
        exact ih (m + 1) _ _ _ (by omega) ee (by rw [e2, aI_succ])
      · refine w_N 4 74 [.ref b, .int u, .int (nI (awk (R 14))), .int sn, .int sum, .int mk, .int 1] [.int 1] rfl ?_
        refine w_if_eq_f (t := 97) rfl rfl (by decide) ?_
        refine w_N 4 83 [.ref b, .int u, .int (nI (awk (R 14))), .int sn, .int sum, .int mk, .int 1] [.int (-1), .int mk, .int 1, .int sum] rfl ?_
        refine w_icmp_ne (t := 91) rfl rfl (fun c3 => ?_) (fun c3 => ?_)
        · refine w_N 6 18 [.ref b, .int u, .int (nI (awk (R 14))), .int sn, .int (sum ||| (1 <<< (mk &&& 31))), .int (mk + 1), .int 1] [] rfl ?_
          have ee : sum ||| (1 <<< (mk &&& 31)) = lky T (awk (R 14)) (R 14) (R 10) sn (m + 1) := by
            rw [e1]; symm; refine (if_pos ⟨c1, c2⟩).trans ?_
            rw [if_neg (fun z => c3 (hz.mpr z)), e2]
          exact ih (m + 1) _ _ _ (by omega) ee (by rw [e2, aI_succ])
        · refine w_N 7 18 [.ref b, .int u, .int (nI (awk (R 14))), .int sn, .int (sum ||| 1024), .int (mk + 1), .int 1] [] rfl ?_
          have ee : sum ||| 1024 = lky T (awk (R 14)) (R 14) (R 10) sn (m + 1) := by
            rw [e1]; symm; refine (if_pos ⟨c1, c2⟩).trans ?_
            rw [if_pos (hz.mp c3)]; rfl
          exact ih (m + 1) _ _ _ (by omega) ee (by rw [e2, aI_succ])
theorem t_likelyActs {d : Nat} {hi : Nat → Nat → Int32} {hl : Nat → Nat → Int64} {X : lm_X} {b n : Nat} {T : lm_T} (S : sh_T X b) (H : isT hi b T n) {R : Nat → Int32} (HR : isR hi b R) {u : Int32} : lm_c (d + 2) 64 [.ref b, .int u] (hi, hl, X) (some (.int (lky T (awk (R 14)) (R 14) (R 10) (u ^^^ (-1)) (n + 1))), (hi, hl, X)) := by
  refine lm_c_of (lm_w_in (Nat.le_of_ble_eq_true rfl) ?_)
  show lm_wp (d + 2) 64 0 [.ref b, .int u, lm_jk, lm_jk, lm_jk, lm_jk, lm_jk] [] (hi, hl, X) _
  refine w_N 1 1 [.ref b, .int u, lm_jk, lm_jk, lm_jk, lm_jk, lm_jk] [.ref b] rfl ?_
  refine w_gi (v := R 14) rfl rfl rfl (T_kd S) (HR.2.2.2.2.1) ?_
  refine w_cc rfl (c_awkz rfl) ?_
  show lm_wp _ 64 7 [.ref b, .int u, lm_jk, lm_jk, lm_jk, lm_jk, lm_jk] [.int (nI (awk (R 14)))] (hi, hl, X) _
  refine w_N 9 18 [.ref b, .int u, .int (nI (awk (R 14))), .int (u ^^^ (-1)), .int 0, .int (-1), lm_jk] [] rfl ?_
  refine t_lky1 S H HR (fun c e => ?_) (n + 1) 0 _ _ _ (by omega) rfl rfl
  refine w_N 1 105 _ [.int (lky T (awk (R 14)) (R 14) (R 10) (u ^^^ (-1)) (n + 1))] rfl ?_
  exact w_ri rfl rfl rfl
theorem t_become {d : Nat} {hi : Nat → Nat → Int32} {hl : Nat → Nat → Int64} {X : lm_X} {b q n : Nat} {T : lm_T} (S : sh_T X b) (S2 : sh_T X q) (H : isT hi q T n) {R : Nat → Int32} (HR : isR hi q R) (hk : R 15 = 0 ∨ R 15 = 1) (hd : b + 10 ≤ q ∨ q + 10 ≤ b) : lm_w d 53 [.ref b, .ref q] (hi, hl, X) (fun v h1 => ∃ hi', v = none ∧ h1 = (hi', hl, X) ∧ isT hi' b T n ∧ isR hi' b R ∧ hi' b 16 = hi b 16 + 1 ∧ fr b (b + 10) hi hi') := by
  refine lm_w_in (Nat.le_of_ble_eq_true rfl) ?_
  show lm_wp d 53 0 [.ref b, .ref q] [] (hi, hl, X) _
  refine w_N 1 1 [.ref b, .ref q] [.ref q] rfl ?_
  refine w_gr (q + 1) rfl rfl rfl (T_kd S2) (T_r0 S2) ?_
  refine w_N 2 6 [.ref b, .ref q] [.ref b, .int 0, .ref (q + 1)] rfl ?_
  refine w_gr (b + 1) rfl rfl rfl (T_kd S) (T_r0 S) ?_
  refine w_N 2 12 [.ref b, .ref q] [.int 10, .int 0, .ref (b + 1), .int 0, .ref (q + 1)] rfl ?_
  refine w_ac 0 0 10 rfl rfl (Nat.le_of_ble_eq_true rfl) (T_k0 S2) (T_k0 S) (Nat.le_trans (T_64 S2) (Nat.le_add_right _ _)) (Nat.le_trans (T_64 S) (Nat.le_add_right _ _)) (T_l0 S2) (T_l0 S) rfl rfl rfl (by decide) (rfl) (rfl) ?_
  show lm_wp _ 53 15 [.ref b, .ref q] [] (lm_row hi (b + 1) (va_cpy (hi (q + 1)) (hi (b + 1)) 0 0 10), hl, X) _
  refine w_N 1 16 [.ref b, .ref q] [.ref q] rfl ?_
  refine w_gr (q + 2) rfl rfl rfl (T_kd S2) (T_r1 S2) ?_
  refine w_N 2 21 [.ref b, .ref q] [.ref b, .int 0, .ref (q + 2)] rfl ?_
  refine w_gr (b + 2) rfl rfl rfl (T_kd S) (T_r1 S) ?_
  refine w_N 2 27 [.ref b, .ref q] [.int 10, .int 0, .ref (b + 2), .int 0, .ref (q + 2)] rfl ?_
  refine w_ac 0 0 10 rfl rfl (Nat.le_of_ble_eq_true rfl) (T_k1 S2) (T_k1 S) (Nat.le_trans (T_64 S2) (Nat.le_add_right _ _)) (Nat.le_trans (T_64 S) (Nat.le_add_right _ _)) (T_l1 S2) (T_l1 S) rfl rfl rfl (by decide) ((lm_rw_na (by omega)).trans (rfl)) ((lm_rw_na (by omega)).trans (rfl)) ?_
  show lm_wp _ 53 30 [.ref b, .ref q] [] (lm_row (lm_row hi (b + 1) (va_cpy (hi (q + 1)) (hi (b + 1)) 0 0 10)) (b + 2) (va_cpy (hi (q + 2)) (hi (b + 2)) 0 0 10), hl, X) _
  refine w_N 1 31 [.ref b, .ref q] [.ref q] rfl ?_
  refine w_gr (q + 3) rfl rfl rfl (T_kd S2) (T_r2 S2) ?_
  refine w_N 2 36 [.ref b, .ref q] [.ref b, .int 0, .ref (q + 3)] rfl ?_
  refine w_gr (b + 3) rfl rfl rfl (T_kd S) (T_r2 S) ?_
  refine w_N 2 42 [.ref b, .ref q] [.int 10, .int 0, .ref (b + 3), .int 0, .ref (q + 3)] rfl ?_
  refine w_ac 0 0 10 rfl rfl (Nat.le_of_ble_eq_true rfl) (T_k2 S2) (T_k2 S) (Nat.le_trans (T_64 S2) (Nat.le_add_right _ _)) (Nat.le_trans (T_64 S) (Nat.le_add_right _ _)) (T_l2 S2) (T_l2 S) rfl rfl rfl (by decide) ((lm_rw_na (by omega)).trans ((lm_rw_na (by omega)).trans (rfl))) ((lm_rw_na (by omega)).trans ((lm_rw_na (by omega)).trans (rfl))) ?_
  show lm_wp _ 53 45 [.ref b, .ref q] [] (lm_row (lm_row (lm_row hi (b + 1) (va_cpy (hi (q + 1)) (hi (b + 1)) 0 0 10)) (b + 2) (va_cpy (hi (q + 2)) (hi (b + 2)) 0 0 10)) (b + 3) (va_cpy (hi (q + 3)) (hi (b + 3)) 0 0 10), hl, X) _
  refine w_N 1 46 [.ref b, .ref q] [.ref q] rfl ?_
  refine w_gr (q + 4) rfl rfl rfl (T_kd S2) (T_r3 S2) ?_
  refine w_N 2 51 [.ref b, .ref q] [.ref b, .int 0, .ref (q + 4)] rfl ?_
  refine w_gr (b + 4) rfl rfl rfl (T_kd S) (T_r3 S) ?_
  refine w_N 2 57 [.ref b, .ref q] [.int 10, .int 0, .ref (b + 4), .int 0, .ref (q + 4)] rfl ?_
  refine w_ac 0 0 10 rfl rfl (Nat.le_of_ble_eq_true rfl) (T_k3 S2) (T_k3 S) (Nat.le_trans (T_64 S2) (Nat.le_add_right _ _)) (Nat.le_trans (T_64 S) (Nat.le_add_right _ _)) (T_l3 S2) (T_l3 S) rfl rfl rfl (by decide) ((lm_rw_na (by omega)).trans ((lm_rw_na (by omega)).trans ((lm_rw_na (by omega)).trans (rfl)))) ((lm_rw_na (by omega)).trans ((lm_rw_na (by omega)).trans ((lm_rw_na (by omega)).trans (rfl)))) ?_
  show lm_wp _ 53 60 [.ref b, .ref q] [] (lm_row (lm_row (lm_row (lm_row hi (b + 1) (va_cpy (hi (q + 1)) (hi (b + 1)) 0 0 10)) (b + 2) (va_cpy (hi (q + 2)) (hi (b + 2)) 0 0 10)) (b + 3) (va_cpy (hi (q + 3)) (hi (b + 3)) 0 0 10)) (b + 4) (va_cpy (hi (q + 4)) (hi (b + 4)) 0 0 10), hl, X) _
  refine w_N 1 61 [.ref b, .ref q] [.ref q] rfl ?_
  refine w_gr (q + 5) rfl rfl rfl (T_kd S2) (T_r4 S2) ?_
  refine w_N 2 66 [.ref b, .ref q] [.ref b, .int 0, .ref (q + 5)] rfl ?_
  refine w_gr (b + 5) rfl rfl rfl (T_kd S) (T_r4 S) ?_
  refine w_N 2 72 [.ref b, .ref q] [.int 10, .int 0, .ref (b + 5), .int 0, .ref (q + 5)] rfl ?_
  refine w_ac 0 0 10 rfl rfl (Nat.le_of_ble_eq_true rfl) (T_k4 S2) (T_k4 S) (Nat.le_trans (T_64 S2) (Nat.le_add_right _ _)) (Nat.le_trans (T_64 S) (Nat.le_add_right _ _)) (T_l4 S2) (T_l4 S) rfl rfl rfl (by decide) ((lm_rw_na (by omega)).trans ((lm_rw_na (by omega)).trans ((lm_rw_na (by omega)).trans ((lm_rw_na (by omega)).trans (rfl))))) ((lm_rw_na (by omega)).trans ((lm_rw_na (by omega)).trans ((lm_rw_na (by omega)).trans ((lm_rw_na (by omega)).trans (rfl))))) ?_
  show lm_wp _ 53 75 [.ref b, .ref q] [] (lm_row (lm_row (lm_row (lm_row (lm_row hi (b + 1) (va_cpy (hi (q + 1)) (hi (b + 1)) 0 0 10)) (b + 2) (va_cpy (hi (q + 2)) (hi (b + 2)) 0 0 10)) (b + 3) (va_cpy (hi (q + 3)) (hi (b + 3)) 0 0 10)) (b + 4) (va_cpy (hi (q + 4)) (hi (b + 4)) 0 0 10)) (b + 5) (va_cpy (hi (q + 5)) (hi (b + 5)) 0 0 10), hl, X) _
  refine w_N 1 76 [.ref b, .ref q] [.ref q] rfl ?_
  refine w_gr (q + 6) rfl rfl rfl (T_kd S2) (T_r5 S2) ?_
  refine w_N 2 81 [.ref b, .ref q] [.ref b, .int 0, .ref (q + 6)] rfl ?_
  refine w_gr (b + 6) rfl rfl rfl (T_kd S) (T_r5 S) ?_
  refine w_N 2 87 [.ref b, .ref q] [.int 10, .int 0, .ref (b + 6), .int 0, .ref (q + 6)] rfl ?_
  refine w_ac 0 0 10 rfl rfl (Nat.le_of_ble_eq_true rfl) (T_k5 S2) (T_k5 S) (Nat.le_trans (T_64 S2) (Nat.le_add_right _ _)) (Nat.le_trans (T_64 S) (Nat.le_add_right _ _)) (T_l5 S2) (T_l5 S) rfl rfl rfl (by decide) ((lm_rw_na (by omega)).trans ((lm_rw_na (by omega)).trans ((lm_rw_na (by omega)).trans ((lm_rw_na (by omega)).trans ((lm_rw_na (by omega)).trans (rfl)))))) ((lm_rw_na (by omega)).trans ((lm_rw_na (by omega)).trans ((lm_rw_na (by omega)).trans ((lm_rw_na (by omega)).trans ((lm_rw_na (by omega)).trans (rfl)))))) ?_
  show lm_wp _ 53 90 [.ref b, .ref q] [] (lm_row (lm_row (lm_row (lm_row (lm_row (lm_row hi (b + 1) (va_cpy (hi (q + 1)) (hi (b + 1)) 0 0 10)) (b + 2) (va_cpy (hi (q + 2)) (hi (b + 2)) 0 0 10)) (b + 3) (va_cpy (hi (q + 3)) (hi (b + 3)) 0 0 10)) (b + 4) (va_cpy (hi (q + 4)) (hi (b + 4)) 0 0 10)) (b + 5) (va_cpy (hi (q + 5)) (hi (b + 5)) 0 0 10)) (b + 6) (va_cpy (hi (q + 6)) (hi (b + 6)) 0 0 10), hl, X) _
  refine w_N 1 91 [.ref b, .ref q] [.ref q] rfl ?_
  refine w_gr (q + 7) rfl rfl rfl (T_kd S2) (T_r6 S2) ?_
  refine w_N 2 96 [.ref b, .ref q] [.ref b, .int 0, .ref (q + 7)] rfl ?_
  refine w_gr (b + 7) rfl rfl rfl (T_kd S) (T_r6 S) ?_
  refine w_N 2 102 [.ref b, .ref q] [.int 10, .int 0, .ref (b + 7), .int 0, .ref (q + 7)] rfl ?_
  refine w_ac 0 0 10 rfl rfl (Nat.le_of_ble_eq_true rfl) (T_k6 S2) (T_k6 S) (Nat.le_trans (T_64 S2) (Nat.le_add_right _ _)) (Nat.le_trans (T_64 S) (Nat.le_add_right _ _)) (T_l6 S2) (T_l6 S) rfl rfl rfl (by decide) ((lm_rw_na (by omega)).trans ((lm_rw_na (by omega)).trans ((lm_rw_na (by omega)).trans ((lm_rw_na (by omega)).trans ((lm_rw_na (by omega)).trans ((lm_rw_na (by omega)).trans (rfl))))))) ((lm_rw_na (by omega)).trans ((lm_rw_na (by omega)).trans ((lm_rw_na (by omega)).trans ((lm_rw_na (by omega)).trans ((lm_rw_na (by omega)).trans ((lm_rw_na (by omega)).trans (rfl))))))) ?_
  show lm_wp _ 53 105 [.ref b, .ref q] [] (lm_row (lm_row (lm_row (lm_row (lm_row (lm_row (lm_row hi (b + 1) (va_cpy (hi (q + 1)) (hi (b + 1)) 0 0 10)) (b + 2) (va_cpy (hi (q + 2)) (hi (b + 2)) 0 0 10)) (b + 3) (va_cpy (hi (q + 3)) (hi (b + 3)) 0 0 10)) (b + 4) (va_cpy (hi (q + 4)) (hi (b + 4)) 0 0 10)) (b + 5) (va_cpy (hi (q + 5)) (hi (b + 5)) 0 0 10)) (b + 6) (va_cpy (hi (q + 6)) (hi (b + 6)) 0 0 10)) (b + 7) (va_cpy (hi (q + 7)) (hi (b + 7)) 0 0 10), hl, X) _
  refine w_N 1 106 [.ref b, .ref q] [.ref q] rfl ?_
  refine w_gr (q + 8) rfl rfl rfl (T_kd S2) (T_r7 S2) ?_
  refine w_N 2 111 [.ref b, .ref q] [.ref b, .int 0, .ref (q + 8)] rfl ?_
  refine w_gr (b + 8) rfl rfl rfl (T_kd S) (T_r7 S) ?_
  refine w_N 2 117 [.ref b, .ref q] [.int 24, .int 0, .ref (b + 8), .int 0, .ref (q + 8)] rfl ?_
  refine w_ac 0 0 24 rfl rfl (Nat.le_of_ble_eq_true rfl) (T_k7 S2) (T_k7 S) (Nat.le_trans (T_64 S2) (Nat.le_add_right _ _)) (Nat.le_trans (T_64 S) (Nat.le_add_right _ _)) (T_l7 S2) (T_l7 S) rfl rfl rfl (by decide) ((lm_rw_na (by omega)).trans ((lm_rw_na (by omega)).trans ((lm_rw_na (by omega)).trans ((lm_rw_na (by omega)).trans ((lm_rw_na (by omega)).trans ((lm_rw_na (by omega)).trans ((lm_rw_na (by omega)).trans (rfl)))))))) ((lm_rw_na (by omega)).trans ((lm_rw_na (by omega)).trans ((lm_rw_na (by omega)).trans ((lm_rw_na (by omega)).trans ((lm_rw_na (by omega)).trans ((lm_rw_na (by omega)).trans ((lm_rw_na (by omega)).trans (rfl)))))))) ?_
  show lm_wp _ 53 120 [.ref b, .ref q] [] (lm_row (lm_row (lm_row (lm_row (lm_row (lm_row (lm_row (lm_row hi (b + 1) (va_cpy (hi (q + 1)) (hi (b + 1)) 0 0 10)) (b + 2) (va_cpy (hi (q + 2)) (hi (b + 2)) 0 0 10)) (b + 3) (va_cpy (hi (q + 3)) (hi (b + 3)) 0 0 10)) (b + 4) (va_cpy (hi (q + 4)) (hi (b + 4)) 0 0 10)) (b + 5) (va_cpy (hi (q + 5)) (hi (b + 5)) 0 0 10)) (b + 6) (va_cpy (hi (q + 6)) (hi (b + 6)) 0 0 10)) (b + 7) (va_cpy (hi (q + 7)) (hi (b + 7)) 0 0 10)) (b + 8) (va_cpy (hi (q + 8)) (hi (b + 8)) 0 0 24), hl, X) _
  refine w_N 1 121 [.ref b, .ref q] [.ref q] rfl ?_
  refine w_gr (q + 9) rfl rfl rfl (T_kd S2) (T_r8 S2) ?_
  refine w_N 2 126 [.ref b, .ref q] [.ref b, .int 0, .ref (q + 9)] rfl ?_
  refine w_gr (b + 9) rfl rfl rfl (T_kd S) (T_r8 S) ?_
  refine w_N 2 131 [.ref b, .ref q] [.int 2, .int 0, .ref (b + 9), .int 0, .ref (q + 9)] rfl ?_
  refine w_ac 0 0 2 rfl rfl (Nat.le_of_ble_eq_true rfl) (T_k8 S2) (T_k8 S) (Nat.le_trans (T_64 S2) (Nat.le_add_right _ _)) (Nat.le_trans (T_64 S) (Nat.le_add_right _ _)) (T_l8 S2) (T_l8 S) rfl rfl rfl (by decide) ((lm_rw_na (by omega)).trans ((lm_rw_na (by omega)).trans ((lm_rw_na (by omega)).trans ((lm_rw_na (by omega)).trans ((lm_rw_na (by omega)).trans ((lm_rw_na (by omega)).trans ((lm_rw_na (by omega)).trans ((lm_rw_na (by omega)).trans (rfl))))))))) ((lm_rw_na (by omega)).trans ((lm_rw_na (by omega)).trans ((lm_rw_na (by omega)).trans ((lm_rw_na (by omega)).trans ((lm_rw_na (by omega)).trans ((lm_rw_na (by omega)).trans ((lm_rw_na (by omega)).trans ((lm_rw_na (by omega)).trans (rfl))))))))) ?_
  show lm_wp _ 53 134 [.ref b, .ref q] [] (lm_row (lm_row (lm_row (lm_row (lm_row (lm_row (lm_row (lm_row (lm_row hi (b + 1) (va_cpy (hi (q + 1)) (hi (b + 1)) 0 0 10)) (b + 2) (va_cpy (hi (q + 2)) (hi (b + 2)) 0 0 10)) (b + 3) (va_cpy (hi (q + 3)) (hi (b + 3)) 0 0 10)) (b + 4) (va_cpy (hi (q + 4)) (hi (b + 4)) 0 0 10)) (b + 5) (va_cpy (hi (q + 5)) (hi (b + 5)) 0 0 10)) (b + 6) (va_cpy (hi (q + 6)) (hi (b + 6)) 0 0 10)) (b + 7) (va_cpy (hi (q + 7)) (hi (b + 7)) 0 0 10)) (b + 8) (va_cpy (hi (q + 8)) (hi (b + 8)) 0 0 24)) (b + 9) (va_cpy (hi (q + 9)) (hi (b + 9)) 0 0 2), hl, X) _
  refine w_N 2 136 [.ref b, .ref q] [.ref q, .ref b] rfl ?_
  refine w_gi (v := nI n) rfl rfl rfl (T_kd S2) ((congrFun (lm_rw_na (by omega)) _).trans ((congrFun (lm_rw_na (by omega)) _).trans ((congrFun (lm_rw_na (by omega)) _).trans ((congrFun (lm_rw_na (by omega)) _).trans ((congrFun (lm_rw_na (by omega)) _).trans ((congrFun (lm_rw_na (by omega)) _).trans ((congrFun (lm_rw_na (by omega)) _).trans ((congrFun (lm_rw_na (by omega)) _).trans ((congrFun (lm_rw_na (by omega)) _).trans (isTn H)))))))))) ?_
  refine w_pi rfl rfl rfl rfl (T_kd S) (T_64 S) ?_
  refine w_N 2 144 [.ref b, .ref q] [.ref q, .ref b] rfl ?_
  refine w_gi (v := R 10) rfl rfl rfl (T_kd S2) ((lm_up_na (by omega)).trans ((congrFun (lm_rw_na (by omega)) _).trans ((congrFun (lm_rw_na (by omega)) _).trans ((congrFun (lm_rw_na (by omega)) _).trans ((congrFun (lm_rw_na (by omega)) _).trans ((congrFun (lm_rw_na (by omega)) _).trans ((congrFun (lm_rw_na (by omega)) _).trans ((congrFun (lm_rw_na (by omega)) _).trans ((congrFun (lm_rw_na (by omega)) _).trans ((congrFun (lm_rw_na (by omega)) _).trans (HR.1))))))))))) ?_
  refine w_pi rfl rfl rfl rfl (T_kd S) (T_64 S) ?_
  refine w_N 2 152 [.ref b, .ref q] [.ref q, .ref b] rfl ?_
  refine w_gi (v := R 11) rfl rfl rfl (T_kd S2) ((lm_up_na (by omega)).trans ((lm_up_na (by omega)).trans ((congrFun (lm_rw_na (by omega)) _).trans ((congrFun (lm_rw_na (by omega)) _).trans ((congrFun (lm_rw_na (by omega)) _).trans ((congrFun (lm_rw_na (by omega)) _).trans ((congrFun (lm_rw_na (by omega)) _).trans ((congrFun (lm_rw_na (by omega)) _).trans ((congrFun (lm_rw_na (by omega)) _).trans ((congrFun (lm_rw_na (by omega)) _).trans ((congrFun (lm_rw_na (by omega)) _).trans (HR.2.1)))))))))))) ?_
  refine w_pi rfl rfl rfl rfl (T_kd S) (T_64 S) ?_
  refine w_N 2 160 [.ref b, .ref q] [.ref q, .ref b] rfl ?_
  refine w_gi (v := R 12) rfl rfl rfl (T_kd S2) ((lm_up_na (by omega)).trans ((lm_up_na (by omega)).trans ((lm_up_na (by omega)).trans ((congrFun (lm_rw_na (by omega)) _).trans ((congrFun (lm_rw_na (by omega)) _).trans ((congrFun (lm_rw_na (by omega)) _).trans ((congrFun (lm_rw_na (by omega)) _).trans ((congrFun (lm_rw_na (by omega)) _).trans ((congrFun (lm_rw_na (by omega)) _).trans ((congrFun (lm_rw_na (by omega)) _).trans ((congrFun (lm_rw_na (by omega)) _).trans ((congrFun (lm_rw_na (by omega)) _).trans (HR.2.2.1))))))))))))) ?_
  refine w_pi rfl rfl rfl rfl (T_kd S) (T_64 S) ?_
  refine w_N 2 168 [.ref b, .ref q] [.ref q, .ref b] rfl ?_
  refine w_gi (v := R 13) rfl rfl rfl (T_kd S2) ((lm_up_na (by omega)).trans ((lm_up_na (by omega)).trans ((lm_up_na (by omega)).trans ((lm_up_na (by omega)).trans ((congrFun (lm_rw_na (by omega)) _).trans ((congrFun (lm_rw_na (by omega)) _).trans ((congrFun (lm_rw_na (by omega)) _).trans ((congrFun (lm_rw_na (by omega)) _).trans ((congrFun (lm_rw_na (by omega)) _).trans ((congrFun (lm_rw_na (by omega)) _).trans ((congrFun (lm_rw_na (by omega)) _).trans ((congrFun (lm_rw_na (by omega)) _).trans ((congrFun (lm_rw_na (by omega)) _).trans (HR.2.2.2.1)))))))))))))) ?_
  refine w_pi rfl rfl rfl rfl (T_kd S) (T_64 S) ?_
  refine w_N 2 176 [.ref b, .ref q] [.ref q, .ref b] rfl ?_
  refine w_gi (v := R 14) rfl rfl rfl (T_kd S2) ((lm_up_na (by omega)).trans ((lm_up_na (by omega)).trans ((lm_up_na (by omega)).trans ((lm_up_na (by omega)).trans ((lm_up_na (by omega)).trans ((congrFun (lm_rw_na (by omega)) _).trans ((congrFun (lm_rw_na (by omega)) _).trans ((congrFun (lm_rw_na (by omega)) _).trans ((congrFun (lm_rw_na (by omega)) _).trans ((congrFun (lm_rw_na (by omega)) _).trans ((congrFun (lm_rw_na (by omega)) _).trans ((congrFun (lm_rw_na (by omega)) _).trans ((congrFun (lm_rw_na (by omega)) _).trans ((congrFun (lm_rw_na (by omega)) _).trans (HR.2.2.2.2.1))))))))))))))) ?_
  refine w_pi rfl rfl rfl rfl (T_kd S) (T_64 S) ?_
  refine w_N 2 184 [.ref b, .ref q] [.ref q, .ref b] rfl ?_
  refine w_gi (v := R 15) rfl rfl rfl (T_kd S2) ((lm_up_na (by omega)).trans ((lm_up_na (by omega)).trans ((lm_up_na (by omega)).trans ((lm_up_na (by omega)).trans ((lm_up_na (by omega)).trans ((lm_up_na (by omega)).trans ((congrFun (lm_rw_na (by omega)) _).trans ((congrFun (lm_rw_na (by omega)) _).trans ((congrFun (lm_rw_na (by omega)) _).trans ((congrFun (lm_rw_na (by omega)) _).trans ((congrFun (lm_rw_na (by omega)) _).trans ((congrFun (lm_rw_na (by omega)) _).trans ((congrFun (lm_rw_na (by omega)) _).trans ((congrFun (lm_rw_na (by omega)) _).trans ((congrFun (lm_rw_na (by omega)) _).trans (HR.2.2.2.2.2.1)))))))))))))))) ?_
  refine w_pb rfl rfl rfl rfl (T_kd S) (T_64 S) (by first | assumption | exact bz_or _) ?_
  refine w_N 2 192 [.ref b, .ref q] [.ref b, .ref b] rfl ?_
  refine w_gi (v := hi b 16) rfl rfl rfl (T_kd S) ((lm_up_nk (by decide)).trans ((lm_up_nk (by decide)).trans ((lm_up_nk (by decide)).trans ((lm_up_nk (by decide)).trans ((lm_up_nk (by decide)).trans ((lm_up_nk (by decide)).trans ((lm_up_nk (by decide)).trans ((congrFun (lm_rw_na (by omega)) _).trans ((congrFun (lm_rw_na (by omega)) _).trans ((congrFun (lm_rw_na (by omega)) _).trans ((congrFun (lm_rw_na (by omega)) _).trans ((congrFun (lm_rw_na (by omega)) _).trans ((congrFun (lm_rw_na (by omega)) _).trans ((congrFun (lm_rw_na (by omega)) _).trans ((congrFun (lm_rw_na (by omega)) _).trans ((congrFun (lm_rw_na (by omega)) _).trans (rfl))))))))))))))))) ?_
  refine w_N 2 197 [.ref b, .ref q] [.int ((hi b 16) + 1), .ref b] rfl ?_
  refine w_pi rfl rfl rfl rfl (T_kd S) (T_64 S) ?_
  refine w_rv rfl rfl ?_
  obtain ⟨r0, r1, r2, r3, r4, r5, r6, r7⟩ := HR
  refine ⟨_, rfl, rfl, ⟨fun k hk a ha => ?_, fun a ha => ?_, ?_, H.2.2.2⟩, ?_, ?_, ?_⟩
  · have q1 := H.1 k hk a ha
    revert q1
    rcases (by omega : k = 0 ∨ k = 1 ∨ k = 2 ∨ k = 3 ∨ k = 4 ∨ k = 5 ∨ k = 6) with rfl | rfl | rfl | rfl | rfl | rfl | rfl <;> intro q1 <;> simp [lm_up, lm_row, va_cpy, *]
  · have q1 := H.2.1 a ha
    simp [lm_up, lm_row, va_cpy, *]
  · simp [lm_up, lm_row]
  · refine ⟨?_, ?_, ?_, ?_, ?_, ?_, ?_, ?_⟩ <;> simp [lm_up, lm_row, va_cpy, *]
  · simp [lm_up, lm_row]
  · exact fr_up (fr_up (fr_up (fr_up (fr_up (fr_up (fr_up (fr_up (fr_row (fr_row (fr_row (fr_row (fr_row (fr_row (fr_row (fr_row (fr_row (fr_rfl) (by omega)) (by omega)) (by omega)) (by omega)) (by omega)) (by omega)) (by omega)) (by omega)) (by omega)) (by omega)) (by omega)) (by omega)) (by omega)) (by omega)) (by omega)) (by omega)) (by omega)
theorem t_allowsE {d : Nat} {hi : Nat → Nat → Int32} {hl : Nat → Nat → Int64} {X : lm_X} {b n : Nat} {T : lm_T} (S : sh_T X b) (H : isT hi b T n) {i hf : Nat} {s x y : Int32} (hx : x = aI i) (hy : y = nI hf) (hi10 : i ≤ 10) : lm_c (d + 1) 60 [.ref b, .int x, .int y, .int s] (hi, hl, X) (some (.int (bz (alw T i hf s))), (hi, hl, X)) := by
  subst hx hy; exact t_allows S H hi10
theorem t_afterE {d : Nat} {hi : Nat → Nat → Int32} {hl : Nat → Nat → Int64} {X : lm_X} {b n : Nat} {T : lm_T} (S : sh_T X b) (H : isT hi b T n) {i : Nat} {s x : Int32} (hx : x = aI i) (hi10 : i ≤ 10) : lm_c (d + 1) 61 [.ref b, .int x, .int s] (hi, hl, X) (some (.int (aft T i s)), (hi, hl, X)) := by
  subst hx; exact t_after S H hi10
theorem t_valueToE {d : Nat} {hi : Nat → Nat → Int32} {hl : Nat → Nat → Int64} {X : lm_X} {b n : Nat} {T : lm_T} (S : sh_T X b) (H : isT hi b T n) {hf : Nat} {s y : Int32} (hy : y = nI hf) (hh : hf < 2) : lm_c (d + 1) 62 [.ref b, .int y, .int s] (hi, hl, X) (some (.int (val T hf s)), (hi, hl, X)) := by
  subst hy; exact t_valueTo S H hh
