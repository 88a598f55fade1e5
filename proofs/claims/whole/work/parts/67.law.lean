set_option maxRecDepth 16384
/-! the law: each call of both, and the loop -/
/-- between two calls -/
def LG (L : Nat) (xs : Nat → Int32) (B C : Nat) (hi : Nat → Nat → Int32) (hl : Nat → Nat → Int64) (X : lm_X) : Prop := ∃ (D : Nat) (T : lm_T) (n : Nat) (R : Nat → Int32) (KO : ab_K) (V : ab_V) (ts : Nat) (tl F : Nat → Int32), okZ B D T n R KO V ts tl ∧ cP hi hl hi hl X C T n R KO V ts tl F ∧ mP hi hl X hi hl X T n R KO V ts tl F ∧ X.2.1 0 = 1 ∧ X.2.2.1 0 = L ∧ hi 0 = xs
def LQ (L : Nat) (xs : Nat → Int32) (B C gm : Nat) (as : List Value) (X : lm_X) (v : Value) : Option Value → lm_H → Prop := fun r h1 => r = some v ∧ ∃ hi1 hl1, h1 = (hi1, hl1, X) ∧ hi1 0 = xs ∧ lm_w 59 gm (.ref 123 :: as) (hi1, hl1, X) (fun r2 h2 => r2 = some v ∧ ∃ hi2 hl2 X2, h2 = (hi2, hl2, X2) ∧ LG L xs (B + 20) (C + 25) hi2 hl2 X2)
theorem lw_v {L B C D' gx gm n n' ts ts' : Nat} {xs : Nat → Int32} {as : List Value} {v : Value} {hi : Nat → Nat → Int32} {hl : Nat → Nat → Int64} {X : lm_X} {T T' : lm_T} {R R' : Nat → Int32} {KO KO' : ab_K} {V V' : ab_V} {tl tl' F F' : Nat → Int32} (Z' : okZ (B + 20) D' T' n' R' KO' V' ts' tl') (h1 : ∀ hi0 hl0 hi hl X C, cP hi0 hl0 hi hl X C T n R KO V ts tl F → C + 25 < 2147483648 → lm_w 59 gx (.ref 64 :: as) (hi, hl, X) (cQ hi0 hl0 X (C + 25) v T' n' R' KO' V' ts' tl' F')) (h2 : ∀ hi0 hl0 X0 hi hl X, mP hi0 hl0 X0 hi hl X T n R KO V ts tl F → lm_w 59 gm (.ref 123 :: as) (hi, hl, X) (mQ hi0 hl0 X0 v T' n' R' KO' V' ts' tl' F')) (P : cP hi hl hi hl X C T n R KO V ts tl F) (M : mP hi hl X hi hl X T n R KO V ts tl F) (s1 : X.2.1 0 = 1) (s2 : X.2.2.1 0 = L) (s3 : hi 0 = xs) (hC : C + 25 < 2147483648) : lm_w 59 gx (.ref 64 :: as) (hi, hl, X) (LQ L xs B C gm as X v) := by
  refine lm_w_mono (h1 _ _ _ _ _ _ P hC) ?_
  rintro _ _ ⟨rfl, hi1, hl1, rfl, P1⟩
  obtain ⟨-, -, -, -, -, -, -, -, -, E1, EL1⟩ := id P1
  have e0 : hi1 0 = xs := (E1 0 (by decide)).trans s3
  refine ⟨rfl, hi1, hl1, rfl, e0, ?_⟩
  refine lm_w_mono (h2 _ _ _ _ _ _ (mP_keep M E1 EL1)) ?_
  rintro _ _ ⟨rfl, hi2, hl2, X2, rfl, M2⟩
  obtain ⟨-, -, -, -, -, -, -, -, E2, EL2, EX2⟩ := id M2
  refine ⟨rfl, hi2, hl2, X2, rfl, D', T', n', R', KO', V', ts', tl', F', Z', cP_keep P1 E2 EL2 EX2, ?_, (EX2 0 (by decide)).1.trans s1, (EX2 0 (by decide)).2.1.trans s2, (E2 0 (by decide)).trans e0⟩
  obtain ⟨m1, m2, m3, m4, m5, m6, m7, m8, -, -, -⟩ := M2
  exact ⟨m1, m2, m3, m4, m5, m6, m7, m8, fr_rfl, frl_rfl, xG_rfl⟩
theorem lgc_self (x : Int64) : lg_cmp x x = 0 := by
  unfold lg_cmp; simp
theorem lw_0 {L i B C : Nat} {xs : Nat → Int32} {hi : Nat → Nat → Int32} {hl : Nat → Nat → Int64} {X : lm_X} {Q : Option Value → lm_H → Prop} (G : LG L xs B C hi hl X) (h7 : i + 7 ≤ L) (hL : L ≤ 3584) (hB : B + 20 < 2000000) (hC : C + 25 < 2147483648) (k : ∀ hi2 hl2 X2, LG L xs (B + 20) (C + 25) hi2 hl2 X2 → lm_wp 60 0 1748 [.ref 0, .ref 64, .ref 123, .int (nI i)] [] (hi2, hl2, X2) Q) : lm_wp 60 0 236 [.ref 0, .ref 64, .ref 123, .int (nI i)] [] (hi, hl, X) Q := by
  obtain ⟨D, T, n, R, KO, V, ts, tl, F, Z, P, M, s1, s2, s3⟩ := G
  show lm_wp (59 + 1) 0 236 [.ref 0, .ref 64, .ref 123, .int (nI i)] [] (hi, hl, X) Q
  obtain ⟨x, D1, T1, n1, R1, KO1, V1, ts1, tl1, F1, Z1, q1, q2⟩ : STI B 82 137 [.int (xs (i + 1)), .int (xs (i + 2)), .int (xs (i + 3))] T n R KO V ts tl F := sti (st_row Z hB)
  have hc := lw_v Z1 q1 q2 P M s1 s2 s3 hC
  refine w_N 5 241 [.ref 0, .ref 64, .ref 123, .int (nI i)] [.int (nI i + 1), .ref 0, .ref 64] rfl ?_
  refine w_ia (i + 1) rfl s1 s2 (nI_add' i 1) (by omega) (by omega) (congrFun s3 (i + 1)) ?_
  refine w_N 4 246 [.ref 0, .ref 64, .ref 123, .int (nI i)] [.int (nI i + 2), .ref 0, .int (xs (i + 1)), .ref 64] rfl ?_
  refine w_ia (i + 2) rfl s1 s2 (nI_add' i 2) (by omega) (by omega) (congrFun s3 (i + 2)) ?_
  refine w_N 4 251 [.ref 0, .ref 64, .ref 123, .int (nI i)] [.int (nI i + 3), .ref 0, .int (xs (i + 2)), .int (xs (i + 1)), .ref 64] rfl ?_
  refine w_ia (i + 3) rfl s1 s2 (nI_add' i 3) (by omega) (by omega) (congrFun s3 (i + 3)) ?_
  refine w_ca (w_vst rfl rfl rfl (Nat.le_of_ble_eq_true rfl) (Nat.le_of_ble_eq_true rfl) (A_k P.1 64 (by decide))) hc ?_
  rintro _ _ ⟨rfl, hi1, hl1, rfl, t3, hm⟩
  show lm_wp (59 + 1) 0 255 [.ref 0, .ref 64, .ref 123, .int (nI i)] [.int x] (hi1, hl1, X) _
  refine w_N 5 260 [.ref 0, .ref 64, .ref 123, .int (nI i)] [.int (nI i + 1), .ref 0, .ref 123, .int x] rfl ?_
  refine w_ia (i + 1) rfl s1 s2 (nI_add' i 1) (by omega) (by omega) (congrFun t3 (i + 1)) ?_
  refine w_N 4 265 [.ref 0, .ref 64, .ref 123, .int (nI i)] [.int (nI i + 2), .ref 0, .int (xs (i + 1)), .ref 123, .int x] rfl ?_
  refine w_ia (i + 2) rfl s1 s2 (nI_add' i 2) (by omega) (by omega) (congrFun t3 (i + 2)) ?_
  refine w_N 4 270 [.ref 0, .ref 64, .ref 123, .int (nI i)] [.int (nI i + 3), .ref 0, .int (xs (i + 2)), .int (xs (i + 1)), .ref 123, .int x] rfl ?_
  refine w_ia (i + 3) rfl s1 s2 (nI_add' i 3) (by omega) (by omega) (congrFun t3 (i + 3)) ?_
  refine w_ca (w_vst rfl rfl rfl (Nat.le_of_ble_eq_true rfl) (Nat.le_of_ble_eq_true rfl) (M_kd M.1.1)) hm ?_
  rintro _ _ ⟨rfl, hi2, hl2, X2, rfl, G2⟩
  show lm_wp (59 + 1) 0 274 [.ref 0, .ref 64, .ref 123, .int (nI i)] [.int x, .int x] (hi2, hl2, X2) _
  refine w_icmp_eq_t (t := 1748) rfl rfl rfl ?_
  exact k _ _ _ G2
theorem lw_1 {L i B C : Nat} {xs : Nat → Int32} {hi : Nat → Nat → Int32} {hl : Nat → Nat → Int64} {X : lm_X} {Q : Option Value → lm_H → Prop} (G : LG L xs B C hi hl X) (h7 : i + 7 ≤ L) (hL : L ≤ 3584) (hB : B + 20 < 2000000) (hC : C + 25 < 2147483648) (k : ∀ hi2 hl2 X2, LG L xs (B + 20) (C + 25) hi2 hl2 X2 → lm_wp 60 0 1748 [.ref 0, .ref 64, .ref 123, .int (nI i)] [] (hi2, hl2, X2) Q) : lm_wp 60 0 279 [.ref 0, .ref 64, .ref 123, .int (nI i)] [] (hi, hl, X) Q := by
  obtain ⟨D, T, n, R, KO, V, ts, tl, F, Z, P, M, s1, s2, s3⟩ := G
  show lm_wp (59 + 1) 0 279 [.ref 0, .ref 64, .ref 123, .int (nI i)] [] (hi, hl, X) Q
  obtain ⟨x, D1, T1, n1, R1, KO1, V1, ts1, tl1, F1, Z1, q1, q2⟩ : STI B 83 142 [.int (xs (i + 1)), .int (xs (i + 2)), .long (((Int32.toInt64 (xs (i + 3))) <<< (Int32.toInt64 32 &&& 63)) ||| ((Int32.toInt64 (xs (i + 4))) &&& 4294967295))] T n R KO V ts tl F := sti (st_set Z hB)
  have hc := lw_v Z1 q1 q2 P M s1 s2 s3 hC
  refine w_N 5 284 [.ref 0, .ref 64, .ref 123, .int (nI i)] [.int (nI i + 1), .ref 0, .ref 64] rfl ?_
  refine w_ia (i + 1) rfl s1 s2 (nI_add' i 1) (by omega) (by omega) (congrFun s3 (i + 1)) ?_
  refine w_N 4 289 [.ref 0, .ref 64, .ref 123, .int (nI i)] [.int (nI i + 2), .ref 0, .int (xs (i + 1)), .ref 64] rfl ?_
  refine w_ia (i + 2) rfl s1 s2 (nI_add' i 2) (by omega) (by omega) (congrFun s3 (i + 2)) ?_
  refine w_N 4 294 [.ref 0, .ref 64, .ref 123, .int (nI i)] [.int (nI i + 3), .ref 0, .int (xs (i + 2)), .int (xs (i + 1)), .ref 64] rfl ?_
  refine w_ia (i + 3) rfl s1 s2 (nI_add' i 3) (by omega) (by omega) (congrFun s3 (i + 3)) ?_
  refine w_N 7 303 [.ref 0, .ref 64, .ref 123, .int (nI i)] [.int (nI i + 4), .ref 0, .long ((Int32.toInt64 (xs (i + 3))) <<< (Int32.toInt64 32 &&& 63)), .int (xs (i + 2)), .int (xs (i + 1)), .ref 64] rfl ?_
  refine w_ia (i + 4) rfl s1 s2 (nI_add' i 4) (by omega) (by omega) (congrFun s3 (i + 4)) ?_
  refine w_N 4 310 [.ref 0, .ref 64, .ref 123, .int (nI i)] [.long (((Int32.toInt64 (xs (i + 3))) <<< (Int32.toInt64 32 &&& 63)) ||| ((Int32.toInt64 (xs (i + 4))) &&& 4294967295)), .int (xs (i + 2)), .int (xs (i + 1)), .ref 64] rfl ?_
  refine w_ca (w_vst rfl rfl rfl (Nat.le_of_ble_eq_true rfl) (Nat.le_of_ble_eq_true rfl) (A_k P.1 64 (by decide))) hc ?_
  rintro _ _ ⟨rfl, hi1, hl1, rfl, t3, hm⟩
  show lm_wp (59 + 1) 0 313 [.ref 0, .ref 64, .ref 123, .int (nI i)] [.int x] (hi1, hl1, X) _
  refine w_N 5 318 [.ref 0, .ref 64, .ref 123, .int (nI i)] [.int (nI i + 1), .ref 0, .ref 123, .int x] rfl ?_
  refine w_ia (i + 1) rfl s1 s2 (nI_add' i 1) (by omega) (by omega) (congrFun t3 (i + 1)) ?_
  refine w_N 4 323 [.ref 0, .ref 64, .ref 123, .int (nI i)] [.int (nI i + 2), .ref 0, .int (xs (i + 1)), .ref 123, .int x] rfl ?_
  refine w_ia (i + 2) rfl s1 s2 (nI_add' i 2) (by omega) (by omega) (congrFun t3 (i + 2)) ?_
  refine w_N 4 328 [.ref 0, .ref 64, .ref 123, .int (nI i)] [.int (nI i + 3), .ref 0, .int (xs (i + 2)), .int (xs (i + 1)), .ref 123, .int x] rfl ?_
  refine w_ia (i + 3) rfl s1 s2 (nI_add' i 3) (by omega) (by omega) (congrFun t3 (i + 3)) ?_
  refine w_N 7 337 [.ref 0, .ref 64, .ref 123, .int (nI i)] [.int (nI i + 4), .ref 0, .long ((Int32.toInt64 (xs (i + 3))) <<< (Int32.toInt64 32 &&& 63)), .int (xs (i + 2)), .int (xs (i + 1)), .ref 123, .int x] rfl ?_
  refine w_ia (i + 4) rfl s1 s2 (nI_add' i 4) (by omega) (by omega) (congrFun t3 (i + 4)) ?_
  refine w_N 4 344 [.ref 0, .ref 64, .ref 123, .int (nI i)] [.long (((Int32.toInt64 (xs (i + 3))) <<< (Int32.toInt64 32 &&& 63)) ||| ((Int32.toInt64 (xs (i + 4))) &&& 4294967295)), .int (xs (i + 2)), .int (xs (i + 1)), .ref 123, .int x] rfl ?_
  refine w_ca (w_vst rfl rfl rfl (Nat.le_of_ble_eq_true rfl) (Nat.le_of_ble_eq_true rfl) (M_kd M.1.1)) hm ?_
  rintro _ _ ⟨rfl, hi2, hl2, X2, rfl, G2⟩
  show lm_wp (59 + 1) 0 347 [.ref 0, .ref 64, .ref 123, .int (nI i)] [.int x, .int x] (hi2, hl2, X2) _
  refine w_icmp_eq_t (t := 1748) rfl rfl rfl ?_
  exact k _ _ _ G2
theorem lw_2 {L i B C : Nat} {xs : Nat → Int32} {hi : Nat → Nat → Int32} {hl : Nat → Nat → Int64} {X : lm_X} {Q : Option Value → lm_H → Prop} (G : LG L xs B C hi hl X) (h7 : i + 7 ≤ L) (hL : L ≤ 3584) (hB : B + 20 < 2000000) (hC : C + 25 < 2147483648) (k : ∀ hi2 hl2 X2, LG L xs (B + 20) (C + 25) hi2 hl2 X2 → lm_wp 60 0 1748 [.ref 0, .ref 64, .ref 123, .int (nI i)] [] (hi2, hl2, X2) Q) : lm_wp 60 0 352 [.ref 0, .ref 64, .ref 123, .int (nI i)] [] (hi, hl, X) Q := by
  obtain ⟨D, T, n, R, KO, V, ts, tl, F, Z, P, M, s1, s2, s3⟩ := G
  show lm_wp (59 + 1) 0 352 [.ref 0, .ref 64, .ref 123, .int (nI i)] [] (hi, hl, X) Q
  obtain ⟨x, D1, T1, n1, R1, KO1, V1, ts1, tl1, F1, Z1, q1, q2⟩ : STI B 84 143 [.int (xs (i + 1)), .int (xs (i + 2)), .int (xs (i + 3)), .int (xs (i + 4)), .int (xs (i + 5))] T n R KO V ts tl F := sti (st_copy Z hB)
  have hc := lw_v Z1 q1 q2 P M s1 s2 s3 hC
  refine w_N 5 357 [.ref 0, .ref 64, .ref 123, .int (nI i)] [.int (nI i + 1), .ref 0, .ref 64] rfl ?_
  refine w_ia (i + 1) rfl s1 s2 (nI_add' i 1) (by omega) (by omega) (congrFun s3 (i + 1)) ?_
  refine w_N 4 362 [.ref 0, .ref 64, .ref 123, .int (nI i)] [.int (nI i + 2), .ref 0, .int (xs (i + 1)), .ref 64] rfl ?_
  refine w_ia (i + 2) rfl s1 s2 (nI_add' i 2) (by omega) (by omega) (congrFun s3 (i + 2)) ?_
  refine w_N 4 367 [.ref 0, .ref 64, .ref 123, .int (nI i)] [.int (nI i + 3), .ref 0, .int (xs (i + 2)), .int (xs (i + 1)), .ref 64] rfl ?_
  refine w_ia (i + 3) rfl s1 s2 (nI_add' i 3) (by omega) (by omega) (congrFun s3 (i + 3)) ?_
  refine w_N 4 372 [.ref 0, .ref 64, .ref 123, .int (nI i)] [.int (nI i + 4), .ref 0, .int (xs (i + 3)), .int (xs (i + 2)), .int (xs (i + 1)), .ref 64] rfl ?_
  refine w_ia (i + 4) rfl s1 s2 (nI_add' i 4) (by omega) (by omega) (congrFun s3 (i + 4)) ?_
  refine w_N 4 377 [.ref 0, .ref 64, .ref 123, .int (nI i)] [.int (nI i + 5), .ref 0, .int (xs (i + 4)), .int (xs (i + 3)), .int (xs (i + 2)), .int (xs (i + 1)), .ref 64] rfl ?_
  refine w_ia (i + 5) rfl s1 s2 (nI_add' i 5) (by omega) (by omega) (congrFun s3 (i + 5)) ?_
  refine w_ca (w_vst rfl rfl rfl (Nat.le_of_ble_eq_true rfl) (Nat.le_of_ble_eq_true rfl) (A_k P.1 64 (by decide))) hc ?_
  rintro _ _ ⟨rfl, hi1, hl1, rfl, t3, hm⟩
  show lm_wp (59 + 1) 0 381 [.ref 0, .ref 64, .ref 123, .int (nI i)] [.int x] (hi1, hl1, X) _
  refine w_N 5 386 [.ref 0, .ref 64, .ref 123, .int (nI i)] [.int (nI i + 1), .ref 0, .ref 123, .int x] rfl ?_
  refine w_ia (i + 1) rfl s1 s2 (nI_add' i 1) (by omega) (by omega) (congrFun t3 (i + 1)) ?_
  refine w_N 4 391 [.ref 0, .ref 64, .ref 123, .int (nI i)] [.int (nI i + 2), .ref 0, .int (xs (i + 1)), .ref 123, .int x] rfl ?_
  refine w_ia (i + 2) rfl s1 s2 (nI_add' i 2) (by omega) (by omega) (congrFun t3 (i + 2)) ?_
  refine w_N 4 396 [.ref 0, .ref 64, .ref 123, .int (nI i)] [.int (nI i + 3), .ref 0, .int (xs (i + 2)), .int (xs (i + 1)), .ref 123, .int x] rfl ?_
  refine w_ia (i + 3) rfl s1 s2 (nI_add' i 3) (by omega) (by omega) (congrFun t3 (i + 3)) ?_
  refine w_N 4 401 [.ref 0, .ref 64, .ref 123, .int (nI i)] [.int (nI i + 4), .ref 0, .int (xs (i + 3)), .int (xs (i + 2)), .int (xs (i + 1)), .ref 123, .int x] rfl ?_
  refine w_ia (i + 4) rfl s1 s2 (nI_add' i 4) (by omega) (by omega) (congrFun t3 (i + 4)) ?_
  refine w_N 4 406 [.ref 0, .ref 64, .ref 123, .int (nI i)] [.int (nI i + 5), .ref 0, .int (xs (i + 4)), .int (xs (i + 3)), .int (xs (i + 2)), .int (xs (i + 1)), .ref 123, .int x] rfl ?_
  refine w_ia (i + 5) rfl s1 s2 (nI_add' i 5) (by omega) (by omega) (congrFun t3 (i + 5)) ?_
  refine w_ca (w_vst rfl rfl rfl (Nat.le_of_ble_eq_true rfl) (Nat.le_of_ble_eq_true rfl) (M_kd M.1.1)) hm ?_
  rintro _ _ ⟨rfl, hi2, hl2, X2, rfl, G2⟩
  show lm_wp (59 + 1) 0 410 [.ref 0, .ref 64, .ref 123, .int (nI i)] [.int x, .int x] (hi2, hl2, X2) _
  refine w_icmp_eq_t (t := 1748) rfl rfl rfl ?_
  exact k _ _ _ G2
theorem lw_3 {L i B C : Nat} {xs : Nat → Int32} {hi : Nat → Nat → Int32} {hl : Nat → Nat → Int64} {X : lm_X} {Q : Option Value → lm_H → Prop} (G : LG L xs B C hi hl X) (h7 : i + 7 ≤ L) (hL : L ≤ 3584) (hB : B + 20 < 2000000) (hC : C + 25 < 2147483648) (k : ∀ hi2 hl2 X2, LG L xs (B + 20) (C + 25) hi2 hl2 X2 → lm_wp 60 0 1748 [.ref 0, .ref 64, .ref 123, .int (nI i)] [] (hi2, hl2, X2) Q) : lm_wp 60 0 415 [.ref 0, .ref 64, .ref 123, .int (nI i)] [] (hi, hl, X) Q := by
  obtain ⟨D, T, n, R, KO, V, ts, tl, F, Z, P, M, s1, s2, s3⟩ := G
  show lm_wp (59 + 1) 0 415 [.ref 0, .ref 64, .ref 123, .int (nI i)] [] (hi, hl, X) Q
  obtain ⟨x, D1, T1, n1, R1, KO1, V1, ts1, tl1, F1, Z1, q1, q2⟩ : STEPL B 85 144 [.int (xs (i + 1)), .int (xs (i + 2))] T n R KO V ts tl F := st_element Z hB
  have hc := lw_v Z1 (fun _ _ _ _ _ _ P hC => lm_w_dep (by decide) (q1 _ _ _ _ _ _ P hC)) (fun _ _ _ _ _ _ P => lm_w_dep (by decide) (q2 _ _ _ _ _ _ P)) P M s1 s2 s3 hC
  refine w_N 5 420 [.ref 0, .ref 64, .ref 123, .int (nI i)] [.int (nI i + 1), .ref 0, .ref 64] rfl ?_
  refine w_ia (i + 1) rfl s1 s2 (nI_add' i 1) (by omega) (by omega) (congrFun s3 (i + 1)) ?_
  refine w_N 4 425 [.ref 0, .ref 64, .ref 123, .int (nI i)] [.int (nI i + 2), .ref 0, .int (xs (i + 1)), .ref 64] rfl ?_
  refine w_ia (i + 2) rfl s1 s2 (nI_add' i 2) (by omega) (by omega) (congrFun s3 (i + 2)) ?_
  refine w_ca (w_vst rfl rfl rfl (Nat.le_of_ble_eq_true rfl) (Nat.le_of_ble_eq_true rfl) (A_k P.1 64 (by decide))) hc ?_
  rintro _ _ ⟨rfl, hi1, hl1, rfl, t3, hm⟩
  show lm_wp (59 + 1) 0 429 [.ref 0, .ref 64, .ref 123, .int (nI i)] [.long x] (hi1, hl1, X) _
  refine w_N 5 434 [.ref 0, .ref 64, .ref 123, .int (nI i)] [.int (nI i + 1), .ref 0, .ref 123, .long x] rfl ?_
  refine w_ia (i + 1) rfl s1 s2 (nI_add' i 1) (by omega) (by omega) (congrFun t3 (i + 1)) ?_
  refine w_N 4 439 [.ref 0, .ref 64, .ref 123, .int (nI i)] [.int (nI i + 2), .ref 0, .int (xs (i + 1)), .ref 123, .long x] rfl ?_
  refine w_ia (i + 2) rfl s1 s2 (nI_add' i 2) (by omega) (by omega) (congrFun t3 (i + 2)) ?_
  refine w_ca (w_vst rfl rfl rfl (Nat.le_of_ble_eq_true rfl) (Nat.le_of_ble_eq_true rfl) (M_kd M.1.1)) hm ?_
  rintro _ _ ⟨rfl, hi2, hl2, X2, rfl, G2⟩
  show lm_wp (59 + 1) 0 443 [.ref 0, .ref 64, .ref 123, .int (nI i)] [.long x, .long x] (hi2, hl2, X2) _
  refine w_N 1 444 [.ref 0, .ref 64, .ref 123, .int (nI i)] [.int (lg_cmp x x)] rfl ?_
  refine w_if_eq_t (t := 1748) rfl rfl (lgc_self x) ?_
  exact k _ _ _ G2
theorem lw_4 {L i B C : Nat} {xs : Nat → Int32} {hi : Nat → Nat → Int32} {hl : Nat → Nat → Int64} {X : lm_X} {Q : Option Value → lm_H → Prop} (G : LG L xs B C hi hl X) (h7 : i + 7 ≤ L) (hL : L ≤ 3584) (hB : B + 20 < 2000000) (hC : C + 25 < 2147483648) (k : ∀ hi2 hl2 X2, LG L xs (B + 20) (C + 25) hi2 hl2 X2 → lm_wp 60 0 1748 [.ref 0, .ref 64, .ref 123, .int (nI i)] [] (hi2, hl2, X2) Q) : lm_wp 60 0 449 [.ref 0, .ref 64, .ref 123, .int (nI i)] [] (hi, hl, X) Q := by
  obtain ⟨D, T, n, R, KO, V, ts, tl, F, Z, P, M, s1, s2, s3⟩ := G
  show lm_wp (59 + 1) 0 449 [.ref 0, .ref 64, .ref 123, .int (nI i)] [] (hi, hl, X) Q
  obtain ⟨x, D1, T1, n1, R1, KO1, V1, ts1, tl1, F1, Z1, q1, q2⟩ : STI B 86 145 [.int (xs (i + 1))] T n R KO V ts tl F := sti (st_holds Z hB)
  have hc := lw_v Z1 q1 q2 P M s1 s2 s3 hC
  refine w_N 5 454 [.ref 0, .ref 64, .ref 123, .int (nI i)] [.int (nI i + 1), .ref 0, .ref 64] rfl ?_
  refine w_ia (i + 1) rfl s1 s2 (nI_add' i 1) (by omega) (by omega) (congrFun s3 (i + 1)) ?_
  refine w_ca (w_vst rfl rfl rfl (Nat.le_of_ble_eq_true rfl) (Nat.le_of_ble_eq_true rfl) (A_k P.1 64 (by decide))) hc ?_
  rintro _ _ ⟨rfl, hi1, hl1, rfl, t3, hm⟩
  show lm_wp (59 + 1) 0 458 [.ref 0, .ref 64, .ref 123, .int (nI i)] [.int x] (hi1, hl1, X) _
  refine w_N 5 463 [.ref 0, .ref 64, .ref 123, .int (nI i)] [.int (nI i + 1), .ref 0, .ref 123, .int x] rfl ?_
  refine w_ia (i + 1) rfl s1 s2 (nI_add' i 1) (by omega) (by omega) (congrFun t3 (i + 1)) ?_
  refine w_ca (w_vst rfl rfl rfl (Nat.le_of_ble_eq_true rfl) (Nat.le_of_ble_eq_true rfl) (M_kd M.1.1)) hm ?_
  rintro _ _ ⟨rfl, hi2, hl2, X2, rfl, G2⟩
  show lm_wp (59 + 1) 0 467 [.ref 0, .ref 64, .ref 123, .int (nI i)] [.int x, .int x] (hi2, hl2, X2) _
  refine w_icmp_eq_t (t := 1748) rfl rfl rfl ?_
  exact k _ _ _ G2
theorem lw_5 {L i B C : Nat} {xs : Nat → Int32} {hi : Nat → Nat → Int32} {hl : Nat → Nat → Int64} {X : lm_X} {Q : Option Value → lm_H → Prop} (G : LG L xs B C hi hl X) (h7 : i + 7 ≤ L) (hL : L ≤ 3584) (hB : B + 20 < 2000000) (hC : C + 25 < 2147483648) (k : ∀ hi2 hl2 X2, LG L xs (B + 20) (C + 25) hi2 hl2 X2 → lm_wp 60 0 1748 [.ref 0, .ref 64, .ref 123, .int (nI i)] [] (hi2, hl2, X2) Q) : lm_wp 60 0 472 [.ref 0, .ref 64, .ref 123, .int (nI i)] [] (hi, hl, X) Q := by
  obtain ⟨D, T, n, R, KO, V, ts, tl, F, Z, P, M, s1, s2, s3⟩ := G
  show lm_wp (59 + 1) 0 472 [.ref 0, .ref 64, .ref 123, .int (nI i)] [] (hi, hl, X) Q
  obtain ⟨x, D1, T1, n1, R1, KO1, V1, ts1, tl1, F1, Z1, q1, q2⟩ : STI B 87 146 [.int (xs (i + 1)), .int (xs (i + 2)), .int (xs (i + 3))] T n R KO V ts tl F := sti (st_rule Z hB)
  have hc := lw_v Z1 q1 q2 P M s1 s2 s3 hC
  refine w_N 5 477 [.ref 0, .ref 64, .ref 123, .int (nI i)] [.int (nI i + 1), .ref 0, .ref 64] rfl ?_
  refine w_ia (i + 1) rfl s1 s2 (nI_add' i 1) (by omega) (by omega) (congrFun s3 (i + 1)) ?_
  refine w_N 4 482 [.ref 0, .ref 64, .ref 123, .int (nI i)] [.int (nI i + 2), .ref 0, .int (xs (i + 1)), .ref 64] rfl ?_
  refine w_ia (i + 2) rfl s1 s2 (nI_add' i 2) (by omega) (by omega) (congrFun s3 (i + 2)) ?_
  refine w_N 4 487 [.ref 0, .ref 64, .ref 123, .int (nI i)] [.int (nI i + 3), .ref 0, .int (xs (i + 2)), .int (xs (i + 1)), .ref 64] rfl ?_
  refine w_ia (i + 3) rfl s1 s2 (nI_add' i 3) (by omega) (by omega) (congrFun s3 (i + 3)) ?_
  refine w_ca (w_vst rfl rfl rfl (Nat.le_of_ble_eq_true rfl) (Nat.le_of_ble_eq_true rfl) (A_k P.1 64 (by decide))) hc ?_
  rintro _ _ ⟨rfl, hi1, hl1, rfl, t3, hm⟩
  show lm_wp (59 + 1) 0 491 [.ref 0, .ref 64, .ref 123, .int (nI i)] [.int x] (hi1, hl1, X) _
  refine w_N 5 496 [.ref 0, .ref 64, .ref 123, .int (nI i)] [.int (nI i + 1), .ref 0, .ref 123, .int x] rfl ?_
  refine w_ia (i + 1) rfl s1 s2 (nI_add' i 1) (by omega) (by omega) (congrFun t3 (i + 1)) ?_
  refine w_N 4 501 [.ref 0, .ref 64, .ref 123, .int (nI i)] [.int (nI i + 2), .ref 0, .int (xs (i + 1)), .ref 123, .int x] rfl ?_
  refine w_ia (i + 2) rfl s1 s2 (nI_add' i 2) (by omega) (by omega) (congrFun t3 (i + 2)) ?_
  refine w_N 4 506 [.ref 0, .ref 64, .ref 123, .int (nI i)] [.int (nI i + 3), .ref 0, .int (xs (i + 2)), .int (xs (i + 1)), .ref 123, .int x] rfl ?_
  refine w_ia (i + 3) rfl s1 s2 (nI_add' i 3) (by omega) (by omega) (congrFun t3 (i + 3)) ?_
  refine w_ca (w_vst rfl rfl rfl (Nat.le_of_ble_eq_true rfl) (Nat.le_of_ble_eq_true rfl) (M_kd M.1.1)) hm ?_
  rintro _ _ ⟨rfl, hi2, hl2, X2, rfl, G2⟩
  show lm_wp (59 + 1) 0 510 [.ref 0, .ref 64, .ref 123, .int (nI i)] [.int x, .int x] (hi2, hl2, X2) _
  refine w_icmp_eq_t (t := 1748) rfl rfl rfl ?_
  exact k _ _ _ G2
theorem lw_6 {L i B C : Nat} {xs : Nat → Int32} {hi : Nat → Nat → Int32} {hl : Nat → Nat → Int64} {X : lm_X} {Q : Option Value → lm_H → Prop} (G : LG L xs B C hi hl X) (h7 : i + 7 ≤ L) (hL : L ≤ 3584) (hB : B + 20 < 2000000) (hC : C + 25 < 2147483648) (k : ∀ hi2 hl2 X2, LG L xs (B + 20) (C + 25) hi2 hl2 X2 → lm_wp 60 0 1748 [.ref 0, .ref 64, .ref 123, .int (nI i)] [] (hi2, hl2, X2) Q) : lm_wp 60 0 515 [.ref 0, .ref 64, .ref 123, .int (nI i)] [] (hi, hl, X) Q := by
  obtain ⟨D, T, n, R, KO, V, ts, tl, F, Z, P, M, s1, s2, s3⟩ := G
  show lm_wp (59 + 1) 0 515 [.ref 0, .ref 64, .ref 123, .int (nI i)] [] (hi, hl, X) Q
  obtain ⟨x, D1, T1, n1, R1, KO1, V1, ts1, tl1, F1, Z1, q1, q2⟩ : STI B 88 148 [.int (xs (i + 1)), .int (xs (i + 2))] T n R KO V ts tl F := sti (st_says Z hB)
  have hc := lw_v Z1 q1 q2 P M s1 s2 s3 hC
  refine w_N 5 520 [.ref 0, .ref 64, .ref 123, .int (nI i)] [.int (nI i + 1), .ref 0, .ref 64] rfl ?_
  refine w_ia (i + 1) rfl s1 s2 (nI_add' i 1) (by omega) (by omega) (congrFun s3 (i + 1)) ?_
  refine w_N 4 525 [.ref 0, .ref 64, .ref 123, .int (nI i)] [.int (nI i + 2), .ref 0, .int (xs (i + 1)), .ref 64] rfl ?_
  refine w_ia (i + 2) rfl s1 s2 (nI_add' i 2) (by omega) (by omega) (congrFun s3 (i + 2)) ?_
  refine w_ca (w_vst rfl rfl rfl (Nat.le_of_ble_eq_true rfl) (Nat.le_of_ble_eq_true rfl) (A_k P.1 64 (by decide))) hc ?_
  rintro _ _ ⟨rfl, hi1, hl1, rfl, t3, hm⟩
  show lm_wp (59 + 1) 0 529 [.ref 0, .ref 64, .ref 123, .int (nI i)] [.int x] (hi1, hl1, X) _
  refine w_N 5 534 [.ref 0, .ref 64, .ref 123, .int (nI i)] [.int (nI i + 1), .ref 0, .ref 123, .int x] rfl ?_
  refine w_ia (i + 1) rfl s1 s2 (nI_add' i 1) (by omega) (by omega) (congrFun t3 (i + 1)) ?_
  refine w_N 4 539 [.ref 0, .ref 64, .ref 123, .int (nI i)] [.int (nI i + 2), .ref 0, .int (xs (i + 1)), .ref 123, .int x] rfl ?_
  refine w_ia (i + 2) rfl s1 s2 (nI_add' i 2) (by omega) (by omega) (congrFun t3 (i + 2)) ?_
  refine w_ca (w_vst rfl rfl rfl (Nat.le_of_ble_eq_true rfl) (Nat.le_of_ble_eq_true rfl) (M_kd M.1.1)) hm ?_
  rintro _ _ ⟨rfl, hi2, hl2, X2, rfl, G2⟩
  show lm_wp (59 + 1) 0 543 [.ref 0, .ref 64, .ref 123, .int (nI i)] [.int x, .int x] (hi2, hl2, X2) _
  refine w_icmp_eq_t (t := 1748) rfl rfl rfl ?_
  exact k _ _ _ G2
theorem lw_7 {L i B C : Nat} {xs : Nat → Int32} {hi : Nat → Nat → Int32} {hl : Nat → Nat → Int64} {X : lm_X} {Q : Option Value → lm_H → Prop} (G : LG L xs B C hi hl X) (h7 : i + 7 ≤ L) (hL : L ≤ 3584) (hB : B + 20 < 2000000) (hC : C + 25 < 2147483648) (k : ∀ hi2 hl2 X2, LG L xs (B + 20) (C + 25) hi2 hl2 X2 → lm_wp 60 0 1748 [.ref 0, .ref 64, .ref 123, .int (nI i)] [] (hi2, hl2, X2) Q) : lm_wp 60 0 548 [.ref 0, .ref 64, .ref 123, .int (nI i)] [] (hi, hl, X) Q := by
  obtain ⟨D, T, n, R, KO, V, ts, tl, F, Z, P, M, s1, s2, s3⟩ := G
  show lm_wp (59 + 1) 0 548 [.ref 0, .ref 64, .ref 123, .int (nI i)] [] (hi, hl, X) Q
  obtain ⟨x, D1, T1, n1, R1, KO1, V1, ts1, tl1, F1, Z1, q1, q2⟩ : STI B 89 149 [.int (xs (i + 1)), .int (xs (i + 2)), .int (xs (i + 3)), .int (xs (i + 4)), .int (xs (i + 5)), .int (xs (i + 6))] T n R KO V ts tl F := sti (st_act Z hB)
  have hc := lw_v Z1 q1 q2 P M s1 s2 s3 hC
  refine w_N 5 553 [.ref 0, .ref 64, .ref 123, .int (nI i)] [.int (nI i + 1), .ref 0, .ref 64] rfl ?_
  refine w_ia (i + 1) rfl s1 s2 (nI_add' i 1) (by omega) (by omega) (congrFun s3 (i + 1)) ?_
  refine w_N 4 558 [.ref 0, .ref 64, .ref 123, .int (nI i)] [.int (nI i + 2), .ref 0, .int (xs (i + 1)), .ref 64] rfl ?_
  refine w_ia (i + 2) rfl s1 s2 (nI_add' i 2) (by omega) (by omega) (congrFun s3 (i + 2)) ?_
  refine w_N 4 563 [.ref 0, .ref 64, .ref 123, .int (nI i)] [.int (nI i + 3), .ref 0, .int (xs (i + 2)), .int (xs (i + 1)), .ref 64] rfl ?_
  refine w_ia (i + 3) rfl s1 s2 (nI_add' i 3) (by omega) (by omega) (congrFun s3 (i + 3)) ?_
  refine w_N 4 568 [.ref 0, .ref 64, .ref 123, .int (nI i)] [.int (nI i + 4), .ref 0, .int (xs (i + 3)), .int (xs (i + 2)), .int (xs (i + 1)), .ref 64] rfl ?_
  refine w_ia (i + 4) rfl s1 s2 (nI_add' i 4) (by omega) (by omega) (congrFun s3 (i + 4)) ?_
  refine w_N 4 573 [.ref 0, .ref 64, .ref 123, .int (nI i)] [.int (nI i + 5), .ref 0, .int (xs (i + 4)), .int (xs (i + 3)), .int (xs (i + 2)), .int (xs (i + 1)), .ref 64] rfl ?_
  refine w_ia (i + 5) rfl s1 s2 (nI_add' i 5) (by omega) (by omega) (congrFun s3 (i + 5)) ?_
  refine w_N 4 579 [.ref 0, .ref 64, .ref 123, .int (nI i)] [.int (nI i + 6), .ref 0, .int (xs (i + 5)), .int (xs (i + 4)), .int (xs (i + 3)), .int (xs (i + 2)), .int (xs (i + 1)), .ref 64] rfl ?_
  refine w_ia (i + 6) rfl s1 s2 (nI_add' i 6) (by omega) (by omega) (congrFun s3 (i + 6)) ?_
  refine w_ca (w_vst rfl rfl rfl (Nat.le_of_ble_eq_true rfl) (Nat.le_of_ble_eq_true rfl) (A_k P.1 64 (by decide))) hc ?_
  rintro _ _ ⟨rfl, hi1, hl1, rfl, t3, hm⟩
  show lm_wp (59 + 1) 0 583 [.ref 0, .ref 64, .ref 123, .int (nI i)] [.int x] (hi1, hl1, X) _
  refine w_N 5 588 [.ref 0, .ref 64, .ref 123, .int (nI i)] [.int (nI i + 1), .ref 0, .ref 123, .int x] rfl ?_
  refine w_ia (i + 1) rfl s1 s2 (nI_add' i 1) (by omega) (by omega) (congrFun t3 (i + 1)) ?_
  refine w_N 4 593 [.ref 0, .ref 64, .ref 123, .int (nI i)] [.int (nI i + 2), .ref 0, .int (xs (i + 1)), .ref 123, .int x] rfl ?_
  refine w_ia (i + 2) rfl s1 s2 (nI_add' i 2) (by omega) (by omega) (congrFun t3 (i + 2)) ?_
  refine w_N 4 598 [.ref 0, .ref 64, .ref 123, .int (nI i)] [.int (nI i + 3), .ref 0, .int (xs (i + 2)), .int (xs (i + 1)), .ref 123, .int x] rfl ?_
  refine w_ia (i + 3) rfl s1 s2 (nI_add' i 3) (by omega) (by omega) (congrFun t3 (i + 3)) ?_
  refine w_N 4 603 [.ref 0, .ref 64, .ref 123, .int (nI i)] [.int (nI i + 4), .ref 0, .int (xs (i + 3)), .int (xs (i + 2)), .int (xs (i + 1)), .ref 123, .int x] rfl ?_
  refine w_ia (i + 4) rfl s1 s2 (nI_add' i 4) (by omega) (by omega) (congrFun t3 (i + 4)) ?_
  refine w_N 4 608 [.ref 0, .ref 64, .ref 123, .int (nI i)] [.int (nI i + 5), .ref 0, .int (xs (i + 4)), .int (xs (i + 3)), .int (xs (i + 2)), .int (xs (i + 1)), .ref 123, .int x] rfl ?_
  refine w_ia (i + 5) rfl s1 s2 (nI_add' i 5) (by omega) (by omega) (congrFun t3 (i + 5)) ?_
  refine w_N 4 614 [.ref 0, .ref 64, .ref 123, .int (nI i)] [.int (nI i + 6), .ref 0, .int (xs (i + 5)), .int (xs (i + 4)), .int (xs (i + 3)), .int (xs (i + 2)), .int (xs (i + 1)), .ref 123, .int x] rfl ?_
  refine w_ia (i + 6) rfl s1 s2 (nI_add' i 6) (by omega) (by omega) (congrFun t3 (i + 6)) ?_
  refine w_ca (w_vst rfl rfl rfl (Nat.le_of_ble_eq_true rfl) (Nat.le_of_ble_eq_true rfl) (M_kd M.1.1)) hm ?_
  rintro _ _ ⟨rfl, hi2, hl2, X2, rfl, G2⟩
  show lm_wp (59 + 1) 0 618 [.ref 0, .ref 64, .ref 123, .int (nI i)] [.int x, .int x] (hi2, hl2, X2) _
  refine w_icmp_eq_t (t := 1748) rfl rfl rfl ?_
  exact k _ _ _ G2
theorem lw_8 {L i B C : Nat} {xs : Nat → Int32} {hi : Nat → Nat → Int32} {hl : Nat → Nat → Int64} {X : lm_X} {Q : Option Value → lm_H → Prop} (G : LG L xs B C hi hl X) (h7 : i + 7 ≤ L) (hL : L ≤ 3584) (hB : B + 20 < 2000000) (hC : C + 25 < 2147483648) (k : ∀ hi2 hl2 X2, LG L xs (B + 20) (C + 25) hi2 hl2 X2 → lm_wp 60 0 1748 [.ref 0, .ref 64, .ref 123, .int (nI i)] [] (hi2, hl2, X2) Q) : lm_wp 60 0 623 [.ref 0, .ref 64, .ref 123, .int (nI i)] [] (hi, hl, X) Q := by
  obtain ⟨D, T, n, R, KO, V, ts, tl, F, Z, P, M, s1, s2, s3⟩ := G
  show lm_wp (59 + 1) 0 623 [.ref 0, .ref 64, .ref 123, .int (nI i)] [] (hi, hl, X) Q
  by_cases hb : (xs (i + 2)) = 0
  · obtain ⟨x, D1, T1, n1, R1, KO1, V1, ts1, tl1, F1, Z1, q1, q2⟩ : STI B 90 150 [.int (xs (i + 1)), .int 0] T n R KO V ts tl F := sti (st_mark (is := false) Z hB)
    have hc := lw_v Z1 q1 q2 P M s1 s2 s3 hC
    refine w_N 5 628 [.ref 0, .ref 64, .ref 123, .int (nI i)] [.int (nI i + 1), .ref 0, .ref 64] rfl ?_
    refine w_ia (i + 1) rfl s1 s2 (nI_add' i 1) (by omega) (by omega) (congrFun s3 (i + 1)) ?_
    refine w_N 4 633 [.ref 0, .ref 64, .ref 123, .int (nI i)] [.int (nI i + 2), .ref 0, .int (xs (i + 1)), .ref 64] rfl ?_
    refine w_ia (i + 2) rfl s1 s2 (nI_add' i 2) (by omega) (by omega) (congrFun s3 (i + 2)) ?_
    refine w_if_eq_t (t := 641) rfl rfl hb ?_
    refine w_N 1 642 [.ref 0, .ref 64, .ref 123, .int (nI i)] [.int 0, .int (xs (i + 1)), .ref 64] rfl ?_
    refine w_ca (w_vst rfl rfl rfl (Nat.le_of_ble_eq_true rfl) (Nat.le_of_ble_eq_true rfl) (A_k P.1 64 (by decide))) hc ?_
    rintro _ _ ⟨rfl, hi1, hl1, rfl, t3, hm⟩
    show lm_wp (59 + 1) 0 645 [.ref 0, .ref 64, .ref 123, .int (nI i)] [.int x] (hi1, hl1, X) _
    refine w_N 5 650 [.ref 0, .ref 64, .ref 123, .int (nI i)] [.int (nI i + 1), .ref 0, .ref 123, .int x] rfl ?_
    refine w_ia (i + 1) rfl s1 s2 (nI_add' i 1) (by omega) (by omega) (congrFun t3 (i + 1)) ?_
    refine w_N 4 655 [.ref 0, .ref 64, .ref 123, .int (nI i)] [.int (nI i + 2), .ref 0, .int (xs (i + 1)), .ref 123, .int x] rfl ?_
    refine w_ia (i + 2) rfl s1 s2 (nI_add' i 2) (by omega) (by omega) (congrFun t3 (i + 2)) ?_
    refine w_if_eq_t (t := 663) rfl rfl hb ?_
    refine w_N 1 664 [.ref 0, .ref 64, .ref 123, .int (nI i)] [.int 0, .int (xs (i + 1)), .ref 123, .int x] rfl ?_
    refine w_ca (w_vst rfl rfl rfl (Nat.le_of_ble_eq_true rfl) (Nat.le_of_ble_eq_true rfl) (M_kd M.1.1)) hm ?_
    rintro _ _ ⟨rfl, hi2, hl2, X2, rfl, G2⟩
    show lm_wp (59 + 1) 0 667 [.ref 0, .ref 64, .ref 123, .int (nI i)] [.int x, .int x] (hi2, hl2, X2) _
    refine w_icmp_eq_t (t := 1748) rfl rfl rfl ?_
    exact k _ _ _ G2
  · obtain ⟨x, D1, T1, n1, R1, KO1, V1, ts1, tl1, F1, Z1, q1, q2⟩ : STI B 90 150 [.int (xs (i + 1)), .int 1] T n R KO V ts tl F := sti (st_mark (is := true) Z hB)
    have hc := lw_v Z1 q1 q2 P M s1 s2 s3 hC
    refine w_N 5 628 [.ref 0, .ref 64, .ref 123, .int (nI i)] [.int (nI i + 1), .ref 0, .ref 64] rfl ?_
    refine w_ia (i + 1) rfl s1 s2 (nI_add' i 1) (by omega) (by omega) (congrFun s3 (i + 1)) ?_
    refine w_N 4 633 [.ref 0, .ref 64, .ref 123, .int (nI i)] [.int (nI i + 2), .ref 0, .int (xs (i + 1)), .ref 64] rfl ?_
    refine w_ia (i + 2) rfl s1 s2 (nI_add' i 2) (by omega) (by omega) (congrFun s3 (i + 2)) ?_
    refine w_if_eq_f (t := 641) rfl rfl hb ?_
    refine w_N 2 642 [.ref 0, .ref 64, .ref 123, .int (nI i)] [.int 1, .int (xs (i + 1)), .ref 64] rfl ?_
    refine w_ca (w_vst rfl rfl rfl (Nat.le_of_ble_eq_true rfl) (Nat.le_of_ble_eq_true rfl) (A_k P.1 64 (by decide))) hc ?_
    rintro _ _ ⟨rfl, hi1, hl1, rfl, t3, hm⟩
    show lm_wp (59 + 1) 0 645 [.ref 0, .ref 64, .ref 123, .int (nI i)] [.int x] (hi1, hl1, X) _
    refine w_N 5 650 [.ref 0, .ref 64, .ref 123, .int (nI i)] [.int (nI i + 1), .ref 0, .ref 123, .int x] rfl ?_
    refine w_ia (i + 1) rfl s1 s2 (nI_add' i 1) (by omega) (by omega) (congrFun t3 (i + 1)) ?_
    refine w_N 4 655 [.ref 0, .ref 64, .ref 123, .int (nI i)] [.int (nI i + 2), .ref 0, .int (xs (i + 1)), .ref 123, .int x] rfl ?_
    refine w_ia (i + 2) rfl s1 s2 (nI_add' i 2) (by omega) (by omega) (congrFun t3 (i + 2)) ?_
    refine w_if_eq_f (t := 663) rfl rfl hb ?_
    refine w_N 2 664 [.ref 0, .ref 64, .ref 123, .int (nI i)] [.int 1, .int (xs (i + 1)), .ref 123, .int x] rfl ?_
    refine w_ca (w_vst rfl rfl rfl (Nat.le_of_ble_eq_true rfl) (Nat.le_of_ble_eq_true rfl) (M_kd M.1.1)) hm ?_
    rintro _ _ ⟨rfl, hi2, hl2, X2, rfl, G2⟩
    show lm_wp (59 + 1) 0 667 [.ref 0, .ref 64, .ref 123, .int (nI i)] [.int x, .int x] (hi2, hl2, X2) _
    refine w_icmp_eq_t (t := 1748) rfl rfl rfl ?_
    exact k _ _ _ G2
theorem lw_9 {L i B C : Nat} {xs : Nat → Int32} {hi : Nat → Nat → Int32} {hl : Nat → Nat → Int64} {X : lm_X} {Q : Option Value → lm_H → Prop} (G : LG L xs B C hi hl X) (h7 : i + 7 ≤ L) (hL : L ≤ 3584) (hB : B + 20 < 2000000) (hC : C + 25 < 2147483648) (k : ∀ hi2 hl2 X2, LG L xs (B + 20) (C + 25) hi2 hl2 X2 → lm_wp 60 0 1748 [.ref 0, .ref 64, .ref 123, .int (nI i)] [] (hi2, hl2, X2) Q) : lm_wp 60 0 672 [.ref 0, .ref 64, .ref 123, .int (nI i)] [] (hi, hl, X) Q := by
  obtain ⟨D, T, n, R, KO, V, ts, tl, F, Z, P, M, s1, s2, s3⟩ := G
  show lm_wp (59 + 1) 0 672 [.ref 0, .ref 64, .ref 123, .int (nI i)] [] (hi, hl, X) Q
  obtain ⟨x, D1, T1, n1, R1, KO1, V1, ts1, tl1, F1, Z1, q1, q2⟩ : STI B 91 151 [.int (xs (i + 1)), .int (xs (i + 2))] T n R KO V ts tl F := sti (st_count Z hB)
  have hc := lw_v Z1 q1 q2 P M s1 s2 s3 hC
  refine w_N 5 677 [.ref 0, .ref 64, .ref 123, .int (nI i)] [.int (nI i + 1), .ref 0, .ref 64] rfl ?_
  refine w_ia (i + 1) rfl s1 s2 (nI_add' i 1) (by omega) (by omega) (congrFun s3 (i + 1)) ?_
  refine w_N 4 682 [.ref 0, .ref 64, .ref 123, .int (nI i)] [.int (nI i + 2), .ref 0, .int (xs (i + 1)), .ref 64] rfl ?_
  refine w_ia (i + 2) rfl s1 s2 (nI_add' i 2) (by omega) (by omega) (congrFun s3 (i + 2)) ?_
  refine w_ca (w_vst rfl rfl rfl (Nat.le_of_ble_eq_true rfl) (Nat.le_of_ble_eq_true rfl) (A_k P.1 64 (by decide))) hc ?_
  rintro _ _ ⟨rfl, hi1, hl1, rfl, t3, hm⟩
  show lm_wp (59 + 1) 0 686 [.ref 0, .ref 64, .ref 123, .int (nI i)] [.int x] (hi1, hl1, X) _
  refine w_N 5 691 [.ref 0, .ref 64, .ref 123, .int (nI i)] [.int (nI i + 1), .ref 0, .ref 123, .int x] rfl ?_
  refine w_ia (i + 1) rfl s1 s2 (nI_add' i 1) (by omega) (by omega) (congrFun t3 (i + 1)) ?_
  refine w_N 4 696 [.ref 0, .ref 64, .ref 123, .int (nI i)] [.int (nI i + 2), .ref 0, .int (xs (i + 1)), .ref 123, .int x] rfl ?_
  refine w_ia (i + 2) rfl s1 s2 (nI_add' i 2) (by omega) (by omega) (congrFun t3 (i + 2)) ?_
  refine w_ca (w_vst rfl rfl rfl (Nat.le_of_ble_eq_true rfl) (Nat.le_of_ble_eq_true rfl) (M_kd M.1.1)) hm ?_
  rintro _ _ ⟨rfl, hi2, hl2, X2, rfl, G2⟩
  show lm_wp (59 + 1) 0 700 [.ref 0, .ref 64, .ref 123, .int (nI i)] [.int x, .int x] (hi2, hl2, X2) _
  refine w_icmp_eq_t (t := 1748) rfl rfl rfl ?_
  exact k _ _ _ G2
theorem lw_10 {L i B C : Nat} {xs : Nat → Int32} {hi : Nat → Nat → Int32} {hl : Nat → Nat → Int64} {X : lm_X} {Q : Option Value → lm_H → Prop} (G : LG L xs B C hi hl X) (h7 : i + 7 ≤ L) (hL : L ≤ 3584) (hB : B + 20 < 2000000) (hC : C + 25 < 2147483648) (k : ∀ hi2 hl2 X2, LG L xs (B + 20) (C + 25) hi2 hl2 X2 → lm_wp 60 0 1748 [.ref 0, .ref 64, .ref 123, .int (nI i)] [] (hi2, hl2, X2) Q) : lm_wp 60 0 705 [.ref 0, .ref 64, .ref 123, .int (nI i)] [] (hi, hl, X) Q := by
  obtain ⟨D, T, n, R, KO, V, ts, tl, F, Z, P, M, s1, s2, s3⟩ := G
  show lm_wp (59 + 1) 0 705 [.ref 0, .ref 64, .ref 123, .int (nI i)] [] (hi, hl, X) Q
  obtain ⟨x, D1, T1, n1, R1, KO1, V1, ts1, tl1, F1, Z1, q1, q2⟩ : STI B 92 152 [.int (xs (i + 1)), .int (xs (i + 2)), .int (xs (i + 3))] T n R KO V ts tl F := sti (st_likes Z hB)
  have hc := lw_v Z1 q1 q2 P M s1 s2 s3 hC
  refine w_N 5 710 [.ref 0, .ref 64, .ref 123, .int (nI i)] [.int (nI i + 1), .ref 0, .ref 64] rfl ?_
  refine w_ia (i + 1) rfl s1 s2 (nI_add' i 1) (by omega) (by omega) (congrFun s3 (i + 1)) ?_
  refine w_N 4 715 [.ref 0, .ref 64, .ref 123, .int (nI i)] [.int (nI i + 2), .ref 0, .int (xs (i + 1)), .ref 64] rfl ?_
  refine w_ia (i + 2) rfl s1 s2 (nI_add' i 2) (by omega) (by omega) (congrFun s3 (i + 2)) ?_
  refine w_N 4 720 [.ref 0, .ref 64, .ref 123, .int (nI i)] [.int (nI i + 3), .ref 0, .int (xs (i + 2)), .int (xs (i + 1)), .ref 64] rfl ?_
  refine w_ia (i + 3) rfl s1 s2 (nI_add' i 3) (by omega) (by omega) (congrFun s3 (i + 3)) ?_
  refine w_ca (w_vst rfl rfl rfl (Nat.le_of_ble_eq_true rfl) (Nat.le_of_ble_eq_true rfl) (A_k P.1 64 (by decide))) hc ?_
  rintro _ _ ⟨rfl, hi1, hl1, rfl, t3, hm⟩
  show lm_wp (59 + 1) 0 724 [.ref 0, .ref 64, .ref 123, .int (nI i)] [.int x] (hi1, hl1, X) _
  refine w_N 5 729 [.ref 0, .ref 64, .ref 123, .int (nI i)] [.int (nI i + 1), .ref 0, .ref 123, .int x] rfl ?_
  refine w_ia (i + 1) rfl s1 s2 (nI_add' i 1) (by omega) (by omega) (congrFun t3 (i + 1)) ?_
  refine w_N 4 734 [.ref 0, .ref 64, .ref 123, .int (nI i)] [.int (nI i + 2), .ref 0, .int (xs (i + 1)), .ref 123, .int x] rfl ?_
  refine w_ia (i + 2) rfl s1 s2 (nI_add' i 2) (by omega) (by omega) (congrFun t3 (i + 2)) ?_
  refine w_N 4 739 [.ref 0, .ref 64, .ref 123, .int (nI i)] [.int (nI i + 3), .ref 0, .int (xs (i + 2)), .int (xs (i + 1)), .ref 123, .int x] rfl ?_
  refine w_ia (i + 3) rfl s1 s2 (nI_add' i 3) (by omega) (by omega) (congrFun t3 (i + 3)) ?_
  refine w_ca (w_vst rfl rfl rfl (Nat.le_of_ble_eq_true rfl) (Nat.le_of_ble_eq_true rfl) (M_kd M.1.1)) hm ?_
  rintro _ _ ⟨rfl, hi2, hl2, X2, rfl, G2⟩
  show lm_wp (59 + 1) 0 743 [.ref 0, .ref 64, .ref 123, .int (nI i)] [.int x, .int x] (hi2, hl2, X2) _
  refine w_icmp_eq_t (t := 1748) rfl rfl rfl ?_
  exact k _ _ _ G2
theorem lw_11 {L i B C : Nat} {xs : Nat → Int32} {hi : Nat → Nat → Int32} {hl : Nat → Nat → Int64} {X : lm_X} {Q : Option Value → lm_H → Prop} (G : LG L xs B C hi hl X) (h7 : i + 7 ≤ L) (hL : L ≤ 3584) (hB : B + 20 < 2000000) (hC : C + 25 < 2147483648) (k : ∀ hi2 hl2 X2, LG L xs (B + 20) (C + 25) hi2 hl2 X2 → lm_wp 60 0 1748 [.ref 0, .ref 64, .ref 123, .int (nI i)] [] (hi2, hl2, X2) Q) : lm_wp 60 0 748 [.ref 0, .ref 64, .ref 123, .int (nI i)] [] (hi, hl, X) Q := by
  obtain ⟨D, T, n, R, KO, V, ts, tl, F, Z, P, M, s1, s2, s3⟩ := G
  show lm_wp (59 + 1) 0 748 [.ref 0, .ref 64, .ref 123, .int (nI i)] [] (hi, hl, X) Q
  by_cases hb : (xs (i + 3)) = 0
  · obtain ⟨x, D1, T1, n1, R1, KO1, V1, ts1, tl1, F1, Z1, q1, q2⟩ : STI B 93 153 [.int (xs (i + 1)), .int (xs (i + 2)), .int 0] T n R KO V ts tl F := sti (st_lock (is := false) Z hB)
    have hc := lw_v Z1 q1 q2 P M s1 s2 s3 hC
    refine w_N 5 753 [.ref 0, .ref 64, .ref 123, .int (nI i)] [.int (nI i + 1), .ref 0, .ref 64] rfl ?_
    refine w_ia (i + 1) rfl s1 s2 (nI_add' i 1) (by omega) (by omega) (congrFun s3 (i + 1)) ?_
    refine w_N 4 758 [.ref 0, .ref 64, .ref 123, .int (nI i)] [.int (nI i + 2), .ref 0, .int (xs (i + 1)), .ref 64] rfl ?_
    refine w_ia (i + 2) rfl s1 s2 (nI_add' i 2) (by omega) (by omega) (congrFun s3 (i + 2)) ?_
    refine w_N 4 763 [.ref 0, .ref 64, .ref 123, .int (nI i)] [.int (nI i + 3), .ref 0, .int (xs (i + 2)), .int (xs (i + 1)), .ref 64] rfl ?_
    refine w_ia (i + 3) rfl s1 s2 (nI_add' i 3) (by omega) (by omega) (congrFun s3 (i + 3)) ?_
    refine w_if_eq_t (t := 771) rfl rfl hb ?_
    refine w_N 1 772 [.ref 0, .ref 64, .ref 123, .int (nI i)] [.int 0, .int (xs (i + 2)), .int (xs (i + 1)), .ref 64] rfl ?_
    refine w_ca (w_vst rfl rfl rfl (Nat.le_of_ble_eq_true rfl) (Nat.le_of_ble_eq_true rfl) (A_k P.1 64 (by decide))) hc ?_
    rintro _ _ ⟨rfl, hi1, hl1, rfl, t3, hm⟩
    show lm_wp (59 + 1) 0 775 [.ref 0, .ref 64, .ref 123, .int (nI i)] [.int x] (hi1, hl1, X) _
    refine w_N 5 780 [.ref 0, .ref 64, .ref 123, .int (nI i)] [.int (nI i + 1), .ref 0, .ref 123, .int x] rfl ?_
    refine w_ia (i + 1) rfl s1 s2 (nI_add' i 1) (by omega) (by omega) (congrFun t3 (i + 1)) ?_
    refine w_N 4 785 [.ref 0, .ref 64, .ref 123, .int (nI i)] [.int (nI i + 2), .ref 0, .int (xs (i + 1)), .ref 123, .int x] rfl ?_
    refine w_ia (i + 2) rfl s1 s2 (nI_add' i 2) (by omega) (by omega) (congrFun t3 (i + 2)) ?_
    refine w_N 4 790 [.ref 0, .ref 64, .ref 123, .int (nI i)] [.int (nI i + 3), .ref 0, .int (xs (i + 2)), .int (xs (i + 1)), .ref 123, .int x] rfl ?_
    refine w_ia (i + 3) rfl s1 s2 (nI_add' i 3) (by omega) (by omega) (congrFun t3 (i + 3)) ?_
    refine w_if_eq_t (t := 798) rfl rfl hb ?_
    refine w_N 1 799 [.ref 0, .ref 64, .ref 123, .int (nI i)] [.int 0, .int (xs (i + 2)), .int (xs (i + 1)), .ref 123, .int x] rfl ?_
    refine w_ca (w_vst rfl rfl rfl (Nat.le_of_ble_eq_true rfl) (Nat.le_of_ble_eq_true rfl) (M_kd M.1.1)) hm ?_
    rintro _ _ ⟨rfl, hi2, hl2, X2, rfl, G2⟩
    show lm_wp (59 + 1) 0 802 [.ref 0, .ref 64, .ref 123, .int (nI i)] [.int x, .int x] (hi2, hl2, X2) _
    refine w_icmp_eq_t (t := 1748) rfl rfl rfl ?_
    exact k _ _ _ G2
  · obtain ⟨x, D1, T1, n1, R1, KO1, V1, ts1, tl1, F1, Z1, q1, q2⟩ : STI B 93 153 [.int (xs (i + 1)), .int (xs (i + 2)), .int 1] T n R KO V ts tl F := sti (st_lock (is := true) Z hB)
    have hc := lw_v Z1 q1 q2 P M s1 s2 s3 hC
    refine w_N 5 753 [.ref 0, .ref 64, .ref 123, .int (nI i)] [.int (nI i + 1), .ref 0, .ref 64] rfl ?_
    refine w_ia (i + 1) rfl s1 s2 (nI_add' i 1) (by omega) (by omega) (congrFun s3 (i + 1)) ?_
    refine w_N 4 758 [.ref 0, .ref 64, .ref 123, .int (nI i)] [.int (nI i + 2), .ref 0, .int (xs (i + 1)), .ref 64] rfl ?_
    refine w_ia (i + 2) rfl s1 s2 (nI_add' i 2) (by omega) (by omega) (congrFun s3 (i + 2)) ?_
    refine w_N 4 763 [.ref 0, .ref 64, .ref 123, .int (nI i)] [.int (nI i + 3), .ref 0, .int (xs (i + 2)), .int (xs (i + 1)), .ref 64] rfl ?_
    refine w_ia (i + 3) rfl s1 s2 (nI_add' i 3) (by omega) (by omega) (congrFun s3 (i + 3)) ?_
    refine w_if_eq_f (t := 771) rfl rfl hb ?_
    refine w_N 2 772 [.ref 0, .ref 64, .ref 123, .int (nI i)] [.int 1, .int (xs (i + 2)), .int (xs (i + 1)), .ref 64] rfl ?_
    refine w_ca (w_vst rfl rfl rfl (Nat.le_of_ble_eq_true rfl) (Nat.le_of_ble_eq_true rfl) (A_k P.1 64 (by decide))) hc ?_
    rintro _ _ ⟨rfl, hi1, hl1, rfl, t3, hm⟩
    show lm_wp (59 + 1) 0 775 [.ref 0, .ref 64, .ref 123, .int (nI i)] [.int x] (hi1, hl1, X) _
    refine w_N 5 780 [.ref 0, .ref 64, .ref 123, .int (nI i)] [.int (nI i + 1), .ref 0, .ref 123, .int x] rfl ?_
    refine w_ia (i + 1) rfl s1 s2 (nI_add' i 1) (by omega) (by omega) (congrFun t3 (i + 1)) ?_
    refine w_N 4 785 [.ref 0, .ref 64, .ref 123, .int (nI i)] [.int (nI i + 2), .ref 0, .int (xs (i + 1)), .ref 123, .int x] rfl ?_
    refine w_ia (i + 2) rfl s1 s2 (nI_add' i 2) (by omega) (by omega) (congrFun t3 (i + 2)) ?_
    refine w_N 4 790 [.ref 0, .ref 64, .ref 123, .int (nI i)] [.int (nI i + 3), .ref 0, .int (xs (i + 2)), .int (xs (i + 1)), .ref 123, .int x] rfl ?_
    refine w_ia (i + 3) rfl s1 s2 (nI_add' i 3) (by omega) (by omega) (congrFun t3 (i + 3)) ?_
    refine w_if_eq_f (t := 798) rfl rfl hb ?_
    refine w_N 2 799 [.ref 0, .ref 64, .ref 123, .int (nI i)] [.int 1, .int (xs (i + 2)), .int (xs (i + 1)), .ref 123, .int x] rfl ?_
    refine w_ca (w_vst rfl rfl rfl (Nat.le_of_ble_eq_true rfl) (Nat.le_of_ble_eq_true rfl) (M_kd M.1.1)) hm ?_
    rintro _ _ ⟨rfl, hi2, hl2, X2, rfl, G2⟩
    show lm_wp (59 + 1) 0 802 [.ref 0, .ref 64, .ref 123, .int (nI i)] [.int x, .int x] (hi2, hl2, X2) _
    refine w_icmp_eq_t (t := 1748) rfl rfl rfl ?_
    exact k _ _ _ G2
theorem lw_12 {L i B C : Nat} {xs : Nat → Int32} {hi : Nat → Nat → Int32} {hl : Nat → Nat → Int64} {X : lm_X} {Q : Option Value → lm_H → Prop} (G : LG L xs B C hi hl X) (h7 : i + 7 ≤ L) (hL : L ≤ 3584) (hB : B + 20 < 2000000) (hC : C + 25 < 2147483648) (k : ∀ hi2 hl2 X2, LG L xs (B + 20) (C + 25) hi2 hl2 X2 → lm_wp 60 0 1748 [.ref 0, .ref 64, .ref 123, .int (nI i)] [] (hi2, hl2, X2) Q) : lm_wp 60 0 807 [.ref 0, .ref 64, .ref 123, .int (nI i)] [] (hi, hl, X) Q := by
  obtain ⟨D, T, n, R, KO, V, ts, tl, F, Z, P, M, s1, s2, s3⟩ := G
  show lm_wp (59 + 1) 0 807 [.ref 0, .ref 64, .ref 123, .int (nI i)] [] (hi, hl, X) Q
  obtain ⟨x, D1, T1, n1, R1, KO1, V1, ts1, tl1, F1, Z1, q1, q2⟩ : STI B 94 154 [.int (xs (i + 1))] T n R KO V ts tl F := sti (st_hide Z hB)
  have hc := lw_v Z1 q1 q2 P M s1 s2 s3 hC
  refine w_N 5 812 [.ref 0, .ref 64, .ref 123, .int (nI i)] [.int (nI i + 1), .ref 0, .ref 64] rfl ?_
  refine w_ia (i + 1) rfl s1 s2 (nI_add' i 1) (by omega) (by omega) (congrFun s3 (i + 1)) ?_
  refine w_ca (w_vst rfl rfl rfl (Nat.le_of_ble_eq_true rfl) (Nat.le_of_ble_eq_true rfl) (A_k P.1 64 (by decide))) hc ?_
  rintro _ _ ⟨rfl, hi1, hl1, rfl, t3, hm⟩
  show lm_wp (59 + 1) 0 816 [.ref 0, .ref 64, .ref 123, .int (nI i)] [.int x] (hi1, hl1, X) _
  refine w_N 5 821 [.ref 0, .ref 64, .ref 123, .int (nI i)] [.int (nI i + 1), .ref 0, .ref 123, .int x] rfl ?_
  refine w_ia (i + 1) rfl s1 s2 (nI_add' i 1) (by omega) (by omega) (congrFun t3 (i + 1)) ?_
  refine w_ca (w_vst rfl rfl rfl (Nat.le_of_ble_eq_true rfl) (Nat.le_of_ble_eq_true rfl) (M_kd M.1.1)) hm ?_
  rintro _ _ ⟨rfl, hi2, hl2, X2, rfl, G2⟩
  show lm_wp (59 + 1) 0 825 [.ref 0, .ref 64, .ref 123, .int (nI i)] [.int x, .int x] (hi2, hl2, X2) _
  refine w_icmp_eq_t (t := 1748) rfl rfl rfl ?_
  exact k _ _ _ G2
theorem lw_13 {L i B C : Nat} {xs : Nat → Int32} {hi : Nat → Nat → Int32} {hl : Nat → Nat → Int64} {X : lm_X} {Q : Option Value → lm_H → Prop} (G : LG L xs B C hi hl X) (h7 : i + 7 ≤ L) (hL : L ≤ 3584) (hB : B + 20 < 2000000) (hC : C + 25 < 2147483648) (k : ∀ hi2 hl2 X2, LG L xs (B + 20) (C + 25) hi2 hl2 X2 → lm_wp 60 0 1748 [.ref 0, .ref 64, .ref 123, .int (nI i)] [] (hi2, hl2, X2) Q) : lm_wp 60 0 830 [.ref 0, .ref 64, .ref 123, .int (nI i)] [] (hi, hl, X) Q := by
  obtain ⟨D, T, n, R, KO, V, ts, tl, F, Z, P, M, s1, s2, s3⟩ := G
  show lm_wp (59 + 1) 0 830 [.ref 0, .ref 64, .ref 123, .int (nI i)] [] (hi, hl, X) Q
  obtain ⟨x, D1, T1, n1, R1, KO1, V1, ts1, tl1, F1, Z1, q1, q2⟩ : STI B 95 155 [.int (xs (i + 1))] T n R KO V ts tl F := sti (st_feed Z hB)
  have hc := lw_v Z1 q1 q2 P M s1 s2 s3 hC
  refine w_N 5 835 [.ref 0, .ref 64, .ref 123, .int (nI i)] [.int (nI i + 1), .ref 0, .ref 64] rfl ?_
  refine w_ia (i + 1) rfl s1 s2 (nI_add' i 1) (by omega) (by omega) (congrFun s3 (i + 1)) ?_
  refine w_ca (w_vst rfl rfl rfl (Nat.le_of_ble_eq_true rfl) (Nat.le_of_ble_eq_true rfl) (A_k P.1 64 (by decide))) hc ?_
  rintro _ _ ⟨rfl, hi1, hl1, rfl, t3, hm⟩
  show lm_wp (59 + 1) 0 839 [.ref 0, .ref 64, .ref 123, .int (nI i)] [.int x] (hi1, hl1, X) _
  refine w_N 5 844 [.ref 0, .ref 64, .ref 123, .int (nI i)] [.int (nI i + 1), .ref 0, .ref 123, .int x] rfl ?_
  refine w_ia (i + 1) rfl s1 s2 (nI_add' i 1) (by omega) (by omega) (congrFun t3 (i + 1)) ?_
  refine w_ca (w_vst rfl rfl rfl (Nat.le_of_ble_eq_true rfl) (Nat.le_of_ble_eq_true rfl) (M_kd M.1.1)) hm ?_
  rintro _ _ ⟨rfl, hi2, hl2, X2, rfl, G2⟩
  show lm_wp (59 + 1) 0 848 [.ref 0, .ref 64, .ref 123, .int (nI i)] [.int x, .int x] (hi2, hl2, X2) _
  refine w_icmp_eq_t (t := 1748) rfl rfl rfl ?_
  exact k _ _ _ G2
theorem lw_14 {L i B C : Nat} {xs : Nat → Int32} {hi : Nat → Nat → Int32} {hl : Nat → Nat → Int64} {X : lm_X} {Q : Option Value → lm_H → Prop} (G : LG L xs B C hi hl X) (h7 : i + 7 ≤ L) (hL : L ≤ 3584) (hB : B + 20 < 2000000) (hC : C + 25 < 2147483648) (k : ∀ hi2 hl2 X2, LG L xs (B + 20) (C + 25) hi2 hl2 X2 → lm_wp 60 0 1748 [.ref 0, .ref 64, .ref 123, .int (nI i)] [] (hi2, hl2, X2) Q) : lm_wp 60 0 853 [.ref 0, .ref 64, .ref 123, .int (nI i)] [] (hi, hl, X) Q := by
  obtain ⟨D, T, n, R, KO, V, ts, tl, F, Z, P, M, s1, s2, s3⟩ := G
  show lm_wp (59 + 1) 0 853 [.ref 0, .ref 64, .ref 123, .int (nI i)] [] (hi, hl, X) Q
  obtain ⟨x, D1, T1, n1, R1, KO1, V1, ts1, tl1, F1, Z1, q1, q2⟩ : STI B 96 156 [] T n R KO V ts tl F := sti (st_wipe Z hB)
  have hc := lw_v Z1 q1 q2 P M s1 s2 s3 hC
  refine w_N 1 854 [.ref 0, .ref 64, .ref 123, .int (nI i)] [.ref 64] rfl ?_
  refine w_ca (w_vst rfl rfl rfl (Nat.le_of_ble_eq_true rfl) (Nat.le_of_ble_eq_true rfl) (A_k P.1 64 (by decide))) hc ?_
  rintro _ _ ⟨rfl, hi1, hl1, rfl, t3, hm⟩
  show lm_wp (59 + 1) 0 857 [.ref 0, .ref 64, .ref 123, .int (nI i)] [.int x] (hi1, hl1, X) _
  refine w_N 1 858 [.ref 0, .ref 64, .ref 123, .int (nI i)] [.ref 123, .int x] rfl ?_
  refine w_ca (w_vst rfl rfl rfl (Nat.le_of_ble_eq_true rfl) (Nat.le_of_ble_eq_true rfl) (M_kd M.1.1)) hm ?_
  rintro _ _ ⟨rfl, hi2, hl2, X2, rfl, G2⟩
  show lm_wp (59 + 1) 0 861 [.ref 0, .ref 64, .ref 123, .int (nI i)] [.int x, .int x] (hi2, hl2, X2) _
  refine w_icmp_eq_t (t := 1748) rfl rfl rfl ?_
  exact k _ _ _ G2
theorem lw_15 {L i B C : Nat} {xs : Nat → Int32} {hi : Nat → Nat → Int32} {hl : Nat → Nat → Int64} {X : lm_X} {Q : Option Value → lm_H → Prop} (G : LG L xs B C hi hl X) (h7 : i + 7 ≤ L) (hL : L ≤ 3584) (hB : B + 20 < 2000000) (hC : C + 25 < 2147483648) (k : ∀ hi2 hl2 X2, LG L xs (B + 20) (C + 25) hi2 hl2 X2 → lm_wp 60 0 1748 [.ref 0, .ref 64, .ref 123, .int (nI i)] [] (hi2, hl2, X2) Q) : lm_wp 60 0 866 [.ref 0, .ref 64, .ref 123, .int (nI i)] [] (hi, hl, X) Q := by
  obtain ⟨D, T, n, R, KO, V, ts, tl, F, Z, P, M, s1, s2, s3⟩ := G
  show lm_wp (59 + 1) 0 866 [.ref 0, .ref 64, .ref 123, .int (nI i)] [] (hi, hl, X) Q
  obtain ⟨x, D1, T1, n1, R1, KO1, V1, ts1, tl1, F1, Z1, q1, q2⟩ : STI B 97 168 [] T n R KO V ts tl F := st_town Z hB P.2.2.1.2.2.2
  have hc := lw_v Z1 q1 q2 P M s1 s2 s3 hC
  refine w_N 1 867 [.ref 0, .ref 64, .ref 123, .int (nI i)] [.ref 64] rfl ?_
  refine w_ca (w_vst rfl rfl rfl (Nat.le_of_ble_eq_true rfl) (Nat.le_of_ble_eq_true rfl) (A_k P.1 64 (by decide))) hc ?_
  rintro _ _ ⟨rfl, hi1, hl1, rfl, t3, hm⟩
  show lm_wp (59 + 1) 0 870 [.ref 0, .ref 64, .ref 123, .int (nI i)] [.int x] (hi1, hl1, X) _
  refine w_N 1 871 [.ref 0, .ref 64, .ref 123, .int (nI i)] [.ref 123, .int x] rfl ?_
  refine w_ca (w_vst rfl rfl rfl (Nat.le_of_ble_eq_true rfl) (Nat.le_of_ble_eq_true rfl) (M_kd M.1.1)) hm ?_
  rintro _ _ ⟨rfl, hi2, hl2, X2, rfl, G2⟩
  show lm_wp (59 + 1) 0 874 [.ref 0, .ref 64, .ref 123, .int (nI i)] [.int x, .int x] (hi2, hl2, X2) _
  refine w_icmp_eq_t (t := 1748) rfl rfl rfl ?_
  exact k _ _ _ G2
theorem lw_16 {L i B C : Nat} {xs : Nat → Int32} {hi : Nat → Nat → Int32} {hl : Nat → Nat → Int64} {X : lm_X} {Q : Option Value → lm_H → Prop} (G : LG L xs B C hi hl X) (h7 : i + 7 ≤ L) (hL : L ≤ 3584) (hB : B + 20 < 2000000) (hC : C + 25 < 2147483648) (k : ∀ hi2 hl2 X2, LG L xs (B + 20) (C + 25) hi2 hl2 X2 → lm_wp 60 0 1748 [.ref 0, .ref 64, .ref 123, .int (nI i)] [] (hi2, hl2, X2) Q) : lm_wp 60 0 879 [.ref 0, .ref 64, .ref 123, .int (nI i)] [] (hi, hl, X) Q := by
  obtain ⟨D, T, n, R, KO, V, ts, tl, F, Z, P, M, s1, s2, s3⟩ := G
  show lm_wp (59 + 1) 0 879 [.ref 0, .ref 64, .ref 123, .int (nI i)] [] (hi, hl, X) Q
  obtain ⟨x, D1, T1, n1, R1, KO1, V1, ts1, tl1, F1, Z1, q1, q2⟩ : STI B 98 169 [.int (xs (i + 1)), .int (xs (i + 2))] T n R KO V ts tl F := sti (st_actOf Z hB)
  have hc := lw_v Z1 q1 q2 P M s1 s2 s3 hC
  refine w_N 5 884 [.ref 0, .ref 64, .ref 123, .int (nI i)] [.int (nI i + 1), .ref 0, .ref 64] rfl ?_
  refine w_ia (i + 1) rfl s1 s2 (nI_add' i 1) (by omega) (by omega) (congrFun s3 (i + 1)) ?_
  refine w_N 4 889 [.ref 0, .ref 64, .ref 123, .int (nI i)] [.int (nI i + 2), .ref 0, .int (xs (i + 1)), .ref 64] rfl ?_
  refine w_ia (i + 2) rfl s1 s2 (nI_add' i 2) (by omega) (by omega) (congrFun s3 (i + 2)) ?_
  refine w_ca (w_vst rfl rfl rfl (Nat.le_of_ble_eq_true rfl) (Nat.le_of_ble_eq_true rfl) (A_k P.1 64 (by decide))) hc ?_
  rintro _ _ ⟨rfl, hi1, hl1, rfl, t3, hm⟩
  show lm_wp (59 + 1) 0 893 [.ref 0, .ref 64, .ref 123, .int (nI i)] [.int x] (hi1, hl1, X) _
  refine w_N 5 898 [.ref 0, .ref 64, .ref 123, .int (nI i)] [.int (nI i + 1), .ref 0, .ref 123, .int x] rfl ?_
  refine w_ia (i + 1) rfl s1 s2 (nI_add' i 1) (by omega) (by omega) (congrFun t3 (i + 1)) ?_
  refine w_N 4 903 [.ref 0, .ref 64, .ref 123, .int (nI i)] [.int (nI i + 2), .ref 0, .int (xs (i + 1)), .ref 123, .int x] rfl ?_
  refine w_ia (i + 2) rfl s1 s2 (nI_add' i 2) (by omega) (by omega) (congrFun t3 (i + 2)) ?_
  refine w_ca (w_vst rfl rfl rfl (Nat.le_of_ble_eq_true rfl) (Nat.le_of_ble_eq_true rfl) (M_kd M.1.1)) hm ?_
  rintro _ _ ⟨rfl, hi2, hl2, X2, rfl, G2⟩
  show lm_wp (59 + 1) 0 907 [.ref 0, .ref 64, .ref 123, .int (nI i)] [.int x, .int x] (hi2, hl2, X2) _
  refine w_icmp_eq_t (t := 1748) rfl rfl rfl ?_
  exact k _ _ _ G2
theorem lw_17 {L i B C : Nat} {xs : Nat → Int32} {hi : Nat → Nat → Int32} {hl : Nat → Nat → Int64} {X : lm_X} {Q : Option Value → lm_H → Prop} (G : LG L xs B C hi hl X) (h7 : i + 7 ≤ L) (hL : L ≤ 3584) (hB : B + 20 < 2000000) (hC : C + 25 < 2147483648) (k : ∀ hi2 hl2 X2, LG L xs (B + 20) (C + 25) hi2 hl2 X2 → lm_wp 60 0 1748 [.ref 0, .ref 64, .ref 123, .int (nI i)] [] (hi2, hl2, X2) Q) : lm_wp 60 0 912 [.ref 0, .ref 64, .ref 123, .int (nI i)] [] (hi, hl, X) Q := by
  obtain ⟨D, T, n, R, KO, V, ts, tl, F, Z, P, M, s1, s2, s3⟩ := G
  show lm_wp (59 + 1) 0 912 [.ref 0, .ref 64, .ref 123, .int (nI i)] [] (hi, hl, X) Q
  obtain ⟨x, D1, T1, n1, R1, KO1, V1, ts1, tl1, F1, Z1, q1, q2⟩ : STI B 99 170 [.int (xs (i + 1)), .int (xs (i + 2))] T n R KO V ts tl F := sti (st_worthOf Z hB)
  have hc := lw_v Z1 q1 q2 P M s1 s2 s3 hC
  refine w_N 5 917 [.ref 0, .ref 64, .ref 123, .int (nI i)] [.int (nI i + 1), .ref 0, .ref 64] rfl ?_
  refine w_ia (i + 1) rfl s1 s2 (nI_add' i 1) (by omega) (by omega) (congrFun s3 (i + 1)) ?_
  refine w_N 4 922 [.ref 0, .ref 64, .ref 123, .int (nI i)] [.int (nI i + 2), .ref 0, .int (xs (i + 1)), .ref 64] rfl ?_
  refine w_ia (i + 2) rfl s1 s2 (nI_add' i 2) (by omega) (by omega) (congrFun s3 (i + 2)) ?_
  refine w_ca (w_vst rfl rfl rfl (Nat.le_of_ble_eq_true rfl) (Nat.le_of_ble_eq_true rfl) (A_k P.1 64 (by decide))) hc ?_
  rintro _ _ ⟨rfl, hi1, hl1, rfl, t3, hm⟩
  show lm_wp (59 + 1) 0 926 [.ref 0, .ref 64, .ref 123, .int (nI i)] [.int x] (hi1, hl1, X) _
  refine w_N 5 931 [.ref 0, .ref 64, .ref 123, .int (nI i)] [.int (nI i + 1), .ref 0, .ref 123, .int x] rfl ?_
  refine w_ia (i + 1) rfl s1 s2 (nI_add' i 1) (by omega) (by omega) (congrFun t3 (i + 1)) ?_
  refine w_N 4 936 [.ref 0, .ref 64, .ref 123, .int (nI i)] [.int (nI i + 2), .ref 0, .int (xs (i + 1)), .ref 123, .int x] rfl ?_
  refine w_ia (i + 2) rfl s1 s2 (nI_add' i 2) (by omega) (by omega) (congrFun t3 (i + 2)) ?_
  refine w_ca (w_vst rfl rfl rfl (Nat.le_of_ble_eq_true rfl) (Nat.le_of_ble_eq_true rfl) (M_kd M.1.1)) hm ?_
  rintro _ _ ⟨rfl, hi2, hl2, X2, rfl, G2⟩
  show lm_wp (59 + 1) 0 940 [.ref 0, .ref 64, .ref 123, .int (nI i)] [.int x, .int x] (hi2, hl2, X2) _
  refine w_icmp_eq_t (t := 1748) rfl rfl rfl ?_
  exact k _ _ _ G2
theorem lw_18 {L i B C : Nat} {xs : Nat → Int32} {hi : Nat → Nat → Int32} {hl : Nat → Nat → Int64} {X : lm_X} {Q : Option Value → lm_H → Prop} (G : LG L xs B C hi hl X) (h7 : i + 7 ≤ L) (hL : L ≤ 3584) (hB : B + 20 < 2000000) (hC : C + 25 < 2147483648) (k : ∀ hi2 hl2 X2, LG L xs (B + 20) (C + 25) hi2 hl2 X2 → lm_wp 60 0 1748 [.ref 0, .ref 64, .ref 123, .int (nI i)] [] (hi2, hl2, X2) Q) : lm_wp 60 0 945 [.ref 0, .ref 64, .ref 123, .int (nI i)] [] (hi, hl, X) Q := by
  obtain ⟨D, T, n, R, KO, V, ts, tl, F, Z, P, M, s1, s2, s3⟩ := G
  show lm_wp (59 + 1) 0 945 [.ref 0, .ref 64, .ref 123, .int (nI i)] [] (hi, hl, X) Q
  obtain ⟨x, D1, T1, n1, R1, KO1, V1, ts1, tl1, F1, Z1, q1, q2⟩ : STI B 100 171 [.int (xs (i + 1))] T n R KO V ts tl F := sti (st_stands Z hB)
  have hc := lw_v Z1 q1 q2 P M s1 s2 s3 hC
  refine w_N 5 950 [.ref 0, .ref 64, .ref 123, .int (nI i)] [.int (nI i + 1), .ref 0, .ref 64] rfl ?_
  refine w_ia (i + 1) rfl s1 s2 (nI_add' i 1) (by omega) (by omega) (congrFun s3 (i + 1)) ?_
  refine w_ca (w_vst rfl rfl rfl (Nat.le_of_ble_eq_true rfl) (Nat.le_of_ble_eq_true rfl) (A_k P.1 64 (by decide))) hc ?_
  rintro _ _ ⟨rfl, hi1, hl1, rfl, t3, hm⟩
  show lm_wp (59 + 1) 0 954 [.ref 0, .ref 64, .ref 123, .int (nI i)] [.int x] (hi1, hl1, X) _
  refine w_N 5 959 [.ref 0, .ref 64, .ref 123, .int (nI i)] [.int (nI i + 1), .ref 0, .ref 123, .int x] rfl ?_
  refine w_ia (i + 1) rfl s1 s2 (nI_add' i 1) (by omega) (by omega) (congrFun t3 (i + 1)) ?_
  refine w_ca (w_vst rfl rfl rfl (Nat.le_of_ble_eq_true rfl) (Nat.le_of_ble_eq_true rfl) (M_kd M.1.1)) hm ?_
  rintro _ _ ⟨rfl, hi2, hl2, X2, rfl, G2⟩
  show lm_wp (59 + 1) 0 963 [.ref 0, .ref 64, .ref 123, .int (nI i)] [.int x, .int x] (hi2, hl2, X2) _
  refine w_icmp_eq_t (t := 1748) rfl rfl rfl ?_
  exact k _ _ _ G2
theorem lw_19 {L i B C : Nat} {xs : Nat → Int32} {hi : Nat → Nat → Int32} {hl : Nat → Nat → Int64} {X : lm_X} {Q : Option Value → lm_H → Prop} (G : LG L xs B C hi hl X) (h7 : i + 7 ≤ L) (hL : L ≤ 3584) (hB : B + 20 < 2000000) (hC : C + 25 < 2147483648) (k : ∀ hi2 hl2 X2, LG L xs (B + 20) (C + 25) hi2 hl2 X2 → lm_wp 60 0 1748 [.ref 0, .ref 64, .ref 123, .int (nI i)] [] (hi2, hl2, X2) Q) : lm_wp 60 0 968 [.ref 0, .ref 64, .ref 123, .int (nI i)] [] (hi, hl, X) Q := by
  obtain ⟨D, T, n, R, KO, V, ts, tl, F, Z, P, M, s1, s2, s3⟩ := G
  show lm_wp (59 + 1) 0 968 [.ref 0, .ref 64, .ref 123, .int (nI i)] [] (hi, hl, X) Q
  obtain ⟨x, D1, T1, n1, R1, KO1, V1, ts1, tl1, F1, Z1, q1, q2⟩ : STI B 101 177 [.int (xs (i + 1))] T n R KO V ts tl F := sti (st_can Z hB)
  have hc := lw_v Z1 q1 q2 P M s1 s2 s3 hC
  refine w_N 5 973 [.ref 0, .ref 64, .ref 123, .int (nI i)] [.int (nI i + 1), .ref 0, .ref 64] rfl ?_
  refine w_ia (i + 1) rfl s1 s2 (nI_add' i 1) (by omega) (by omega) (congrFun s3 (i + 1)) ?_
  refine w_ca (w_vst rfl rfl rfl (Nat.le_of_ble_eq_true rfl) (Nat.le_of_ble_eq_true rfl) (A_k P.1 64 (by decide))) hc ?_
  rintro _ _ ⟨rfl, hi1, hl1, rfl, t3, hm⟩
  show lm_wp (59 + 1) 0 977 [.ref 0, .ref 64, .ref 123, .int (nI i)] [.int x] (hi1, hl1, X) _
  refine w_N 5 982 [.ref 0, .ref 64, .ref 123, .int (nI i)] [.int (nI i + 1), .ref 0, .ref 123, .int x] rfl ?_
  refine w_ia (i + 1) rfl s1 s2 (nI_add' i 1) (by omega) (by omega) (congrFun t3 (i + 1)) ?_
  refine w_ca (w_vst rfl rfl rfl (Nat.le_of_ble_eq_true rfl) (Nat.le_of_ble_eq_true rfl) (M_kd M.1.1)) hm ?_
  rintro _ _ ⟨rfl, hi2, hl2, X2, rfl, G2⟩
  show lm_wp (59 + 1) 0 986 [.ref 0, .ref 64, .ref 123, .int (nI i)] [.int x, .int x] (hi2, hl2, X2) _
  refine w_icmp_eq_t (t := 1748) rfl rfl rfl ?_
  exact k _ _ _ G2
theorem lw_20 {L i B C : Nat} {xs : Nat → Int32} {hi : Nat → Nat → Int32} {hl : Nat → Nat → Int64} {X : lm_X} {Q : Option Value → lm_H → Prop} (G : LG L xs B C hi hl X) (h7 : i + 7 ≤ L) (hL : L ≤ 3584) (hB : B + 20 < 2000000) (hC : C + 25 < 2147483648) (k : ∀ hi2 hl2 X2, LG L xs (B + 20) (C + 25) hi2 hl2 X2 → lm_wp 60 0 1748 [.ref 0, .ref 64, .ref 123, .int (nI i)] [] (hi2, hl2, X2) Q) : lm_wp 60 0 991 [.ref 0, .ref 64, .ref 123, .int (nI i)] [] (hi, hl, X) Q := by
  obtain ⟨D, T, n, R, KO, V, ts, tl, F, Z, P, M, s1, s2, s3⟩ := G
  show lm_wp (59 + 1) 0 991 [.ref 0, .ref 64, .ref 123, .int (nI i)] [] (hi, hl, X) Q
  obtain ⟨x, D1, T1, n1, R1, KO1, V1, ts1, tl1, F1, Z1, q1, q2⟩ : STI B 102 178 [.int (xs (i + 1))] T n R KO V ts tl F := sti (st_value Z hB)
  have hc := lw_v Z1 q1 q2 P M s1 s2 s3 hC
  refine w_N 5 996 [.ref 0, .ref 64, .ref 123, .int (nI i)] [.int (nI i + 1), .ref 0, .ref 64] rfl ?_
  refine w_ia (i + 1) rfl s1 s2 (nI_add' i 1) (by omega) (by omega) (congrFun s3 (i + 1)) ?_
  refine w_ca (w_vst rfl rfl rfl (Nat.le_of_ble_eq_true rfl) (Nat.le_of_ble_eq_true rfl) (A_k P.1 64 (by decide))) hc ?_
  rintro _ _ ⟨rfl, hi1, hl1, rfl, t3, hm⟩
  show lm_wp (59 + 1) 0 1000 [.ref 0, .ref 64, .ref 123, .int (nI i)] [.int x] (hi1, hl1, X) _
  refine w_N 5 1005 [.ref 0, .ref 64, .ref 123, .int (nI i)] [.int (nI i + 1), .ref 0, .ref 123, .int x] rfl ?_
  refine w_ia (i + 1) rfl s1 s2 (nI_add' i 1) (by omega) (by omega) (congrFun t3 (i + 1)) ?_
  refine w_ca (w_vst rfl rfl rfl (Nat.le_of_ble_eq_true rfl) (Nat.le_of_ble_eq_true rfl) (M_kd M.1.1)) hm ?_
  rintro _ _ ⟨rfl, hi2, hl2, X2, rfl, G2⟩
  show lm_wp (59 + 1) 0 1009 [.ref 0, .ref 64, .ref 123, .int (nI i)] [.int x, .int x] (hi2, hl2, X2) _
  refine w_icmp_eq_t (t := 1748) rfl rfl rfl ?_
  exact k _ _ _ G2
theorem lw_21 {L i B C : Nat} {xs : Nat → Int32} {hi : Nat → Nat → Int32} {hl : Nat → Nat → Int64} {X : lm_X} {Q : Option Value → lm_H → Prop} (G : LG L xs B C hi hl X) (h7 : i + 7 ≤ L) (hL : L ≤ 3584) (hB : B + 20 < 2000000) (hC : C + 25 < 2147483648) (k : ∀ hi2 hl2 X2, LG L xs (B + 20) (C + 25) hi2 hl2 X2 → lm_wp 60 0 1748 [.ref 0, .ref 64, .ref 123, .int (nI i)] [] (hi2, hl2, X2) Q) : lm_wp 60 0 1014 [.ref 0, .ref 64, .ref 123, .int (nI i)] [] (hi, hl, X) Q := by
  obtain ⟨D, T, n, R, KO, V, ts, tl, F, Z, P, M, s1, s2, s3⟩ := G
  show lm_wp (59 + 1) 0 1014 [.ref 0, .ref 64, .ref 123, .int (nI i)] [] (hi, hl, X) Q
  obtain ⟨x, D1, T1, n1, R1, KO1, V1, ts1, tl1, F1, Z1, q1, q2⟩ : STI B 103 180 [.int (xs (i + 1))] T n R KO V ts tl F := sti (st_gain Z hB)
  have hc := lw_v Z1 q1 q2 P M s1 s2 s3 hC
  refine w_N 5 1019 [.ref 0, .ref 64, .ref 123, .int (nI i)] [.int (nI i + 1), .ref 0, .ref 64] rfl ?_
  refine w_ia (i + 1) rfl s1 s2 (nI_add' i 1) (by omega) (by omega) (congrFun s3 (i + 1)) ?_
  refine w_ca (w_vst rfl rfl rfl (Nat.le_of_ble_eq_true rfl) (Nat.le_of_ble_eq_true rfl) (A_k P.1 64 (by decide))) hc ?_
  rintro _ _ ⟨rfl, hi1, hl1, rfl, t3, hm⟩
  show lm_wp (59 + 1) 0 1023 [.ref 0, .ref 64, .ref 123, .int (nI i)] [.int x] (hi1, hl1, X) _
  refine w_N 5 1028 [.ref 0, .ref 64, .ref 123, .int (nI i)] [.int (nI i + 1), .ref 0, .ref 123, .int x] rfl ?_
  refine w_ia (i + 1) rfl s1 s2 (nI_add' i 1) (by omega) (by omega) (congrFun t3 (i + 1)) ?_
  refine w_ca (w_vst rfl rfl rfl (Nat.le_of_ble_eq_true rfl) (Nat.le_of_ble_eq_true rfl) (M_kd M.1.1)) hm ?_
  rintro _ _ ⟨rfl, hi2, hl2, X2, rfl, G2⟩
  show lm_wp (59 + 1) 0 1032 [.ref 0, .ref 64, .ref 123, .int (nI i)] [.int x, .int x] (hi2, hl2, X2) _
  refine w_icmp_eq_t (t := 1748) rfl rfl rfl ?_
  exact k _ _ _ G2
theorem lw_22 {L i B C : Nat} {xs : Nat → Int32} {hi : Nat → Nat → Int32} {hl : Nat → Nat → Int64} {X : lm_X} {Q : Option Value → lm_H → Prop} (G : LG L xs B C hi hl X) (h7 : i + 7 ≤ L) (hL : L ≤ 3584) (hB : B + 20 < 2000000) (hC : C + 25 < 2147483648) (k : ∀ hi2 hl2 X2, LG L xs (B + 20) (C + 25) hi2 hl2 X2 → lm_wp 60 0 1748 [.ref 0, .ref 64, .ref 123, .int (nI i)] [] (hi2, hl2, X2) Q) : lm_wp 60 0 1037 [.ref 0, .ref 64, .ref 123, .int (nI i)] [] (hi, hl, X) Q := by
  obtain ⟨D, T, n, R, KO, V, ts, tl, F, Z, P, M, s1, s2, s3⟩ := G
  show lm_wp (59 + 1) 0 1037 [.ref 0, .ref 64, .ref 123, .int (nI i)] [] (hi, hl, X) Q
  obtain ⟨x, D1, T1, n1, R1, KO1, V1, ts1, tl1, F1, Z1, q1, q2⟩ : STI B 104 182 [.int (xs (i + 1))] T n R KO V ts tl F := sti (st_does Z hB)
  have hc := lw_v Z1 q1 q2 P M s1 s2 s3 hC
  refine w_N 5 1042 [.ref 0, .ref 64, .ref 123, .int (nI i)] [.int (nI i + 1), .ref 0, .ref 64] rfl ?_
  refine w_ia (i + 1) rfl s1 s2 (nI_add' i 1) (by omega) (by omega) (congrFun s3 (i + 1)) ?_
  refine w_ca (w_vst rfl rfl rfl (Nat.le_of_ble_eq_true rfl) (Nat.le_of_ble_eq_true rfl) (A_k P.1 64 (by decide))) hc ?_
  rintro _ _ ⟨rfl, hi1, hl1, rfl, t3, hm⟩
  show lm_wp (59 + 1) 0 1046 [.ref 0, .ref 64, .ref 123, .int (nI i)] [.int x] (hi1, hl1, X) _
  refine w_N 5 1051 [.ref 0, .ref 64, .ref 123, .int (nI i)] [.int (nI i + 1), .ref 0, .ref 123, .int x] rfl ?_
  refine w_ia (i + 1) rfl s1 s2 (nI_add' i 1) (by omega) (by omega) (congrFun t3 (i + 1)) ?_
  refine w_ca (w_vst rfl rfl rfl (Nat.le_of_ble_eq_true rfl) (Nat.le_of_ble_eq_true rfl) (M_kd M.1.1)) hm ?_
  rintro _ _ ⟨rfl, hi2, hl2, X2, rfl, G2⟩
  show lm_wp (59 + 1) 0 1055 [.ref 0, .ref 64, .ref 123, .int (nI i)] [.int x, .int x] (hi2, hl2, X2) _
  refine w_icmp_eq_t (t := 1748) rfl rfl rfl ?_
  exact k _ _ _ G2
theorem lw_23 {L i B C : Nat} {xs : Nat → Int32} {hi : Nat → Nat → Int32} {hl : Nat → Nat → Int64} {X : lm_X} {Q : Option Value → lm_H → Prop} (G : LG L xs B C hi hl X) (h7 : i + 7 ≤ L) (hL : L ≤ 3584) (hB : B + 20 < 2000000) (hC : C + 25 < 2147483648) (k : ∀ hi2 hl2 X2, LG L xs (B + 20) (C + 25) hi2 hl2 X2 → lm_wp 60 0 1748 [.ref 0, .ref 64, .ref 123, .int (nI i)] [] (hi2, hl2, X2) Q) : lm_wp 60 0 1060 [.ref 0, .ref 64, .ref 123, .int (nI i)] [] (hi, hl, X) Q := by
  obtain ⟨D, T, n, R, KO, V, ts, tl, F, Z, P, M, s1, s2, s3⟩ := G
  show lm_wp (59 + 1) 0 1060 [.ref 0, .ref 64, .ref 123, .int (nI i)] [] (hi, hl, X) Q
  obtain ⟨x, D1, T1, n1, R1, KO1, V1, ts1, tl1, F1, Z1, q1, q2⟩ : STI B 105 185 [.int (xs (i + 1))] T n R KO V ts tl F := sti (st_next Z hB)
  have hc := lw_v Z1 q1 q2 P M s1 s2 s3 hC
  refine w_N 5 1065 [.ref 0, .ref 64, .ref 123, .int (nI i)] [.int (nI i + 1), .ref 0, .ref 64] rfl ?_
  refine w_ia (i + 1) rfl s1 s2 (nI_add' i 1) (by omega) (by omega) (congrFun s3 (i + 1)) ?_
  refine w_ca (w_vst rfl rfl rfl (Nat.le_of_ble_eq_true rfl) (Nat.le_of_ble_eq_true rfl) (A_k P.1 64 (by decide))) hc ?_
  rintro _ _ ⟨rfl, hi1, hl1, rfl, t3, hm⟩
  show lm_wp (59 + 1) 0 1069 [.ref 0, .ref 64, .ref 123, .int (nI i)] [.int x] (hi1, hl1, X) _
  refine w_N 5 1074 [.ref 0, .ref 64, .ref 123, .int (nI i)] [.int (nI i + 1), .ref 0, .ref 123, .int x] rfl ?_
  refine w_ia (i + 1) rfl s1 s2 (nI_add' i 1) (by omega) (by omega) (congrFun t3 (i + 1)) ?_
  refine w_ca (w_vst rfl rfl rfl (Nat.le_of_ble_eq_true rfl) (Nat.le_of_ble_eq_true rfl) (M_kd M.1.1)) hm ?_
  rintro _ _ ⟨rfl, hi2, hl2, X2, rfl, G2⟩
  show lm_wp (59 + 1) 0 1078 [.ref 0, .ref 64, .ref 123, .int (nI i)] [.int x, .int x] (hi2, hl2, X2) _
  refine w_icmp_eq_t (t := 1748) rfl rfl rfl ?_
  exact k _ _ _ G2
theorem lw_24 {L i B C : Nat} {xs : Nat → Int32} {hi : Nat → Nat → Int32} {hl : Nat → Nat → Int64} {X : lm_X} {Q : Option Value → lm_H → Prop} (G : LG L xs B C hi hl X) (h7 : i + 7 ≤ L) (hL : L ≤ 3584) (hB : B + 20 < 2000000) (hC : C + 25 < 2147483648) (k : ∀ hi2 hl2 X2, LG L xs (B + 20) (C + 25) hi2 hl2 X2 → lm_wp 60 0 1748 [.ref 0, .ref 64, .ref 123, .int (nI i)] [] (hi2, hl2, X2) Q) : lm_wp 60 0 1083 [.ref 0, .ref 64, .ref 123, .int (nI i)] [] (hi, hl, X) Q := by
  obtain ⟨D, T, n, R, KO, V, ts, tl, F, Z, P, M, s1, s2, s3⟩ := G
  show lm_wp (59 + 1) 0 1083 [.ref 0, .ref 64, .ref 123, .int (nI i)] [] (hi, hl, X) Q
  obtain ⟨x, D1, T1, n1, R1, KO1, V1, ts1, tl1, F1, Z1, q1, q2⟩ : STI B 106 188 [.int (xs (i + 1)), .int (xs (i + 2)), .int (xs (i + 3)), .int (xs (i + 4))] T n R KO V ts tl F := sti (st_run Z hB)
  have hc := lw_v Z1 q1 q2 P M s1 s2 s3 hC
  refine w_N 5 1088 [.ref 0, .ref 64, .ref 123, .int (nI i)] [.int (nI i + 1), .ref 0, .ref 64] rfl ?_
  refine w_ia (i + 1) rfl s1 s2 (nI_add' i 1) (by omega) (by omega) (congrFun s3 (i + 1)) ?_
  refine w_N 4 1093 [.ref 0, .ref 64, .ref 123, .int (nI i)] [.int (nI i + 2), .ref 0, .int (xs (i + 1)), .ref 64] rfl ?_
  refine w_ia (i + 2) rfl s1 s2 (nI_add' i 2) (by omega) (by omega) (congrFun s3 (i + 2)) ?_
  refine w_N 4 1098 [.ref 0, .ref 64, .ref 123, .int (nI i)] [.int (nI i + 3), .ref 0, .int (xs (i + 2)), .int (xs (i + 1)), .ref 64] rfl ?_
  refine w_ia (i + 3) rfl s1 s2 (nI_add' i 3) (by omega) (by omega) (congrFun s3 (i + 3)) ?_
  refine w_N 4 1103 [.ref 0, .ref 64, .ref 123, .int (nI i)] [.int (nI i + 4), .ref 0, .int (xs (i + 3)), .int (xs (i + 2)), .int (xs (i + 1)), .ref 64] rfl ?_
  refine w_ia (i + 4) rfl s1 s2 (nI_add' i 4) (by omega) (by omega) (congrFun s3 (i + 4)) ?_
  refine w_ca (w_vst rfl rfl rfl (Nat.le_of_ble_eq_true rfl) (Nat.le_of_ble_eq_true rfl) (A_k P.1 64 (by decide))) hc ?_
  rintro _ _ ⟨rfl, hi1, hl1, rfl, t3, hm⟩
  show lm_wp (59 + 1) 0 1107 [.ref 0, .ref 64, .ref 123, .int (nI i)] [.int x] (hi1, hl1, X) _
  refine w_N 5 1112 [.ref 0, .ref 64, .ref 123, .int (nI i)] [.int (nI i + 1), .ref 0, .ref 123, .int x] rfl ?_
  refine w_ia (i + 1) rfl s1 s2 (nI_add' i 1) (by omega) (by omega) (congrFun t3 (i + 1)) ?_
  refine w_N 4 1117 [.ref 0, .ref 64, .ref 123, .int (nI i)] [.int (nI i + 2), .ref 0, .int (xs (i + 1)), .ref 123, .int x] rfl ?_
  refine w_ia (i + 2) rfl s1 s2 (nI_add' i 2) (by omega) (by omega) (congrFun t3 (i + 2)) ?_
  refine w_N 4 1122 [.ref 0, .ref 64, .ref 123, .int (nI i)] [.int (nI i + 3), .ref 0, .int (xs (i + 2)), .int (xs (i + 1)), .ref 123, .int x] rfl ?_
  refine w_ia (i + 3) rfl s1 s2 (nI_add' i 3) (by omega) (by omega) (congrFun t3 (i + 3)) ?_
  refine w_N 4 1127 [.ref 0, .ref 64, .ref 123, .int (nI i)] [.int (nI i + 4), .ref 0, .int (xs (i + 3)), .int (xs (i + 2)), .int (xs (i + 1)), .ref 123, .int x] rfl ?_
  refine w_ia (i + 4) rfl s1 s2 (nI_add' i 4) (by omega) (by omega) (congrFun t3 (i + 4)) ?_
  refine w_ca (w_vst rfl rfl rfl (Nat.le_of_ble_eq_true rfl) (Nat.le_of_ble_eq_true rfl) (M_kd M.1.1)) hm ?_
  rintro _ _ ⟨rfl, hi2, hl2, X2, rfl, G2⟩
  show lm_wp (59 + 1) 0 1131 [.ref 0, .ref 64, .ref 123, .int (nI i)] [.int x, .int x] (hi2, hl2, X2) _
  refine w_icmp_eq_t (t := 1748) rfl rfl rfl ?_
  exact k _ _ _ G2
theorem lw_25 {L i B C : Nat} {xs : Nat → Int32} {hi : Nat → Nat → Int32} {hl : Nat → Nat → Int64} {X : lm_X} {Q : Option Value → lm_H → Prop} (G : LG L xs B C hi hl X) (h7 : i + 7 ≤ L) (hL : L ≤ 3584) (hB : B + 20 < 2000000) (hC : C + 25 < 2147483648) (k : ∀ hi2 hl2 X2, LG L xs (B + 20) (C + 25) hi2 hl2 X2 → lm_wp 60 0 1748 [.ref 0, .ref 64, .ref 123, .int (nI i)] [] (hi2, hl2, X2) Q) : lm_wp 60 0 1136 [.ref 0, .ref 64, .ref 123, .int (nI i)] [] (hi, hl, X) Q := by
  obtain ⟨D, T, n, R, KO, V, ts, tl, F, Z, P, M, s1, s2, s3⟩ := G
  show lm_wp (59 + 1) 0 1136 [.ref 0, .ref 64, .ref 123, .int (nI i)] [] (hi, hl, X) Q
  obtain ⟨x, D1, T1, n1, R1, KO1, V1, ts1, tl1, F1, Z1, q1, q2⟩ : STI B 107 190 [.int (xs (i + 1)), .int (xs (i + 2))] T n R KO V ts tl F := sti (st_head Z hB)
  have hc := lw_v Z1 q1 q2 P M s1 s2 s3 hC
  refine w_N 5 1141 [.ref 0, .ref 64, .ref 123, .int (nI i)] [.int (nI i + 1), .ref 0, .ref 64] rfl ?_
  refine w_ia (i + 1) rfl s1 s2 (nI_add' i 1) (by omega) (by omega) (congrFun s3 (i + 1)) ?_
  refine w_N 4 1146 [.ref 0, .ref 64, .ref 123, .int (nI i)] [.int (nI i + 2), .ref 0, .int (xs (i + 1)), .ref 64] rfl ?_
  refine w_ia (i + 2) rfl s1 s2 (nI_add' i 2) (by omega) (by omega) (congrFun s3 (i + 2)) ?_
  refine w_ca (w_vst rfl rfl rfl (Nat.le_of_ble_eq_true rfl) (Nat.le_of_ble_eq_true rfl) (A_k P.1 64 (by decide))) hc ?_
  rintro _ _ ⟨rfl, hi1, hl1, rfl, t3, hm⟩
  show lm_wp (59 + 1) 0 1150 [.ref 0, .ref 64, .ref 123, .int (nI i)] [.int x] (hi1, hl1, X) _
  refine w_N 5 1155 [.ref 0, .ref 64, .ref 123, .int (nI i)] [.int (nI i + 1), .ref 0, .ref 123, .int x] rfl ?_
  refine w_ia (i + 1) rfl s1 s2 (nI_add' i 1) (by omega) (by omega) (congrFun t3 (i + 1)) ?_
  refine w_N 4 1160 [.ref 0, .ref 64, .ref 123, .int (nI i)] [.int (nI i + 2), .ref 0, .int (xs (i + 1)), .ref 123, .int x] rfl ?_
  refine w_ia (i + 2) rfl s1 s2 (nI_add' i 2) (by omega) (by omega) (congrFun t3 (i + 2)) ?_
  refine w_ca (w_vst rfl rfl rfl (Nat.le_of_ble_eq_true rfl) (Nat.le_of_ble_eq_true rfl) (M_kd M.1.1)) hm ?_
  rintro _ _ ⟨rfl, hi2, hl2, X2, rfl, G2⟩
  show lm_wp (59 + 1) 0 1164 [.ref 0, .ref 64, .ref 123, .int (nI i)] [.int x, .int x] (hi2, hl2, X2) _
  refine w_icmp_eq_t (t := 1748) rfl rfl rfl ?_
  exact k _ _ _ G2
theorem lw_26 {L i B C : Nat} {xs : Nat → Int32} {hi : Nat → Nat → Int32} {hl : Nat → Nat → Int64} {X : lm_X} {Q : Option Value → lm_H → Prop} (G : LG L xs B C hi hl X) (h7 : i + 7 ≤ L) (hL : L ≤ 3584) (hB : B + 20 < 2000000) (hC : C + 25 < 2147483648) (k : ∀ hi2 hl2 X2, LG L xs (B + 20) (C + 25) hi2 hl2 X2 → lm_wp 60 0 1748 [.ref 0, .ref 64, .ref 123, .int (nI i)] [] (hi2, hl2, X2) Q) : lm_wp 60 0 1169 [.ref 0, .ref 64, .ref 123, .int (nI i)] [] (hi, hl, X) Q := by
  obtain ⟨D, T, n, R, KO, V, ts, tl, F, Z, P, M, s1, s2, s3⟩ := G
  show lm_wp (59 + 1) 0 1169 [.ref 0, .ref 64, .ref 123, .int (nI i)] [] (hi, hl, X) Q
  obtain ⟨x, D1, T1, n1, R1, KO1, V1, ts1, tl1, F1, Z1, q1, q2⟩ : STI B 108 191 [.int (xs (i + 1)), .int (xs (i + 2)), .int (xs (i + 3))] T n R KO V ts tl F := sti (st_days Z hB)
  have hc := lw_v Z1 q1 q2 P M s1 s2 s3 hC
  refine w_N 5 1174 [.ref 0, .ref 64, .ref 123, .int (nI i)] [.int (nI i + 1), .ref 0, .ref 64] rfl ?_
  refine w_ia (i + 1) rfl s1 s2 (nI_add' i 1) (by omega) (by omega) (congrFun s3 (i + 1)) ?_
  refine w_N 4 1179 [.ref 0, .ref 64, .ref 123, .int (nI i)] [.int (nI i + 2), .ref 0, .int (xs (i + 1)), .ref 64] rfl ?_
  refine w_ia (i + 2) rfl s1 s2 (nI_add' i 2) (by omega) (by omega) (congrFun s3 (i + 2)) ?_
  refine w_N 4 1184 [.ref 0, .ref 64, .ref 123, .int (nI i)] [.int (nI i + 3), .ref 0, .int (xs (i + 2)), .int (xs (i + 1)), .ref 64] rfl ?_
  refine w_ia (i + 3) rfl s1 s2 (nI_add' i 3) (by omega) (by omega) (congrFun s3 (i + 3)) ?_
  refine w_ca (w_vst rfl rfl rfl (Nat.le_of_ble_eq_true rfl) (Nat.le_of_ble_eq_true rfl) (A_k P.1 64 (by decide))) hc ?_
  rintro _ _ ⟨rfl, hi1, hl1, rfl, t3, hm⟩
  show lm_wp (59 + 1) 0 1188 [.ref 0, .ref 64, .ref 123, .int (nI i)] [.int x] (hi1, hl1, X) _
  refine w_N 5 1193 [.ref 0, .ref 64, .ref 123, .int (nI i)] [.int (nI i + 1), .ref 0, .ref 123, .int x] rfl ?_
  refine w_ia (i + 1) rfl s1 s2 (nI_add' i 1) (by omega) (by omega) (congrFun t3 (i + 1)) ?_
  refine w_N 4 1198 [.ref 0, .ref 64, .ref 123, .int (nI i)] [.int (nI i + 2), .ref 0, .int (xs (i + 1)), .ref 123, .int x] rfl ?_
  refine w_ia (i + 2) rfl s1 s2 (nI_add' i 2) (by omega) (by omega) (congrFun t3 (i + 2)) ?_
  refine w_N 4 1203 [.ref 0, .ref 64, .ref 123, .int (nI i)] [.int (nI i + 3), .ref 0, .int (xs (i + 2)), .int (xs (i + 1)), .ref 123, .int x] rfl ?_
  refine w_ia (i + 3) rfl s1 s2 (nI_add' i 3) (by omega) (by omega) (congrFun t3 (i + 3)) ?_
  refine w_ca (w_vst rfl rfl rfl (Nat.le_of_ble_eq_true rfl) (Nat.le_of_ble_eq_true rfl) (M_kd M.1.1)) hm ?_
  rintro _ _ ⟨rfl, hi2, hl2, X2, rfl, G2⟩
  show lm_wp (59 + 1) 0 1207 [.ref 0, .ref 64, .ref 123, .int (nI i)] [.int x, .int x] (hi2, hl2, X2) _
  refine w_icmp_eq_t (t := 1748) rfl rfl rfl ?_
  exact k _ _ _ G2
theorem lw_27 {L i B C : Nat} {xs : Nat → Int32} {hi : Nat → Nat → Int32} {hl : Nat → Nat → Int64} {X : lm_X} {Q : Option Value → lm_H → Prop} (G : LG L xs B C hi hl X) (h7 : i + 7 ≤ L) (hL : L ≤ 3584) (hB : B + 20 < 2000000) (hC : C + 25 < 2147483648) (k : ∀ hi2 hl2 X2, LG L xs (B + 20) (C + 25) hi2 hl2 X2 → lm_wp 60 0 1748 [.ref 0, .ref 64, .ref 123, .int (nI i)] [] (hi2, hl2, X2) Q) : lm_wp 60 0 1212 [.ref 0, .ref 64, .ref 123, .int (nI i)] [] (hi, hl, X) Q := by
  obtain ⟨D, T, n, R, KO, V, ts, tl, F, Z, P, M, s1, s2, s3⟩ := G
  show lm_wp (59 + 1) 0 1212 [.ref 0, .ref 64, .ref 123, .int (nI i)] [] (hi, hl, X) Q
  obtain ⟨x, D1, T1, n1, R1, KO1, V1, ts1, tl1, F1, Z1, q1, q2⟩ : STI B 109 192 [.int (xs (i + 1))] T n R KO V ts tl F := sti (st_gained Z hB)
  have hc := lw_v Z1 q1 q2 P M s1 s2 s3 hC
  refine w_N 5 1217 [.ref 0, .ref 64, .ref 123, .int (nI i)] [.int (nI i + 1), .ref 0, .ref 64] rfl ?_
  refine w_ia (i + 1) rfl s1 s2 (nI_add' i 1) (by omega) (by omega) (congrFun s3 (i + 1)) ?_
  refine w_ca (w_vst rfl rfl rfl (Nat.le_of_ble_eq_true rfl) (Nat.le_of_ble_eq_true rfl) (A_k P.1 64 (by decide))) hc ?_
  rintro _ _ ⟨rfl, hi1, hl1, rfl, t3, hm⟩
  show lm_wp (59 + 1) 0 1221 [.ref 0, .ref 64, .ref 123, .int (nI i)] [.int x] (hi1, hl1, X) _
  refine w_N 5 1226 [.ref 0, .ref 64, .ref 123, .int (nI i)] [.int (nI i + 1), .ref 0, .ref 123, .int x] rfl ?_
  refine w_ia (i + 1) rfl s1 s2 (nI_add' i 1) (by omega) (by omega) (congrFun t3 (i + 1)) ?_
  refine w_ca (w_vst rfl rfl rfl (Nat.le_of_ble_eq_true rfl) (Nat.le_of_ble_eq_true rfl) (M_kd M.1.1)) hm ?_
  rintro _ _ ⟨rfl, hi2, hl2, X2, rfl, G2⟩
  show lm_wp (59 + 1) 0 1230 [.ref 0, .ref 64, .ref 123, .int (nI i)] [.int x, .int x] (hi2, hl2, X2) _
  refine w_icmp_eq_t (t := 1748) rfl rfl rfl ?_
  exact k _ _ _ G2
theorem lw_28 {L i B C : Nat} {xs : Nat → Int32} {hi : Nat → Nat → Int32} {hl : Nat → Nat → Int64} {X : lm_X} {Q : Option Value → lm_H → Prop} (G : LG L xs B C hi hl X) (h7 : i + 7 ≤ L) (hL : L ≤ 3584) (hB : B + 20 < 2000000) (hC : C + 25 < 2147483648) (k : ∀ hi2 hl2 X2, LG L xs (B + 20) (C + 25) hi2 hl2 X2 → lm_wp 60 0 1748 [.ref 0, .ref 64, .ref 123, .int (nI i)] [] (hi2, hl2, X2) Q) : lm_wp 60 0 1235 [.ref 0, .ref 64, .ref 123, .int (nI i)] [] (hi, hl, X) Q := by
  obtain ⟨D, T, n, R, KO, V, ts, tl, F, Z, P, M, s1, s2, s3⟩ := G
  show lm_wp (59 + 1) 0 1235 [.ref 0, .ref 64, .ref 123, .int (nI i)] [] (hi, hl, X) Q
  obtain ⟨x, D1, T1, n1, R1, KO1, V1, ts1, tl1, F1, Z1, q1, q2⟩ : STI B 110 195 [.int (xs (i + 1)), .int (xs (i + 2))] T n R KO V ts tl F := sti (st_judge Z hB)
  have hc := lw_v Z1 q1 q2 P M s1 s2 s3 hC
  refine w_N 5 1240 [.ref 0, .ref 64, .ref 123, .int (nI i)] [.int (nI i + 1), .ref 0, .ref 64] rfl ?_
  refine w_ia (i + 1) rfl s1 s2 (nI_add' i 1) (by omega) (by omega) (congrFun s3 (i + 1)) ?_
  refine w_N 4 1245 [.ref 0, .ref 64, .ref 123, .int (nI i)] [.int (nI i + 2), .ref 0, .int (xs (i + 1)), .ref 64] rfl ?_
  refine w_ia (i + 2) rfl s1 s2 (nI_add' i 2) (by omega) (by omega) (congrFun s3 (i + 2)) ?_
  refine w_ca (w_vst rfl rfl rfl (Nat.le_of_ble_eq_true rfl) (Nat.le_of_ble_eq_true rfl) (A_k P.1 64 (by decide))) hc ?_
  rintro _ _ ⟨rfl, hi1, hl1, rfl, t3, hm⟩
  show lm_wp (59 + 1) 0 1249 [.ref 0, .ref 64, .ref 123, .int (nI i)] [.int x] (hi1, hl1, X) _
  refine w_N 5 1254 [.ref 0, .ref 64, .ref 123, .int (nI i)] [.int (nI i + 1), .ref 0, .ref 123, .int x] rfl ?_
  refine w_ia (i + 1) rfl s1 s2 (nI_add' i 1) (by omega) (by omega) (congrFun t3 (i + 1)) ?_
  refine w_N 4 1259 [.ref 0, .ref 64, .ref 123, .int (nI i)] [.int (nI i + 2), .ref 0, .int (xs (i + 1)), .ref 123, .int x] rfl ?_
  refine w_ia (i + 2) rfl s1 s2 (nI_add' i 2) (by omega) (by omega) (congrFun t3 (i + 2)) ?_
  refine w_ca (w_vst rfl rfl rfl (Nat.le_of_ble_eq_true rfl) (Nat.le_of_ble_eq_true rfl) (M_kd M.1.1)) hm ?_
  rintro _ _ ⟨rfl, hi2, hl2, X2, rfl, G2⟩
  show lm_wp (59 + 1) 0 1263 [.ref 0, .ref 64, .ref 123, .int (nI i)] [.int x, .int x] (hi2, hl2, X2) _
  refine w_icmp_eq_t (t := 1748) rfl rfl rfl ?_
  exact k _ _ _ G2
theorem lw_29 {L i B C : Nat} {xs : Nat → Int32} {hi : Nat → Nat → Int32} {hl : Nat → Nat → Int64} {X : lm_X} {Q : Option Value → lm_H → Prop} (G : LG L xs B C hi hl X) (h7 : i + 7 ≤ L) (hL : L ≤ 3584) (hB : B + 20 < 2000000) (hC : C + 25 < 2147483648) (k : ∀ hi2 hl2 X2, LG L xs (B + 20) (C + 25) hi2 hl2 X2 → lm_wp 60 0 1748 [.ref 0, .ref 64, .ref 123, .int (nI i)] [] (hi2, hl2, X2) Q) : lm_wp 60 0 1268 [.ref 0, .ref 64, .ref 123, .int (nI i)] [] (hi, hl, X) Q := by
  obtain ⟨D, T, n, R, KO, V, ts, tl, F, Z, P, M, s1, s2, s3⟩ := G
  show lm_wp (59 + 1) 0 1268 [.ref 0, .ref 64, .ref 123, .int (nI i)] [] (hi, hl, X) Q
  obtain ⟨x, D1, T1, n1, R1, KO1, V1, ts1, tl1, F1, Z1, q1, q2⟩ : STI B 111 196 [.int (xs (i + 1)), .int (xs (i + 2)), .int (xs (i + 3))] T n R KO V ts tl F := sti (st_told Z hB)
  have hc := lw_v Z1 q1 q2 P M s1 s2 s3 hC
  refine w_N 5 1273 [.ref 0, .ref 64, .ref 123, .int (nI i)] [.int (nI i + 1), .ref 0, .ref 64] rfl ?_
  refine w_ia (i + 1) rfl s1 s2 (nI_add' i 1) (by omega) (by omega) (congrFun s3 (i + 1)) ?_
  refine w_N 4 1278 [.ref 0, .ref 64, .ref 123, .int (nI i)] [.int (nI i + 2), .ref 0, .int (xs (i + 1)), .ref 64] rfl ?_
  refine w_ia (i + 2) rfl s1 s2 (nI_add' i 2) (by omega) (by omega) (congrFun s3 (i + 2)) ?_
  refine w_N 4 1283 [.ref 0, .ref 64, .ref 123, .int (nI i)] [.int (nI i + 3), .ref 0, .int (xs (i + 2)), .int (xs (i + 1)), .ref 64] rfl ?_
  refine w_ia (i + 3) rfl s1 s2 (nI_add' i 3) (by omega) (by omega) (congrFun s3 (i + 3)) ?_
  refine w_ca (w_vst rfl rfl rfl (Nat.le_of_ble_eq_true rfl) (Nat.le_of_ble_eq_true rfl) (A_k P.1 64 (by decide))) hc ?_
  rintro _ _ ⟨rfl, hi1, hl1, rfl, t3, hm⟩
  show lm_wp (59 + 1) 0 1287 [.ref 0, .ref 64, .ref 123, .int (nI i)] [.int x] (hi1, hl1, X) _
  refine w_N 5 1292 [.ref 0, .ref 64, .ref 123, .int (nI i)] [.int (nI i + 1), .ref 0, .ref 123, .int x] rfl ?_
  refine w_ia (i + 1) rfl s1 s2 (nI_add' i 1) (by omega) (by omega) (congrFun t3 (i + 1)) ?_
  refine w_N 4 1297 [.ref 0, .ref 64, .ref 123, .int (nI i)] [.int (nI i + 2), .ref 0, .int (xs (i + 1)), .ref 123, .int x] rfl ?_
  refine w_ia (i + 2) rfl s1 s2 (nI_add' i 2) (by omega) (by omega) (congrFun t3 (i + 2)) ?_
  refine w_N 4 1302 [.ref 0, .ref 64, .ref 123, .int (nI i)] [.int (nI i + 3), .ref 0, .int (xs (i + 2)), .int (xs (i + 1)), .ref 123, .int x] rfl ?_
  refine w_ia (i + 3) rfl s1 s2 (nI_add' i 3) (by omega) (by omega) (congrFun t3 (i + 3)) ?_
  refine w_ca (w_vst rfl rfl rfl (Nat.le_of_ble_eq_true rfl) (Nat.le_of_ble_eq_true rfl) (M_kd M.1.1)) hm ?_
  rintro _ _ ⟨rfl, hi2, hl2, X2, rfl, G2⟩
  show lm_wp (59 + 1) 0 1306 [.ref 0, .ref 64, .ref 123, .int (nI i)] [.int x, .int x] (hi2, hl2, X2) _
  refine w_icmp_eq_t (t := 1748) rfl rfl rfl ?_
  exact k _ _ _ G2
theorem lw_30 {L i B C : Nat} {xs : Nat → Int32} {hi : Nat → Nat → Int32} {hl : Nat → Nat → Int64} {X : lm_X} {Q : Option Value → lm_H → Prop} (G : LG L xs B C hi hl X) (h7 : i + 7 ≤ L) (hL : L ≤ 3584) (hB : B + 20 < 2000000) (hC : C + 25 < 2147483648) (k : ∀ hi2 hl2 X2, LG L xs (B + 20) (C + 25) hi2 hl2 X2 → lm_wp 60 0 1748 [.ref 0, .ref 64, .ref 123, .int (nI i)] [] (hi2, hl2, X2) Q) : lm_wp 60 0 1311 [.ref 0, .ref 64, .ref 123, .int (nI i)] [] (hi, hl, X) Q := by
  obtain ⟨D, T, n, R, KO, V, ts, tl, F, Z, P, M, s1, s2, s3⟩ := G
  show lm_wp (59 + 1) 0 1311 [.ref 0, .ref 64, .ref 123, .int (nI i)] [] (hi, hl, X) Q
  obtain ⟨x, D1, T1, n1, R1, KO1, V1, ts1, tl1, F1, Z1, q1, q2⟩ : STI B 112 199 [.int (xs (i + 1)), .int (xs (i + 2))] T n R KO V ts tl F := sti (st_best Z hB)
  have hc := lw_v Z1 q1 q2 P M s1 s2 s3 hC
  refine w_N 5 1316 [.ref 0, .ref 64, .ref 123, .int (nI i)] [.int (nI i + 1), .ref 0, .ref 64] rfl ?_
  refine w_ia (i + 1) rfl s1 s2 (nI_add' i 1) (by omega) (by omega) (congrFun s3 (i + 1)) ?_
  refine w_N 4 1321 [.ref 0, .ref 64, .ref 123, .int (nI i)] [.int (nI i + 2), .ref 0, .int (xs (i + 1)), .ref 64] rfl ?_
  refine w_ia (i + 2) rfl s1 s2 (nI_add' i 2) (by omega) (by omega) (congrFun s3 (i + 2)) ?_
  refine w_ca (w_vst rfl rfl rfl (Nat.le_of_ble_eq_true rfl) (Nat.le_of_ble_eq_true rfl) (A_k P.1 64 (by decide))) hc ?_
  rintro _ _ ⟨rfl, hi1, hl1, rfl, t3, hm⟩
  show lm_wp (59 + 1) 0 1325 [.ref 0, .ref 64, .ref 123, .int (nI i)] [.int x] (hi1, hl1, X) _
  refine w_N 5 1330 [.ref 0, .ref 64, .ref 123, .int (nI i)] [.int (nI i + 1), .ref 0, .ref 123, .int x] rfl ?_
  refine w_ia (i + 1) rfl s1 s2 (nI_add' i 1) (by omega) (by omega) (congrFun t3 (i + 1)) ?_
  refine w_N 4 1335 [.ref 0, .ref 64, .ref 123, .int (nI i)] [.int (nI i + 2), .ref 0, .int (xs (i + 1)), .ref 123, .int x] rfl ?_
  refine w_ia (i + 2) rfl s1 s2 (nI_add' i 2) (by omega) (by omega) (congrFun t3 (i + 2)) ?_
  refine w_ca (w_vst rfl rfl rfl (Nat.le_of_ble_eq_true rfl) (Nat.le_of_ble_eq_true rfl) (M_kd M.1.1)) hm ?_
  rintro _ _ ⟨rfl, hi2, hl2, X2, rfl, G2⟩
  show lm_wp (59 + 1) 0 1339 [.ref 0, .ref 64, .ref 123, .int (nI i)] [.int x, .int x] (hi2, hl2, X2) _
  refine w_icmp_eq_t (t := 1748) rfl rfl rfl ?_
  exact k _ _ _ G2
theorem lw_31 {L i B C : Nat} {xs : Nat → Int32} {hi : Nat → Nat → Int32} {hl : Nat → Nat → Int64} {X : lm_X} {Q : Option Value → lm_H → Prop} (G : LG L xs B C hi hl X) (h7 : i + 7 ≤ L) (hL : L ≤ 3584) (hB : B + 20 < 2000000) (hC : C + 25 < 2147483648) (k : ∀ hi2 hl2 X2, LG L xs (B + 20) (C + 25) hi2 hl2 X2 → lm_wp 60 0 1748 [.ref 0, .ref 64, .ref 123, .int (nI i)] [] (hi2, hl2, X2) Q) : lm_wp 60 0 1344 [.ref 0, .ref 64, .ref 123, .int (nI i)] [] (hi, hl, X) Q := by
  obtain ⟨D, T, n, R, KO, V, ts, tl, F, Z, P, M, s1, s2, s3⟩ := G
  show lm_wp (59 + 1) 0 1344 [.ref 0, .ref 64, .ref 123, .int (nI i)] [] (hi, hl, X) Q
  obtain ⟨x, D1, T1, n1, R1, KO1, V1, ts1, tl1, F1, Z1, q1, q2⟩ : STI B 113 201 [.int (xs (i + 1)), .int (xs (i + 2))] T n R KO V ts tl F := sti (st_against Z hB)
  have hc := lw_v Z1 q1 q2 P M s1 s2 s3 hC
  refine w_N 5 1349 [.ref 0, .ref 64, .ref 123, .int (nI i)] [.int (nI i + 1), .ref 0, .ref 64] rfl ?_
  refine w_ia (i + 1) rfl s1 s2 (nI_add' i 1) (by omega) (by omega) (congrFun s3 (i + 1)) ?_
  refine w_N 4 1354 [.ref 0, .ref 64, .ref 123, .int (nI i)] [.int (nI i + 2), .ref 0, .int (xs (i + 1)), .ref 64] rfl ?_
  refine w_ia (i + 2) rfl s1 s2 (nI_add' i 2) (by omega) (by omega) (congrFun s3 (i + 2)) ?_
  refine w_ca (w_vst rfl rfl rfl (Nat.le_of_ble_eq_true rfl) (Nat.le_of_ble_eq_true rfl) (A_k P.1 64 (by decide))) hc ?_
  rintro _ _ ⟨rfl, hi1, hl1, rfl, t3, hm⟩
  show lm_wp (59 + 1) 0 1358 [.ref 0, .ref 64, .ref 123, .int (nI i)] [.int x] (hi1, hl1, X) _
  refine w_N 5 1363 [.ref 0, .ref 64, .ref 123, .int (nI i)] [.int (nI i + 1), .ref 0, .ref 123, .int x] rfl ?_
  refine w_ia (i + 1) rfl s1 s2 (nI_add' i 1) (by omega) (by omega) (congrFun t3 (i + 1)) ?_
  refine w_N 4 1368 [.ref 0, .ref 64, .ref 123, .int (nI i)] [.int (nI i + 2), .ref 0, .int (xs (i + 1)), .ref 123, .int x] rfl ?_
  refine w_ia (i + 2) rfl s1 s2 (nI_add' i 2) (by omega) (by omega) (congrFun t3 (i + 2)) ?_
  refine w_ca (w_vst rfl rfl rfl (Nat.le_of_ble_eq_true rfl) (Nat.le_of_ble_eq_true rfl) (M_kd M.1.1)) hm ?_
  rintro _ _ ⟨rfl, hi2, hl2, X2, rfl, G2⟩
  show lm_wp (59 + 1) 0 1372 [.ref 0, .ref 64, .ref 123, .int (nI i)] [.int x, .int x] (hi2, hl2, X2) _
  refine w_icmp_eq_t (t := 1748) rfl rfl rfl ?_
  exact k _ _ _ G2
theorem lw_32 {L i B C : Nat} {xs : Nat → Int32} {hi : Nat → Nat → Int32} {hl : Nat → Nat → Int64} {X : lm_X} {Q : Option Value → lm_H → Prop} (G : LG L xs B C hi hl X) (h7 : i + 7 ≤ L) (hL : L ≤ 3584) (hB : B + 20 < 2000000) (hC : C + 25 < 2147483648) (k : ∀ hi2 hl2 X2, LG L xs (B + 20) (C + 25) hi2 hl2 X2 → lm_wp 60 0 1748 [.ref 0, .ref 64, .ref 123, .int (nI i)] [] (hi2, hl2, X2) Q) : lm_wp 60 0 1377 [.ref 0, .ref 64, .ref 123, .int (nI i)] [] (hi, hl, X) Q := by
  obtain ⟨D, T, n, R, KO, V, ts, tl, F, Z, P, M, s1, s2, s3⟩ := G
  show lm_wp (59 + 1) 0 1377 [.ref 0, .ref 64, .ref 123, .int (nI i)] [] (hi, hl, X) Q
  obtain ⟨x, D1, T1, n1, R1, KO1, V1, ts1, tl1, F1, Z1, q1, q2⟩ : STI B 114 203 [.int (xs (i + 1))] T n R KO V ts tl F := sti (st_together Z hB)
  have hc := lw_v Z1 q1 q2 P M s1 s2 s3 hC
  refine w_N 5 1382 [.ref 0, .ref 64, .ref 123, .int (nI i)] [.int (nI i + 1), .ref 0, .ref 64] rfl ?_
  refine w_ia (i + 1) rfl s1 s2 (nI_add' i 1) (by omega) (by omega) (congrFun s3 (i + 1)) ?_
  refine w_ca (w_vst rfl rfl rfl (Nat.le_of_ble_eq_true rfl) (Nat.le_of_ble_eq_true rfl) (A_k P.1 64 (by decide))) hc ?_
  rintro _ _ ⟨rfl, hi1, hl1, rfl, t3, hm⟩
  show lm_wp (59 + 1) 0 1386 [.ref 0, .ref 64, .ref 123, .int (nI i)] [.int x] (hi1, hl1, X) _
  refine w_N 5 1391 [.ref 0, .ref 64, .ref 123, .int (nI i)] [.int (nI i + 1), .ref 0, .ref 123, .int x] rfl ?_
  refine w_ia (i + 1) rfl s1 s2 (nI_add' i 1) (by omega) (by omega) (congrFun t3 (i + 1)) ?_
  refine w_ca (w_vst rfl rfl rfl (Nat.le_of_ble_eq_true rfl) (Nat.le_of_ble_eq_true rfl) (M_kd M.1.1)) hm ?_
  rintro _ _ ⟨rfl, hi2, hl2, X2, rfl, G2⟩
  show lm_wp (59 + 1) 0 1395 [.ref 0, .ref 64, .ref 123, .int (nI i)] [.int x, .int x] (hi2, hl2, X2) _
  refine w_icmp_eq_t (t := 1748) rfl rfl rfl ?_
  exact k _ _ _ G2
theorem lw_33 {L i B C : Nat} {xs : Nat → Int32} {hi : Nat → Nat → Int32} {hl : Nat → Nat → Int64} {X : lm_X} {Q : Option Value → lm_H → Prop} (G : LG L xs B C hi hl X) (h7 : i + 7 ≤ L) (hL : L ≤ 3584) (hB : B + 20 < 2000000) (hC : C + 25 < 2147483648) (k : ∀ hi2 hl2 X2, LG L xs (B + 20) (C + 25) hi2 hl2 X2 → lm_wp 60 0 1748 [.ref 0, .ref 64, .ref 123, .int (nI i)] [] (hi2, hl2, X2) Q) : lm_wp 60 0 1400 [.ref 0, .ref 64, .ref 123, .int (nI i)] [] (hi, hl, X) Q := by
  obtain ⟨D, T, n, R, KO, V, ts, tl, F, Z, P, M, s1, s2, s3⟩ := G
  show lm_wp (59 + 1) 0 1400 [.ref 0, .ref 64, .ref 123, .int (nI i)] [] (hi, hl, X) Q
  obtain ⟨x, D1, T1, n1, R1, KO1, V1, ts1, tl1, F1, Z1, q1, q2⟩ : STI B 115 204 [.int (xs (i + 1))] T n R KO V ts tl F := sti (st_harm Z hB)
  have hc := lw_v Z1 q1 q2 P M s1 s2 s3 hC
  refine w_N 5 1405 [.ref 0, .ref 64, .ref 123, .int (nI i)] [.int (nI i + 1), .ref 0, .ref 64] rfl ?_
  refine w_ia (i + 1) rfl s1 s2 (nI_add' i 1) (by omega) (by omega) (congrFun s3 (i + 1)) ?_
  refine w_ca (w_vst rfl rfl rfl (Nat.le_of_ble_eq_true rfl) (Nat.le_of_ble_eq_true rfl) (A_k P.1 64 (by decide))) hc ?_
  rintro _ _ ⟨rfl, hi1, hl1, rfl, t3, hm⟩
  show lm_wp (59 + 1) 0 1409 [.ref 0, .ref 64, .ref 123, .int (nI i)] [.int x] (hi1, hl1, X) _
  refine w_N 5 1414 [.ref 0, .ref 64, .ref 123, .int (nI i)] [.int (nI i + 1), .ref 0, .ref 123, .int x] rfl ?_
  refine w_ia (i + 1) rfl s1 s2 (nI_add' i 1) (by omega) (by omega) (congrFun t3 (i + 1)) ?_
  refine w_ca (w_vst rfl rfl rfl (Nat.le_of_ble_eq_true rfl) (Nat.le_of_ble_eq_true rfl) (M_kd M.1.1)) hm ?_
  rintro _ _ ⟨rfl, hi2, hl2, X2, rfl, G2⟩
  show lm_wp (59 + 1) 0 1418 [.ref 0, .ref 64, .ref 123, .int (nI i)] [.int x, .int x] (hi2, hl2, X2) _
  refine w_icmp_eq_t (t := 1748) rfl rfl rfl ?_
  exact k _ _ _ G2
theorem lw_34 {L i B C : Nat} {xs : Nat → Int32} {hi : Nat → Nat → Int32} {hl : Nat → Nat → Int64} {X : lm_X} {Q : Option Value → lm_H → Prop} (G : LG L xs B C hi hl X) (h7 : i + 7 ≤ L) (hL : L ≤ 3584) (hB : B + 20 < 2000000) (hC : C + 25 < 2147483648) (k : ∀ hi2 hl2 X2, LG L xs (B + 20) (C + 25) hi2 hl2 X2 → lm_wp 60 0 1748 [.ref 0, .ref 64, .ref 123, .int (nI i)] [] (hi2, hl2, X2) Q) : lm_wp 60 0 1423 [.ref 0, .ref 64, .ref 123, .int (nI i)] [] (hi, hl, X) Q := by
  obtain ⟨D, T, n, R, KO, V, ts, tl, F, Z, P, M, s1, s2, s3⟩ := G
  show lm_wp (59 + 1) 0 1423 [.ref 0, .ref 64, .ref 123, .int (nI i)] [] (hi, hl, X) Q
  by_cases hb : (xs (i + 2)) = 0
  · obtain ⟨x, D1, T1, n1, R1, KO1, V1, ts1, tl1, F1, Z1, q1, q2⟩ : STI B 116 207 [.int (xs (i + 1)), .int 0] T n R KO V ts tl F := sti (st_work (al := false) Z hB)
    have hc := lw_v Z1 q1 q2 P M s1 s2 s3 hC
    refine w_N 5 1428 [.ref 0, .ref 64, .ref 123, .int (nI i)] [.int (nI i + 1), .ref 0, .ref 64] rfl ?_
    refine w_ia (i + 1) rfl s1 s2 (nI_add' i 1) (by omega) (by omega) (congrFun s3 (i + 1)) ?_
    refine w_N 4 1433 [.ref 0, .ref 64, .ref 123, .int (nI i)] [.int (nI i + 2), .ref 0, .int (xs (i + 1)), .ref 64] rfl ?_
    refine w_ia (i + 2) rfl s1 s2 (nI_add' i 2) (by omega) (by omega) (congrFun s3 (i + 2)) ?_
    refine w_if_eq_t (t := 1441) rfl rfl hb ?_
    refine w_N 1 1442 [.ref 0, .ref 64, .ref 123, .int (nI i)] [.int 0, .int (xs (i + 1)), .ref 64] rfl ?_
    refine w_ca (w_vst rfl rfl rfl (Nat.le_of_ble_eq_true rfl) (Nat.le_of_ble_eq_true rfl) (A_k P.1 64 (by decide))) hc ?_
    rintro _ _ ⟨rfl, hi1, hl1, rfl, t3, hm⟩
    show lm_wp (59 + 1) 0 1445 [.ref 0, .ref 64, .ref 123, .int (nI i)] [.int x] (hi1, hl1, X) _
    refine w_N 5 1450 [.ref 0, .ref 64, .ref 123, .int (nI i)] [.int (nI i + 1), .ref 0, .ref 123, .int x] rfl ?_
    refine w_ia (i + 1) rfl s1 s2 (nI_add' i 1) (by omega) (by omega) (congrFun t3 (i + 1)) ?_
    refine w_N 4 1455 [.ref 0, .ref 64, .ref 123, .int (nI i)] [.int (nI i + 2), .ref 0, .int (xs (i + 1)), .ref 123, .int x] rfl ?_
    refine w_ia (i + 2) rfl s1 s2 (nI_add' i 2) (by omega) (by omega) (congrFun t3 (i + 2)) ?_
    refine w_if_eq_t (t := 1463) rfl rfl hb ?_
    refine w_N 1 1464 [.ref 0, .ref 64, .ref 123, .int (nI i)] [.int 0, .int (xs (i + 1)), .ref 123, .int x] rfl ?_
    refine w_ca (w_vst rfl rfl rfl (Nat.le_of_ble_eq_true rfl) (Nat.le_of_ble_eq_true rfl) (M_kd M.1.1)) hm ?_
    rintro _ _ ⟨rfl, hi2, hl2, X2, rfl, G2⟩
    show lm_wp (59 + 1) 0 1467 [.ref 0, .ref 64, .ref 123, .int (nI i)] [.int x, .int x] (hi2, hl2, X2) _
    refine w_icmp_eq_t (t := 1748) rfl rfl rfl ?_
    exact k _ _ _ G2
  · obtain ⟨x, D1, T1, n1, R1, KO1, V1, ts1, tl1, F1, Z1, q1, q2⟩ : STI B 116 207 [.int (xs (i + 1)), .int 1] T n R KO V ts tl F := sti (st_work (al := true) Z hB)
    have hc := lw_v Z1 q1 q2 P M s1 s2 s3 hC
    refine w_N 5 1428 [.ref 0, .ref 64, .ref 123, .int (nI i)] [.int (nI i + 1), .ref 0, .ref 64] rfl ?_
    refine w_ia (i + 1) rfl s1 s2 (nI_add' i 1) (by omega) (by omega) (congrFun s3 (i + 1)) ?_
    refine w_N 4 1433 [.ref 0, .ref 64, .ref 123, .int (nI i)] [.int (nI i + 2), .ref 0, .int (xs (i + 1)), .ref 64] rfl ?_
    refine w_ia (i + 2) rfl s1 s2 (nI_add' i 2) (by omega) (by omega) (congrFun s3 (i + 2)) ?_
    refine w_if_eq_f (t := 1441) rfl rfl hb ?_
    refine w_N 2 1442 [.ref 0, .ref 64, .ref 123, .int (nI i)] [.int 1, .int (xs (i + 1)), .ref 64] rfl ?_
    refine w_ca (w_vst rfl rfl rfl (Nat.le_of_ble_eq_true rfl) (Nat.le_of_ble_eq_true rfl) (A_k P.1 64 (by decide))) hc ?_
    rintro _ _ ⟨rfl, hi1, hl1, rfl, t3, hm⟩
    show lm_wp (59 + 1) 0 1445 [.ref 0, .ref 64, .ref 123, .int (nI i)] [.int x] (hi1, hl1, X) _
    refine w_N 5 1450 [.ref 0, .ref 64, .ref 123, .int (nI i)] [.int (nI i + 1), .ref 0, .ref 123, .int x] rfl ?_
    refine w_ia (i + 1) rfl s1 s2 (nI_add' i 1) (by omega) (by omega) (congrFun t3 (i + 1)) ?_
    refine w_N 4 1455 [.ref 0, .ref 64, .ref 123, .int (nI i)] [.int (nI i + 2), .ref 0, .int (xs (i + 1)), .ref 123, .int x] rfl ?_
    refine w_ia (i + 2) rfl s1 s2 (nI_add' i 2) (by omega) (by omega) (congrFun t3 (i + 2)) ?_
    refine w_if_eq_f (t := 1463) rfl rfl hb ?_
    refine w_N 2 1464 [.ref 0, .ref 64, .ref 123, .int (nI i)] [.int 1, .int (xs (i + 1)), .ref 123, .int x] rfl ?_
    refine w_ca (w_vst rfl rfl rfl (Nat.le_of_ble_eq_true rfl) (Nat.le_of_ble_eq_true rfl) (M_kd M.1.1)) hm ?_
    rintro _ _ ⟨rfl, hi2, hl2, X2, rfl, G2⟩
    show lm_wp (59 + 1) 0 1467 [.ref 0, .ref 64, .ref 123, .int (nI i)] [.int x, .int x] (hi2, hl2, X2) _
    refine w_icmp_eq_t (t := 1748) rfl rfl rfl ?_
    exact k _ _ _ G2
theorem lw_35 {L i B C : Nat} {xs : Nat → Int32} {hi : Nat → Nat → Int32} {hl : Nat → Nat → Int64} {X : lm_X} {Q : Option Value → lm_H → Prop} (G : LG L xs B C hi hl X) (h7 : i + 7 ≤ L) (hL : L ≤ 3584) (hB : B + 20 < 2000000) (hC : C + 25 < 2147483648) (k : ∀ hi2 hl2 X2, LG L xs (B + 20) (C + 25) hi2 hl2 X2 → lm_wp 60 0 1748 [.ref 0, .ref 64, .ref 123, .int (nI i)] [] (hi2, hl2, X2) Q) : lm_wp 60 0 1472 [.ref 0, .ref 64, .ref 123, .int (nI i)] [] (hi, hl, X) Q := by
  obtain ⟨D, T, n, R, KO, V, ts, tl, F, Z, P, M, s1, s2, s3⟩ := G
  show lm_wp (59 + 1) 0 1472 [.ref 0, .ref 64, .ref 123, .int (nI i)] [] (hi, hl, X) Q
  obtain ⟨x, D1, T1, n1, R1, KO1, V1, ts1, tl1, F1, Z1, q1, q2⟩ : STI B 117 208 [.int (xs (i + 1))] T n R KO V ts tl F := sti (st_reach Z hB)
  have hc := lw_v Z1 q1 q2 P M s1 s2 s3 hC
  refine w_N 5 1477 [.ref 0, .ref 64, .ref 123, .int (nI i)] [.int (nI i + 1), .ref 0, .ref 64] rfl ?_
  refine w_ia (i + 1) rfl s1 s2 (nI_add' i 1) (by omega) (by omega) (congrFun s3 (i + 1)) ?_
  refine w_ca (w_vst rfl rfl rfl (Nat.le_of_ble_eq_true rfl) (Nat.le_of_ble_eq_true rfl) (A_k P.1 64 (by decide))) hc ?_
  rintro _ _ ⟨rfl, hi1, hl1, rfl, t3, hm⟩
  show lm_wp (59 + 1) 0 1481 [.ref 0, .ref 64, .ref 123, .int (nI i)] [.int x] (hi1, hl1, X) _
  refine w_N 5 1486 [.ref 0, .ref 64, .ref 123, .int (nI i)] [.int (nI i + 1), .ref 0, .ref 123, .int x] rfl ?_
  refine w_ia (i + 1) rfl s1 s2 (nI_add' i 1) (by omega) (by omega) (congrFun t3 (i + 1)) ?_
  refine w_ca (w_vst rfl rfl rfl (Nat.le_of_ble_eq_true rfl) (Nat.le_of_ble_eq_true rfl) (M_kd M.1.1)) hm ?_
  rintro _ _ ⟨rfl, hi2, hl2, X2, rfl, G2⟩
  show lm_wp (59 + 1) 0 1490 [.ref 0, .ref 64, .ref 123, .int (nI i)] [.int x, .int x] (hi2, hl2, X2) _
  refine w_icmp_eq_t (t := 1748) rfl rfl rfl ?_
  exact k _ _ _ G2
theorem lw_36 {L i B C : Nat} {xs : Nat → Int32} {hi : Nat → Nat → Int32} {hl : Nat → Nat → Int64} {X : lm_X} {Q : Option Value → lm_H → Prop} (G : LG L xs B C hi hl X) (h7 : i + 7 ≤ L) (hL : L ≤ 3584) (hB : B + 20 < 2000000) (hC : C + 25 < 2147483648) (k : ∀ hi2 hl2 X2, LG L xs (B + 20) (C + 25) hi2 hl2 X2 → lm_wp 60 0 1748 [.ref 0, .ref 64, .ref 123, .int (nI i)] [] (hi2, hl2, X2) Q) : lm_wp 60 0 1495 [.ref 0, .ref 64, .ref 123, .int (nI i)] [] (hi, hl, X) Q := by
  obtain ⟨D, T, n, R, KO, V, ts, tl, F, Z, P, M, s1, s2, s3⟩ := G
  show lm_wp (59 + 1) 0 1495 [.ref 0, .ref 64, .ref 123, .int (nI i)] [] (hi, hl, X) Q
  obtain ⟨x, D1, T1, n1, R1, KO1, V1, ts1, tl1, F1, Z1, q1, q2⟩ : STI B 118 210 [] T n R KO V ts tl F := sti (st_found Z hB)
  have hc := lw_v Z1 q1 q2 P M s1 s2 s3 hC
  refine w_N 1 1496 [.ref 0, .ref 64, .ref 123, .int (nI i)] [.ref 64] rfl ?_
  refine w_ca (w_vst rfl rfl rfl (Nat.le_of_ble_eq_true rfl) (Nat.le_of_ble_eq_true rfl) (A_k P.1 64 (by decide))) hc ?_
  rintro _ _ ⟨rfl, hi1, hl1, rfl, t3, hm⟩
  show lm_wp (59 + 1) 0 1499 [.ref 0, .ref 64, .ref 123, .int (nI i)] [.int x] (hi1, hl1, X) _
  refine w_N 1 1500 [.ref 0, .ref 64, .ref 123, .int (nI i)] [.ref 123, .int x] rfl ?_
  refine w_ca (w_vst rfl rfl rfl (Nat.le_of_ble_eq_true rfl) (Nat.le_of_ble_eq_true rfl) (M_kd M.1.1)) hm ?_
  rintro _ _ ⟨rfl, hi2, hl2, X2, rfl, G2⟩
  show lm_wp (59 + 1) 0 1503 [.ref 0, .ref 64, .ref 123, .int (nI i)] [.int x, .int x] (hi2, hl2, X2) _
  refine w_icmp_eq_t (t := 1748) rfl rfl rfl ?_
  exact k _ _ _ G2
theorem lw_37 {L i B C : Nat} {xs : Nat → Int32} {hi : Nat → Nat → Int32} {hl : Nat → Nat → Int64} {X : lm_X} {Q : Option Value → lm_H → Prop} (G : LG L xs B C hi hl X) (h7 : i + 7 ≤ L) (hL : L ≤ 3584) (hB : B + 20 < 2000000) (hC : C + 25 < 2147483648) (k : ∀ hi2 hl2 X2, LG L xs (B + 20) (C + 25) hi2 hl2 X2 → lm_wp 60 0 1748 [.ref 0, .ref 64, .ref 123, .int (nI i)] [] (hi2, hl2, X2) Q) : lm_wp 60 0 1508 [.ref 0, .ref 64, .ref 123, .int (nI i)] [] (hi, hl, X) Q := by
  obtain ⟨D, T, n, R, KO, V, ts, tl, F, Z, P, M, s1, s2, s3⟩ := G
  show lm_wp (59 + 1) 0 1508 [.ref 0, .ref 64, .ref 123, .int (nI i)] [] (hi, hl, X) Q
  obtain ⟨x, D1, T1, n1, R1, KO1, V1, ts1, tl1, F1, Z1, q1, q2⟩ : STI B 119 211 [.int (xs (i + 1)), .int (xs (i + 2))] T n R KO V ts tl F := sti (st_say Z hB)
  have hc := lw_v Z1 q1 q2 P M s1 s2 s3 hC
  refine w_N 5 1513 [.ref 0, .ref 64, .ref 123, .int (nI i)] [.int (nI i + 1), .ref 0, .ref 64] rfl ?_
  refine w_ia (i + 1) rfl s1 s2 (nI_add' i 1) (by omega) (by omega) (congrFun s3 (i + 1)) ?_
  refine w_N 4 1518 [.ref 0, .ref 64, .ref 123, .int (nI i)] [.int (nI i + 2), .ref 0, .int (xs (i + 1)), .ref 64] rfl ?_
  refine w_ia (i + 2) rfl s1 s2 (nI_add' i 2) (by omega) (by omega) (congrFun s3 (i + 2)) ?_
  refine w_ca (w_vst rfl rfl rfl (Nat.le_of_ble_eq_true rfl) (Nat.le_of_ble_eq_true rfl) (A_k P.1 64 (by decide))) hc ?_
  rintro _ _ ⟨rfl, hi1, hl1, rfl, t3, hm⟩
  show lm_wp (59 + 1) 0 1522 [.ref 0, .ref 64, .ref 123, .int (nI i)] [.int x] (hi1, hl1, X) _
  refine w_N 5 1527 [.ref 0, .ref 64, .ref 123, .int (nI i)] [.int (nI i + 1), .ref 0, .ref 123, .int x] rfl ?_
  refine w_ia (i + 1) rfl s1 s2 (nI_add' i 1) (by omega) (by omega) (congrFun t3 (i + 1)) ?_
  refine w_N 4 1532 [.ref 0, .ref 64, .ref 123, .int (nI i)] [.int (nI i + 2), .ref 0, .int (xs (i + 1)), .ref 123, .int x] rfl ?_
  refine w_ia (i + 2) rfl s1 s2 (nI_add' i 2) (by omega) (by omega) (congrFun t3 (i + 2)) ?_
  refine w_ca (w_vst rfl rfl rfl (Nat.le_of_ble_eq_true rfl) (Nat.le_of_ble_eq_true rfl) (M_kd M.1.1)) hm ?_
  rintro _ _ ⟨rfl, hi2, hl2, X2, rfl, G2⟩
  show lm_wp (59 + 1) 0 1536 [.ref 0, .ref 64, .ref 123, .int (nI i)] [.int x, .int x] (hi2, hl2, X2) _
  refine w_icmp_eq_t (t := 1748) rfl rfl rfl ?_
  exact k _ _ _ G2
theorem lw_38 {L i B C : Nat} {xs : Nat → Int32} {hi : Nat → Nat → Int32} {hl : Nat → Nat → Int64} {X : lm_X} {Q : Option Value → lm_H → Prop} (G : LG L xs B C hi hl X) (h7 : i + 7 ≤ L) (hL : L ≤ 3584) (hB : B + 20 < 2000000) (hC : C + 25 < 2147483648) (k : ∀ hi2 hl2 X2, LG L xs (B + 20) (C + 25) hi2 hl2 X2 → lm_wp 60 0 1748 [.ref 0, .ref 64, .ref 123, .int (nI i)] [] (hi2, hl2, X2) Q) : lm_wp 60 0 1541 [.ref 0, .ref 64, .ref 123, .int (nI i)] [] (hi, hl, X) Q := by
  obtain ⟨D, T, n, R, KO, V, ts, tl, F, Z, P, M, s1, s2, s3⟩ := G
  show lm_wp (59 + 1) 0 1541 [.ref 0, .ref 64, .ref 123, .int (nI i)] [] (hi, hl, X) Q
  obtain ⟨x, D1, T1, n1, R1, KO1, V1, ts1, tl1, F1, Z1, q1, q2⟩ : STI B 120 214 [.int (xs (i + 1)), .int (xs (i + 2))] T n R KO V ts tl F := sti (st_locking Z hB)
  have hc := lw_v Z1 q1 q2 P M s1 s2 s3 hC
  refine w_N 5 1546 [.ref 0, .ref 64, .ref 123, .int (nI i)] [.int (nI i + 1), .ref 0, .ref 64] rfl ?_
  refine w_ia (i + 1) rfl s1 s2 (nI_add' i 1) (by omega) (by omega) (congrFun s3 (i + 1)) ?_
  refine w_N 4 1551 [.ref 0, .ref 64, .ref 123, .int (nI i)] [.int (nI i + 2), .ref 0, .int (xs (i + 1)), .ref 64] rfl ?_
  refine w_ia (i + 2) rfl s1 s2 (nI_add' i 2) (by omega) (by omega) (congrFun s3 (i + 2)) ?_
  refine w_ca (w_vst rfl rfl rfl (Nat.le_of_ble_eq_true rfl) (Nat.le_of_ble_eq_true rfl) (A_k P.1 64 (by decide))) hc ?_
  rintro _ _ ⟨rfl, hi1, hl1, rfl, t3, hm⟩
  show lm_wp (59 + 1) 0 1555 [.ref 0, .ref 64, .ref 123, .int (nI i)] [.int x] (hi1, hl1, X) _
  refine w_N 5 1560 [.ref 0, .ref 64, .ref 123, .int (nI i)] [.int (nI i + 1), .ref 0, .ref 123, .int x] rfl ?_
  refine w_ia (i + 1) rfl s1 s2 (nI_add' i 1) (by omega) (by omega) (congrFun t3 (i + 1)) ?_
  refine w_N 4 1565 [.ref 0, .ref 64, .ref 123, .int (nI i)] [.int (nI i + 2), .ref 0, .int (xs (i + 1)), .ref 123, .int x] rfl ?_
  refine w_ia (i + 2) rfl s1 s2 (nI_add' i 2) (by omega) (by omega) (congrFun t3 (i + 2)) ?_
  refine w_ca (w_vst rfl rfl rfl (Nat.le_of_ble_eq_true rfl) (Nat.le_of_ble_eq_true rfl) (M_kd M.1.1)) hm ?_
  rintro _ _ ⟨rfl, hi2, hl2, X2, rfl, G2⟩
  show lm_wp (59 + 1) 0 1569 [.ref 0, .ref 64, .ref 123, .int (nI i)] [.int x, .int x] (hi2, hl2, X2) _
  refine w_icmp_eq_t (t := 1748) rfl rfl rfl ?_
  exact k _ _ _ G2
theorem lw_39 {L i B C : Nat} {xs : Nat → Int32} {hi : Nat → Nat → Int32} {hl : Nat → Nat → Int64} {X : lm_X} {Q : Option Value → lm_H → Prop} (G : LG L xs B C hi hl X) (h7 : i + 7 ≤ L) (hL : L ≤ 3584) (hB : B + 20 < 2000000) (hC : C + 25 < 2147483648) (k : ∀ hi2 hl2 X2, LG L xs (B + 20) (C + 25) hi2 hl2 X2 → lm_wp 60 0 1748 [.ref 0, .ref 64, .ref 123, .int (nI i)] [] (hi2, hl2, X2) Q) : lm_wp 60 0 1574 [.ref 0, .ref 64, .ref 123, .int (nI i)] [] (hi, hl, X) Q := by
  obtain ⟨D, T, n, R, KO, V, ts, tl, F, Z, P, M, s1, s2, s3⟩ := G
  show lm_wp (59 + 1) 0 1574 [.ref 0, .ref 64, .ref 123, .int (nI i)] [] (hi, hl, X) Q
  obtain ⟨x, D1, T1, n1, R1, KO1, V1, ts1, tl1, F1, Z1, q1, q2⟩ : STI B 122 215 [.int (xs (i + 1))] T n R KO V ts tl F := sti (st_which Z hB)
  have hc := lw_v Z1 q1 q2 P M s1 s2 s3 hC
  refine w_N 5 1579 [.ref 0, .ref 64, .ref 123, .int (nI i)] [.int (nI i + 1), .ref 0, .ref 64] rfl ?_
  refine w_ia (i + 1) rfl s1 s2 (nI_add' i 1) (by omega) (by omega) (congrFun s3 (i + 1)) ?_
  refine w_ca (w_vst rfl rfl rfl (Nat.le_of_ble_eq_true rfl) (Nat.le_of_ble_eq_true rfl) (A_k P.1 64 (by decide))) hc ?_
  rintro _ _ ⟨rfl, hi1, hl1, rfl, t3, hm⟩
  show lm_wp (59 + 1) 0 1583 [.ref 0, .ref 64, .ref 123, .int (nI i)] [.int x] (hi1, hl1, X) _
  refine w_N 5 1588 [.ref 0, .ref 64, .ref 123, .int (nI i)] [.int (nI i + 1), .ref 0, .ref 123, .int x] rfl ?_
  refine w_ia (i + 1) rfl s1 s2 (nI_add' i 1) (by omega) (by omega) (congrFun t3 (i + 1)) ?_
  refine w_ca (w_vst rfl rfl rfl (Nat.le_of_ble_eq_true rfl) (Nat.le_of_ble_eq_true rfl) (M_kd M.1.1)) hm ?_
  rintro _ _ ⟨rfl, hi2, hl2, X2, rfl, G2⟩
  show lm_wp (59 + 1) 0 1592 [.ref 0, .ref 64, .ref 123, .int (nI i)] [.int x, .int x] (hi2, hl2, X2) _
  refine w_icmp_eq_t (t := 1748) rfl rfl rfl ?_
  exact k _ _ _ G2
theorem lw_40 {L i B C : Nat} {xs : Nat → Int32} {hi : Nat → Nat → Int32} {hl : Nat → Nat → Int64} {X : lm_X} {Q : Option Value → lm_H → Prop} (G : LG L xs B C hi hl X) (h7 : i + 7 ≤ L) (hL : L ≤ 3584) (hB : B + 20 < 2000000) (hC : C + 25 < 2147483648) (k : ∀ hi2 hl2 X2, LG L xs (B + 20) (C + 25) hi2 hl2 X2 → lm_wp 60 0 1748 [.ref 0, .ref 64, .ref 123, .int (nI i)] [] (hi2, hl2, X2) Q) : lm_wp 60 0 1597 [.ref 0, .ref 64, .ref 123, .int (nI i)] [] (hi, hl, X) Q := by
  obtain ⟨D, T, n, R, KO, V, ts, tl, F, Z, P, M, s1, s2, s3⟩ := G
  show lm_wp (59 + 1) 0 1597 [.ref 0, .ref 64, .ref 123, .int (nI i)] [] (hi, hl, X) Q
  obtain ⟨x, D1, T1, n1, R1, KO1, V1, ts1, tl1, F1, Z1, q1, q2⟩ : STI B 123 216 [.int (xs (i + 1))] T n R KO V ts tl F := sti (st_up Z hB)
  have hc := lw_v Z1 q1 q2 P M s1 s2 s3 hC
  refine w_N 5 1602 [.ref 0, .ref 64, .ref 123, .int (nI i)] [.int (nI i + 1), .ref 0, .ref 64] rfl ?_
  refine w_ia (i + 1) rfl s1 s2 (nI_add' i 1) (by omega) (by omega) (congrFun s3 (i + 1)) ?_
  refine w_ca (w_vst rfl rfl rfl (Nat.le_of_ble_eq_true rfl) (Nat.le_of_ble_eq_true rfl) (A_k P.1 64 (by decide))) hc ?_
  rintro _ _ ⟨rfl, hi1, hl1, rfl, t3, hm⟩
  show lm_wp (59 + 1) 0 1606 [.ref 0, .ref 64, .ref 123, .int (nI i)] [.int x] (hi1, hl1, X) _
  refine w_N 5 1611 [.ref 0, .ref 64, .ref 123, .int (nI i)] [.int (nI i + 1), .ref 0, .ref 123, .int x] rfl ?_
  refine w_ia (i + 1) rfl s1 s2 (nI_add' i 1) (by omega) (by omega) (congrFun t3 (i + 1)) ?_
  refine w_ca (w_vst rfl rfl rfl (Nat.le_of_ble_eq_true rfl) (Nat.le_of_ble_eq_true rfl) (M_kd M.1.1)) hm ?_
  rintro _ _ ⟨rfl, hi2, hl2, X2, rfl, G2⟩
  show lm_wp (59 + 1) 0 1615 [.ref 0, .ref 64, .ref 123, .int (nI i)] [.int x, .int x] (hi2, hl2, X2) _
  refine w_icmp_eq_t (t := 1748) rfl rfl rfl ?_
  exact k _ _ _ G2
theorem lw_41 {L i B C : Nat} {xs : Nat → Int32} {hi : Nat → Nat → Int32} {hl : Nat → Nat → Int64} {X : lm_X} {Q : Option Value → lm_H → Prop} (G : LG L xs B C hi hl X) (h7 : i + 7 ≤ L) (hL : L ≤ 3584) (hB : B + 20 < 2000000) (hC : C + 25 < 2147483648) (k : ∀ hi2 hl2 X2, LG L xs (B + 20) (C + 25) hi2 hl2 X2 → lm_wp 60 0 1748 [.ref 0, .ref 64, .ref 123, .int (nI i)] [] (hi2, hl2, X2) Q) : lm_wp 60 0 1620 [.ref 0, .ref 64, .ref 123, .int (nI i)] [] (hi, hl, X) Q := by
  obtain ⟨D, T, n, R, KO, V, ts, tl, F, Z, P, M, s1, s2, s3⟩ := G
  show lm_wp (59 + 1) 0 1620 [.ref 0, .ref 64, .ref 123, .int (nI i)] [] (hi, hl, X) Q
  obtain ⟨x, D1, T1, n1, R1, KO1, V1, ts1, tl1, F1, Z1, q1, q2⟩ : STI B 124 217 [.int (xs (i + 1)), .int (xs (i + 2)), .int (xs (i + 3))] T n R KO V ts tl F := sti (st_pact Z hB)
  have hc := lw_v Z1 q1 q2 P M s1 s2 s3 hC
  refine w_N 5 1625 [.ref 0, .ref 64, .ref 123, .int (nI i)] [.int (nI i + 1), .ref 0, .ref 64] rfl ?_
  refine w_ia (i + 1) rfl s1 s2 (nI_add' i 1) (by omega) (by omega) (congrFun s3 (i + 1)) ?_
  refine w_N 4 1630 [.ref 0, .ref 64, .ref 123, .int (nI i)] [.int (nI i + 2), .ref 0, .int (xs (i + 1)), .ref 64] rfl ?_
  refine w_ia (i + 2) rfl s1 s2 (nI_add' i 2) (by omega) (by omega) (congrFun s3 (i + 2)) ?_
  refine w_N 4 1635 [.ref 0, .ref 64, .ref 123, .int (nI i)] [.int (nI i + 3), .ref 0, .int (xs (i + 2)), .int (xs (i + 1)), .ref 64] rfl ?_
  refine w_ia (i + 3) rfl s1 s2 (nI_add' i 3) (by omega) (by omega) (congrFun s3 (i + 3)) ?_
  refine w_ca (w_vst rfl rfl rfl (Nat.le_of_ble_eq_true rfl) (Nat.le_of_ble_eq_true rfl) (A_k P.1 64 (by decide))) hc ?_
  rintro _ _ ⟨rfl, hi1, hl1, rfl, t3, hm⟩
  show lm_wp (59 + 1) 0 1639 [.ref 0, .ref 64, .ref 123, .int (nI i)] [.int x] (hi1, hl1, X) _
  refine w_N 5 1644 [.ref 0, .ref 64, .ref 123, .int (nI i)] [.int (nI i + 1), .ref 0, .ref 123, .int x] rfl ?_
  refine w_ia (i + 1) rfl s1 s2 (nI_add' i 1) (by omega) (by omega) (congrFun t3 (i + 1)) ?_
  refine w_N 4 1649 [.ref 0, .ref 64, .ref 123, .int (nI i)] [.int (nI i + 2), .ref 0, .int (xs (i + 1)), .ref 123, .int x] rfl ?_
  refine w_ia (i + 2) rfl s1 s2 (nI_add' i 2) (by omega) (by omega) (congrFun t3 (i + 2)) ?_
  refine w_N 4 1654 [.ref 0, .ref 64, .ref 123, .int (nI i)] [.int (nI i + 3), .ref 0, .int (xs (i + 2)), .int (xs (i + 1)), .ref 123, .int x] rfl ?_
  refine w_ia (i + 3) rfl s1 s2 (nI_add' i 3) (by omega) (by omega) (congrFun t3 (i + 3)) ?_
  refine w_ca (w_vst rfl rfl rfl (Nat.le_of_ble_eq_true rfl) (Nat.le_of_ble_eq_true rfl) (M_kd M.1.1)) hm ?_
  rintro _ _ ⟨rfl, hi2, hl2, X2, rfl, G2⟩
  show lm_wp (59 + 1) 0 1658 [.ref 0, .ref 64, .ref 123, .int (nI i)] [.int x, .int x] (hi2, hl2, X2) _
  refine w_icmp_eq_t (t := 1748) rfl rfl rfl ?_
  exact k _ _ _ G2
theorem lw_42 {L i B C : Nat} {xs : Nat → Int32} {hi : Nat → Nat → Int32} {hl : Nat → Nat → Int64} {X : lm_X} {Q : Option Value → lm_H → Prop} (G : LG L xs B C hi hl X) (h7 : i + 7 ≤ L) (hL : L ≤ 3584) (hB : B + 20 < 2000000) (hC : C + 25 < 2147483648) (k : ∀ hi2 hl2 X2, LG L xs (B + 20) (C + 25) hi2 hl2 X2 → lm_wp 60 0 1748 [.ref 0, .ref 64, .ref 123, .int (nI i)] [] (hi2, hl2, X2) Q) : lm_wp 60 0 1663 [.ref 0, .ref 64, .ref 123, .int (nI i)] [] (hi, hl, X) Q := by
  obtain ⟨D, T, n, R, KO, V, ts, tl, F, Z, P, M, s1, s2, s3⟩ := G
  show lm_wp (59 + 1) 0 1663 [.ref 0, .ref 64, .ref 123, .int (nI i)] [] (hi, hl, X) Q
  obtain ⟨x, D1, T1, n1, R1, KO1, V1, ts1, tl1, F1, Z1, q1, q2⟩ : STI B 125 219 [] T n R KO V ts tl F := sti (st_leap Z hB)
  have hc := lw_v Z1 q1 q2 P M s1 s2 s3 hC
  refine w_N 1 1664 [.ref 0, .ref 64, .ref 123, .int (nI i)] [.ref 64] rfl ?_
  refine w_ca (w_vst rfl rfl rfl (Nat.le_of_ble_eq_true rfl) (Nat.le_of_ble_eq_true rfl) (A_k P.1 64 (by decide))) hc ?_
  rintro _ _ ⟨rfl, hi1, hl1, rfl, t3, hm⟩
  show lm_wp (59 + 1) 0 1667 [.ref 0, .ref 64, .ref 123, .int (nI i)] [.int x] (hi1, hl1, X) _
  refine w_N 1 1668 [.ref 0, .ref 64, .ref 123, .int (nI i)] [.ref 123, .int x] rfl ?_
  refine w_ca (w_vst rfl rfl rfl (Nat.le_of_ble_eq_true rfl) (Nat.le_of_ble_eq_true rfl) (M_kd M.1.1)) hm ?_
  rintro _ _ ⟨rfl, hi2, hl2, X2, rfl, G2⟩
  show lm_wp (59 + 1) 0 1671 [.ref 0, .ref 64, .ref 123, .int (nI i)] [.int x, .int x] (hi2, hl2, X2) _
  refine w_icmp_eq_t (t := 1748) rfl rfl rfl ?_
  exact k _ _ _ G2
theorem lw_43 {L i B C : Nat} {xs : Nat → Int32} {hi : Nat → Nat → Int32} {hl : Nat → Nat → Int64} {X : lm_X} {Q : Option Value → lm_H → Prop} (G : LG L xs B C hi hl X) (h7 : i + 7 ≤ L) (hL : L ≤ 3584) (hB : B + 20 < 2000000) (hC : C + 25 < 2147483648) (k : ∀ hi2 hl2 X2, LG L xs (B + 20) (C + 25) hi2 hl2 X2 → lm_wp 60 0 1748 [.ref 0, .ref 64, .ref 123, .int (nI i)] [] (hi2, hl2, X2) Q) : lm_wp 60 0 1676 [.ref 0, .ref 64, .ref 123, .int (nI i)] [] (hi, hl, X) Q := by
  obtain ⟨D, T, n, R, KO, V, ts, tl, F, Z, P, M, s1, s2, s3⟩ := G
  show lm_wp (59 + 1) 0 1676 [.ref 0, .ref 64, .ref 123, .int (nI i)] [] (hi, hl, X) Q
  obtain ⟨x, D1, T1, n1, R1, KO1, V1, ts1, tl1, F1, Z1, q1, q2⟩ : STI B 126 220 [.int (xs (i + 1))] T n R KO V ts tl F := sti (st_seed Z hB)
  have hc := lw_v Z1 q1 q2 P M s1 s2 s3 hC
  refine w_N 5 1681 [.ref 0, .ref 64, .ref 123, .int (nI i)] [.int (nI i + 1), .ref 0, .ref 64] rfl ?_
  refine w_ia (i + 1) rfl s1 s2 (nI_add' i 1) (by omega) (by omega) (congrFun s3 (i + 1)) ?_
  refine w_ca (w_vst rfl rfl rfl (Nat.le_of_ble_eq_true rfl) (Nat.le_of_ble_eq_true rfl) (A_k P.1 64 (by decide))) hc ?_
  rintro _ _ ⟨rfl, hi1, hl1, rfl, t3, hm⟩
  show lm_wp (59 + 1) 0 1685 [.ref 0, .ref 64, .ref 123, .int (nI i)] [.int x] (hi1, hl1, X) _
  refine w_N 5 1690 [.ref 0, .ref 64, .ref 123, .int (nI i)] [.int (nI i + 1), .ref 0, .ref 123, .int x] rfl ?_
  refine w_ia (i + 1) rfl s1 s2 (nI_add' i 1) (by omega) (by omega) (congrFun t3 (i + 1)) ?_
  refine w_ca (w_vst rfl rfl rfl (Nat.le_of_ble_eq_true rfl) (Nat.le_of_ble_eq_true rfl) (M_kd M.1.1)) hm ?_
  rintro _ _ ⟨rfl, hi2, hl2, X2, rfl, G2⟩
  show lm_wp (59 + 1) 0 1694 [.ref 0, .ref 64, .ref 123, .int (nI i)] [.int x, .int x] (hi2, hl2, X2) _
  refine w_icmp_eq_t (t := 1748) rfl rfl rfl ?_
  exact k _ _ _ G2
theorem lw_44 {L i B C : Nat} {xs : Nat → Int32} {hi : Nat → Nat → Int32} {hl : Nat → Nat → Int64} {X : lm_X} {Q : Option Value → lm_H → Prop} (G : LG L xs B C hi hl X) (h7 : i + 7 ≤ L) (hL : L ≤ 3584) (hB : B + 20 < 2000000) (hC : C + 25 < 2147483648) (k : ∀ hi2 hl2 X2, LG L xs (B + 20) (C + 25) hi2 hl2 X2 → lm_wp 60 0 1748 [.ref 0, .ref 64, .ref 123, .int (nI i)] [] (hi2, hl2, X2) Q) : lm_wp 60 0 1699 [.ref 0, .ref 64, .ref 123, .int (nI i)] [] (hi, hl, X) Q := by
  obtain ⟨D, T, n, R, KO, V, ts, tl, F, Z, P, M, s1, s2, s3⟩ := G
  show lm_wp (59 + 1) 0 1699 [.ref 0, .ref 64, .ref 123, .int (nI i)] [] (hi, hl, X) Q
  obtain ⟨x, D1, T1, n1, R1, KO1, V1, ts1, tl1, F1, Z1, q1, q2⟩ : STI B 127 223 [] T n R KO V ts tl F := sti (st_image Z hB)
  have hc := lw_v Z1 q1 q2 P M s1 s2 s3 hC
  refine w_N 1 1700 [.ref 0, .ref 64, .ref 123, .int (nI i)] [.ref 64] rfl ?_
  refine w_ca (w_vst rfl rfl rfl (Nat.le_of_ble_eq_true rfl) (Nat.le_of_ble_eq_true rfl) (A_k P.1 64 (by decide))) hc ?_
  rintro _ _ ⟨rfl, hi1, hl1, rfl, t3, hm⟩
  show lm_wp (59 + 1) 0 1703 [.ref 0, .ref 64, .ref 123, .int (nI i)] [.int x] (hi1, hl1, X) _
  refine w_N 1 1704 [.ref 0, .ref 64, .ref 123, .int (nI i)] [.ref 123, .int x] rfl ?_
  refine w_ca (w_vst rfl rfl rfl (Nat.le_of_ble_eq_true rfl) (Nat.le_of_ble_eq_true rfl) (M_kd M.1.1)) hm ?_
  rintro _ _ ⟨rfl, hi2, hl2, X2, rfl, G2⟩
  show lm_wp (59 + 1) 0 1707 [.ref 0, .ref 64, .ref 123, .int (nI i)] [.int x, .int x] (hi2, hl2, X2) _
  refine w_icmp_eq_t (t := 1748) rfl rfl rfl ?_
  exact k _ _ _ G2
theorem lw_45 {L i B C : Nat} {xs : Nat → Int32} {hi : Nat → Nat → Int32} {hl : Nat → Nat → Int64} {X : lm_X} {Q : Option Value → lm_H → Prop} (G : LG L xs B C hi hl X) (h7 : i + 7 ≤ L) (hL : L ≤ 3584) (hB : B + 20 < 2000000) (hC : C + 25 < 2147483648) (k : ∀ hi2 hl2 X2, LG L xs (B + 20) (C + 25) hi2 hl2 X2 → lm_wp 60 0 1748 [.ref 0, .ref 64, .ref 123, .int (nI i)] [] (hi2, hl2, X2) Q) : lm_wp 60 0 1712 [.ref 0, .ref 64, .ref 123, .int (nI i)] [] (hi, hl, X) Q := by
  obtain ⟨D, T, n, R, KO, V, ts, tl, F, Z, P, M, s1, s2, s3⟩ := G
  show lm_wp (59 + 1) 0 1712 [.ref 0, .ref 64, .ref 123, .int (nI i)] [] (hi, hl, X) Q
  obtain ⟨x, D1, T1, n1, R1, KO1, V1, ts1, tl1, F1, Z1, q1, q2⟩ : STI B 128 224 [] T n R KO V ts tl F := sti (st_back Z hB)
  have hc := lw_v Z1 q1 q2 P M s1 s2 s3 hC
  refine w_N 1 1713 [.ref 0, .ref 64, .ref 123, .int (nI i)] [.ref 64] rfl ?_
  refine w_ca (w_vst rfl rfl rfl (Nat.le_of_ble_eq_true rfl) (Nat.le_of_ble_eq_true rfl) (A_k P.1 64 (by decide))) hc ?_
  rintro _ _ ⟨rfl, hi1, hl1, rfl, t3, hm⟩
  show lm_wp (59 + 1) 0 1716 [.ref 0, .ref 64, .ref 123, .int (nI i)] [.int x] (hi1, hl1, X) _
  refine w_N 1 1717 [.ref 0, .ref 64, .ref 123, .int (nI i)] [.ref 123, .int x] rfl ?_
  refine w_ca (w_vst rfl rfl rfl (Nat.le_of_ble_eq_true rfl) (Nat.le_of_ble_eq_true rfl) (M_kd M.1.1)) hm ?_
  rintro _ _ ⟨rfl, hi2, hl2, X2, rfl, G2⟩
  show lm_wp (59 + 1) 0 1720 [.ref 0, .ref 64, .ref 123, .int (nI i)] [.int x, .int x] (hi2, hl2, X2) _
  refine w_icmp_eq_t (t := 1748) rfl rfl rfl ?_
  exact k _ _ _ G2
theorem lw_46 {L i B C : Nat} {xs : Nat → Int32} {hi : Nat → Nat → Int32} {hl : Nat → Nat → Int64} {X : lm_X} {Q : Option Value → lm_H → Prop} (G : LG L xs B C hi hl X) (h7 : i + 7 ≤ L) (hL : L ≤ 3584) (hB : B + 20 < 2000000) (hC : C + 25 < 2147483648) (k : ∀ hi2 hl2 X2, LG L xs (B + 20) (C + 25) hi2 hl2 X2 → lm_wp 60 0 1748 [.ref 0, .ref 64, .ref 123, .int (nI i)] [] (hi2, hl2, X2) Q) : lm_wp 60 0 1725 [.ref 0, .ref 64, .ref 123, .int (nI i)] [] (hi, hl, X) Q := by
  obtain ⟨D, T, n, R, KO, V, ts, tl, F, Z, P, M, s1, s2, s3⟩ := G
  show lm_wp (59 + 1) 0 1725 [.ref 0, .ref 64, .ref 123, .int (nI i)] [] (hi, hl, X) Q
  obtain ⟨x, D1, T1, n1, R1, KO1, V1, ts1, tl1, F1, Z1, q1, q2⟩ : STI B 129 225 [.int (xs (i + 1))] T n R KO V ts tl F := sti (st_status Z hB)
  have hc := lw_v Z1 q1 q2 P M s1 s2 s3 hC
  refine w_N 5 1730 [.ref 0, .ref 64, .ref 123, .int (nI i)] [.int (nI i + 1), .ref 0, .ref 64] rfl ?_
  refine w_ia (i + 1) rfl s1 s2 (nI_add' i 1) (by omega) (by omega) (congrFun s3 (i + 1)) ?_
  refine w_ca (w_vst rfl rfl rfl (Nat.le_of_ble_eq_true rfl) (Nat.le_of_ble_eq_true rfl) (A_k P.1 64 (by decide))) hc ?_
  rintro _ _ ⟨rfl, hi1, hl1, rfl, t3, hm⟩
  show lm_wp (59 + 1) 0 1734 [.ref 0, .ref 64, .ref 123, .int (nI i)] [.int x] (hi1, hl1, X) _
  refine w_N 5 1739 [.ref 0, .ref 64, .ref 123, .int (nI i)] [.int (nI i + 1), .ref 0, .ref 123, .int x] rfl ?_
  refine w_ia (i + 1) rfl s1 s2 (nI_add' i 1) (by omega) (by omega) (congrFun t3 (i + 1)) ?_
  refine w_ca (w_vst rfl rfl rfl (Nat.le_of_ble_eq_true rfl) (Nat.le_of_ble_eq_true rfl) (M_kd M.1.1)) hm ?_
  rintro _ _ ⟨rfl, hi2, hl2, X2, rfl, G2⟩
  show lm_wp (59 + 1) 0 1743 [.ref 0, .ref 64, .ref 123, .int (nI i)] [.int x, .int x] (hi2, hl2, X2) _
  refine w_icmp_eq_t (t := 1748) rfl rfl rfl ?_
  exact k _ _ _ G2
theorem sw_all (x : Int32) : (∃ j : Nat, j < 47 ∧ x = nI j) ∨ (∀ j : Nat, j < 47 → ¬ x = nI j) := by
  by_cases h : ∃ j : Nat, j < 47 ∧ x = nI j
  · exact Or.inl h
  · exact Or.inr (fun j hj e => h ⟨j, hj, e⟩)
theorem lt_sub7 {i L : Nat} (hi : i ≤ 4000) (hL : L ≤ 3584) : nI L - 7 < nI i ↔ L < i + 7 := by
  by_cases h : 7 ≤ L
  · have e : nI L - 7 = nI (L - 7) := nI_sub (b := 7) h
    rw [e, nI_lt_iff (by omega) (by omega)]
    omega
  · have e : ∀ L, L < 7 → (nI L - 7).toInt < 0 := by decide
    have := e L (by omega)
    rw [Int32.lt_iff_toInt_lt, nI_ti (a := i) (by omega)]
    omega
def LF : Option Value → lm_H → Prop := fun r h1 => r = some (.int 1) ∧ lm_nc h1 ≤ 298 ∧ lm_ns h1 ≤ 22000
theorem lw_end {L i B C : Nat} {xs : Nat → Int32} {hi : Nat → Nat → Int32} {hl : Nat → Nat → Int64} {X : lm_X} (G : LG L xs B C hi hl X) : lm_wp 60 0 1754 [.ref 0, .ref 64, .ref 123, .int (nI i)] [] (hi, hl, X) LF := by
  obtain ⟨D, T, n, R, KO, V, ts, tl, F, Z, P, M, s1, s2, s3⟩ := G
  refine w_N 1 1755 [.ref 0, .ref 64, .ref 123, .int (nI i)] [.int 1] rfl ?_
  refine w_rz rfl rfl (Or.inr rfl) ⟨rfl, ?_, ?_⟩
  · have := M.1.2.2.2.1
    show X.2.2.2.2.1 ≤ 298
    split at this <;> split at this <;> omega
  · have := M.1.2.2.2.2
    show X.2.2.2.2.2 ≤ 22000
    split at this <;> split at this <;> omega
theorem lw_sw {L i B C : Nat} {xs : Nat → Int32} {hi : Nat → Nat → Int32} {hl : Nat → Nat → Int64} {X : lm_X} {Q : Option Value → lm_H → Prop} {x : Int32} (G : LG L xs B C hi hl X) (h7 : i + 7 ≤ L) (hL : L ≤ 3584) (hB : B + 20 < 2000000) (hC : C + 25 < 2147483648) (kd : lm_wp 60 0 1748 [.ref 0, .ref 64, .ref 123, .int (nI i)] [] (hi, hl, X) Q) (k : ∀ hi2 hl2 X2, LG L xs (B + 20) (C + 25) hi2 hl2 X2 → lm_wp 60 0 1748 [.ref 0, .ref 64, .ref 123, .int (nI i)] [] (hi2, hl2, X2) Q) : lm_wp 60 0 33 [.ref 0, .ref 64, .ref 123, .int (nI i)] [.int x] (hi, hl, X) Q := by
  rcases sw_all x with ⟨j, hj, rfl⟩ | hn
  · match j, hj with
    | 0, _ => exact w_ts (t := 236) rfl (by decide) rfl (lw_0 G h7 hL hB hC k)
    | 1, _ => exact w_ts (t := 279) rfl (by decide) rfl (lw_1 G h7 hL hB hC k)
    | 2, _ => exact w_ts (t := 352) rfl (by decide) rfl (lw_2 G h7 hL hB hC k)
    | 3, _ => exact w_ts (t := 415) rfl (by decide) rfl (lw_3 G h7 hL hB hC k)
    | 4, _ => exact w_ts (t := 449) rfl (by decide) rfl (lw_4 G h7 hL hB hC k)
    | 5, _ => exact w_ts (t := 472) rfl (by decide) rfl (lw_5 G h7 hL hB hC k)
    | 6, _ => exact w_ts (t := 515) rfl (by decide) rfl (lw_6 G h7 hL hB hC k)
    | 7, _ => exact w_ts (t := 548) rfl (by decide) rfl (lw_7 G h7 hL hB hC k)
    | 8, _ => exact w_ts (t := 623) rfl (by decide) rfl (lw_8 G h7 hL hB hC k)
    | 9, _ => exact w_ts (t := 672) rfl (by decide) rfl (lw_9 G h7 hL hB hC k)
    | 10, _ => exact w_ts (t := 705) rfl (by decide) rfl (lw_10 G h7 hL hB hC k)
    | 11, _ => exact w_ts (t := 748) rfl (by decide) rfl (lw_11 G h7 hL hB hC k)
    | 12, _ => exact w_ts (t := 807) rfl (by decide) rfl (lw_12 G h7 hL hB hC k)
    | 13, _ => exact w_ts (t := 830) rfl (by decide) rfl (lw_13 G h7 hL hB hC k)
    | 14, _ => exact w_ts (t := 853) rfl (by decide) rfl (lw_14 G h7 hL hB hC k)
    | 15, _ => exact w_ts (t := 866) rfl (by decide) rfl (lw_15 G h7 hL hB hC k)
    | 16, _ => exact w_ts (t := 879) rfl (by decide) rfl (lw_16 G h7 hL hB hC k)
    | 17, _ => exact w_ts (t := 912) rfl (by decide) rfl (lw_17 G h7 hL hB hC k)
    | 18, _ => exact w_ts (t := 945) rfl (by decide) rfl (lw_18 G h7 hL hB hC k)
    | 19, _ => exact w_ts (t := 968) rfl (by decide) rfl (lw_19 G h7 hL hB hC k)
    | 20, _ => exact w_ts (t := 991) rfl (by decide) rfl (lw_20 G h7 hL hB hC k)
    | 21, _ => exact w_ts (t := 1014) rfl (by decide) rfl (lw_21 G h7 hL hB hC k)
    | 22, _ => exact w_ts (t := 1037) rfl (by decide) rfl (lw_22 G h7 hL hB hC k)
    | 23, _ => exact w_ts (t := 1060) rfl (by decide) rfl (lw_23 G h7 hL hB hC k)
    | 24, _ => exact w_ts (t := 1083) rfl (by decide) rfl (lw_24 G h7 hL hB hC k)
    | 25, _ => exact w_ts (t := 1136) rfl (by decide) rfl (lw_25 G h7 hL hB hC k)
    | 26, _ => exact w_ts (t := 1169) rfl (by decide) rfl (lw_26 G h7 hL hB hC k)
    | 27, _ => exact w_ts (t := 1212) rfl (by decide) rfl (lw_27 G h7 hL hB hC k)
    | 28, _ => exact w_ts (t := 1235) rfl (by decide) rfl (lw_28 G h7 hL hB hC k)
    | 29, _ => exact w_ts (t := 1268) rfl (by decide) rfl (lw_29 G h7 hL hB hC k)
    | 30, _ => exact w_ts (t := 1311) rfl (by decide) rfl (lw_30 G h7 hL hB hC k)
    | 31, _ => exact w_ts (t := 1344) rfl (by decide) rfl (lw_31 G h7 hL hB hC k)
    | 32, _ => exact w_ts (t := 1377) rfl (by decide) rfl (lw_32 G h7 hL hB hC k)
    | 33, _ => exact w_ts (t := 1400) rfl (by decide) rfl (lw_33 G h7 hL hB hC k)
    | 34, _ => exact w_ts (t := 1423) rfl (by decide) rfl (lw_34 G h7 hL hB hC k)
    | 35, _ => exact w_ts (t := 1472) rfl (by decide) rfl (lw_35 G h7 hL hB hC k)
    | 36, _ => exact w_ts (t := 1495) rfl (by decide) rfl (lw_36 G h7 hL hB hC k)
    | 37, _ => exact w_ts (t := 1508) rfl (by decide) rfl (lw_37 G h7 hL hB hC k)
    | 38, _ => exact w_ts (t := 1541) rfl (by decide) rfl (lw_38 G h7 hL hB hC k)
    | 39, _ => exact w_ts (t := 1574) rfl (by decide) rfl (lw_39 G h7 hL hB hC k)
    | 40, _ => exact w_ts (t := 1597) rfl (by decide) rfl (lw_40 G h7 hL hB hC k)
    | 41, _ => exact w_ts (t := 1620) rfl (by decide) rfl (lw_41 G h7 hL hB hC k)
    | 42, _ => exact w_ts (t := 1663) rfl (by decide) rfl (lw_42 G h7 hL hB hC k)
    | 43, _ => exact w_ts (t := 1676) rfl (by decide) rfl (lw_43 G h7 hL hB hC k)
    | 44, _ => exact w_ts (t := 1699) rfl (by decide) rfl (lw_44 G h7 hL hB hC k)
    | 45, _ => exact w_ts (t := 1712) rfl (by decide) rfl (lw_45 G h7 hL hB hC k)
    | 46, _ => exact w_ts (t := 1725) rfl (by decide) rfl (lw_46 G h7 hL hB hC k)
    | j + 47, hj => exact absurd hj (by omega)
  · have e : lm_sw x 0 [203, 246, 319, 382, 416, 439, 482, 515, 590, 639, 672, 715, 774, 797, 820, 833, 846, 879, 912, 935, 958, 981, 1004, 1027, 1050, 1103, 1136, 1179, 1202, 1235, 1278, 1311, 1344, 1367, 1390, 1439, 1462, 1475, 1508, 1541, 1564, 1587, 1630, 1643, 1666, 1679, 1692] 1715 = 1715 := lm_sw_n (hn 0 (by decide)) (lm_sw_n (hn 1 (by decide)) (lm_sw_n (hn 2 (by decide)) (lm_sw_n (hn 3 (by decide)) (lm_sw_n (hn 4 (by decide)) (lm_sw_n (hn 5 (by decide)) (lm_sw_n (hn 6 (by decide)) (lm_sw_n (hn 7 (by decide)) (lm_sw_n (hn 8 (by decide)) (lm_sw_n (hn 9 (by decide)) (lm_sw_n (hn 10 (by decide)) (lm_sw_n (hn 11 (by decide)) (lm_sw_n (hn 12 (by decide)) (lm_sw_n (hn 13 (by decide)) (lm_sw_n (hn 14 (by decide)) (lm_sw_n (hn 15 (by decide)) (lm_sw_n (hn 16 (by decide)) (lm_sw_n (hn 17 (by decide)) (lm_sw_n (hn 18 (by decide)) (lm_sw_n (hn 19 (by decide)) (lm_sw_n (hn 20 (by decide)) (lm_sw_n (hn 21 (by decide)) (lm_sw_n (hn 22 (by decide)) (lm_sw_n (hn 23 (by decide)) (lm_sw_n (hn 24 (by decide)) (lm_sw_n (hn 25 (by decide)) (lm_sw_n (hn 26 (by decide)) (lm_sw_n (hn 27 (by decide)) (lm_sw_n (hn 28 (by decide)) (lm_sw_n (hn 29 (by decide)) (lm_sw_n (hn 30 (by decide)) (lm_sw_n (hn 31 (by decide)) (lm_sw_n (hn 32 (by decide)) (lm_sw_n (hn 33 (by decide)) (lm_sw_n (hn 34 (by decide)) (lm_sw_n (hn 35 (by decide)) (lm_sw_n (hn 36 (by decide)) (lm_sw_n (hn 37 (by decide)) (lm_sw_n (hn 38 (by decide)) (lm_sw_n (hn 39 (by decide)) (lm_sw_n (hn 40 (by decide)) (lm_sw_n (hn 41 (by decide)) (lm_sw_n (hn 42 (by decide)) (lm_sw_n (hn 43 (by decide)) (lm_sw_n (hn 44 (by decide)) (lm_sw_n (hn 45 (by decide)) (lm_sw_n (hn 46 (by decide)) (lm_sw_0)))))))))))))))))))))))))))))))))))))))))))))))
    refine w_ts (t := 1748) rfl (by decide) ?_ kd
    show lm_tg 33 (lm_sw x 0 [203, 246, 319, 382, 416, 439, 482, 515, 590, 639, 672, 715, 774, 797, 820, 833, 846, 879, 912, 935, 958, 981, 1004, 1027, 1050, 1103, 1136, 1179, 1202, 1235, 1278, 1311, 1344, 1367, 1390, 1439, 1462, 1475, 1508, 1541, 1564, 1587, 1630, 1643, 1666, 1679, 1692] 1715) = _
    rw [e]; rfl
theorem lw_loop {L : Nat} {xs : Nat → Int32} (hL : L ≤ 3584) : ∀ (fu i B C : Nat) (hi : Nat → Nat → Int32) (hl : Nat → Nat → Int64) (X : lm_X), L < i + 7 + fu → i ≤ 3600 → B ≤ 20 * i → C ≤ 25 * i → LG L xs B C hi hl X → lm_wp 60 0 18 [.ref 0, .ref 64, .ref 123, .int (nI i)] [] (hi, hl, X) LF
  | 0, i, B, C, hi, hl, X, h1, h2, hB, hC, G => by
    obtain ⟨D, T, n, R, KO, V, ts, tl, F, Z, P, M, s1, s2, s3⟩ := id G
    refine w_N 2 20 [.ref 0, .ref 64, .ref 123, .int (nI i)] [.ref 0, .int (nI i)] rfl ?_
    refine w_al L rfl (by rw [s1]; decide) s2 ?_
    refine w_N 2 24 [.ref 0, .ref 64, .ref 123, .int (nI i)] [.int (nI L - 7), .int (nI i)] rfl ?_
    exact w_icmp_gt_t (t := 1754) rfl rfl ((lt_sub7 (by omega) hL).mpr (by omega)) (lw_end G)
  | fu + 1, i, B, C, hi, hl, X, h1, h2, hB, hC, G => by
    obtain ⟨D, T, n, R, KO, V, ts, tl, F, Z, P, M, s1, s2, s3⟩ := id G
    refine w_N 2 20 [.ref 0, .ref 64, .ref 123, .int (nI i)] [.ref 0, .int (nI i)] rfl ?_
    refine w_al L rfl (by rw [s1]; decide) s2 ?_
    refine w_N 2 24 [.ref 0, .ref 64, .ref 123, .int (nI i)] [.int (nI L - 7), .int (nI i)] rfl ?_
    refine w_icmp_gt (t := 1754) rfl rfl (fun _ => lw_end G) (fun z => ?_)
    have h7 : i + 7 ≤ L := by
      have := mt (lt_sub7 (by omega) hL).mpr z
      omega
    refine w_N 2 29 [.ref 0, .ref 64, .ref 123, .int (nI i)] [.int (nI i), .ref 0] rfl ?_
    refine w_ia i rfl s1 s2 rfl (by omega) (by omega) (congrFun s3 i) ?_
    refine w_N 2 33 [.ref 0, .ref 64, .ref 123, .int (nI i)] [.int (xs i &&& 63)] rfl ?_
    have st : ∀ B' C' hi2 hl2 X2, B' ≤ 20 * (i + 7) → C' ≤ 25 * (i + 7) → LG L xs B' C' hi2 hl2 X2 → lm_wp 60 0 1748 [.ref 0, .ref 64, .ref 123, .int (nI i)] [] (hi2, hl2, X2) LF := fun B' C' hi2 hl2 X2 hB2 hC2 G2 => by
      refine w_N 2 18 [.ref 0, .ref 64, .ref 123, .int (nI i + 7)] [] rfl ?_
      have e : nI i + 7 = nI (i + 7) := nI_add' i 7
      rw [e]
      exact lw_loop hL fu (i + 7) B' C' hi2 hl2 X2 (by omega) (by omega) hB2 hC2 G2
    exact lw_sw G h7 hL (by omega) (by omega) (st B C hi hl X (by omega) (by omega) G) (fun hi2 hl2 X2 G2 => st _ _ hi2 hl2 X2 (by omega) (by omega) G2)
/-- the law, from its entry -/
theorem lw_all {L : Nat} {xs : Nat → Int32} (hL : L ≤ 3584) : lm_wp 60 0 0 [.ref 0, lm_jk, lm_jk, lm_jk] [] (lm_h0 L xs) LF := by
  show lm_wp (59 + 1) 0 0 [.ref 0, lm_jk, lm_jk, lm_jk] [] (lm_h0 L xs) LF
  refine w_new 64 rfl rfl rfl rfl (by decide) (by decide) ?_
  show lm_wp (59 + 1) 0 3 [.ref 0, lm_jk, lm_jk, lm_jk] [.ref 64] (h64 L xs) LF
  refine w_N 1 4 [.ref 0, lm_jk, lm_jk, lm_jk] [.ref 64, .ref 64] rfl ?_
  refine w_cc (d := 59) rfl (i_X (d := 58) rfl (fun a ha => ?_) rfl) ?_
  · show lm_u1 _ 64 _ a = 0
    rw [u1_na (by omega)]
    show (if a = 0 then 1 else if 1 ≤ a ∧ a < 23 then 40 else if 31 ≤ a ∧ a < 53 then 8 else if a = 60 then 1 else 0) = 0
    rw [if_neg (by omega), if_neg (by omega), if_neg (by omega), if_neg (by omega)]
  show lm_wp (59 + 1) 0 7 [.ref 0, lm_jk, lm_jk, lm_jk] [.ref 64] (gH L xs) LF
  refine w_N 1 8 [.ref 0, .ref 64, lm_jk, lm_jk] [] rfl ?_
  refine w_new 123 rfl rfl rfl (g_free (by decide)) (by decide) (by decide) ?_
  refine w_N 1 12 [.ref 0, .ref 64, lm_jk, lm_jk] [.ref 123, .ref 123] rfl ?_
  refine w_ca rfl (m_init (h0 := gH L xs) (b := 123) (cn_new trivial) (fun o ho => g_free (by omega)) (by decide)) ?_
  rintro _ ⟨hi, hl, X⟩ ⟨rfl, CC⟩
  show lm_wp (59 + 1) 0 15 [.ref 0, .ref 64, lm_jk, lm_jk] [.ref 123] (hi, hl, X) LF
  obtain ⟨P, M, s1, s2, s3⟩ := g_both CC
  refine w_N 3 18 [.ref 0, .ref 64, .ref 123, .int (nI 0)] [] rfl ?_
  exact lw_loop hL L 0 0 0 hi hl X (by omega) (by decide) (by decide) (by decide) ⟨0, T00, 0, R00, none, V00, 0, F00, F00, g_Z, P, M, s1, s2, s3⟩
theorem lw_run : ∀ (L : Nat) (xs : Nat → Int32), L ≤ 3584 → ∃ (n : Nat) (h1 : lm_H), lm_ex n 60 0 0 [.ref 0, lm_jk, lm_jk, lm_jk] [] (lm_h0 L xs) = some (some (.int 1), h1) ∧ lm_nc h1 ≤ 600000 ∧ lm_ns h1 ≤ 7302250 := fun L xs hL => by
  obtain ⟨v, h1, ⟨n, hr⟩, rfl, hn, hs⟩ := lw_all (xs := xs) hL
  exact ⟨n, h1, hr, by omega, by omega⟩
