set_option maxRecDepth 16384
/-! calls: leap, seed, image, back, status -/
theorem rem8 {D : Nat} (h : D < 2147483648) : nI D - nI D / 8 * 8 = nI (D % 8) := by
  apply Int32.toInt_inj.mp
  have e1 : (nI D / 8).toInt = (D / 8 : Nat) := by
    rw [Int32.toInt_div, nI_ti h, show (8 : Int32).toInt = 8 from rfl, show ((D : Int).tdiv 8) = ((D / 8 : Nat) : Int) from (Int.tdiv_eq_ediv_of_nonneg (by omega)).trans (Int.natCast_ediv D 8).symm, Int.bmod_eq_of_le (by simp; omega) (by simp; omega)]
  have e2 : nI D / 8 = nI (D / 8) := by
    apply Int32.toInt_inj.mp
    rw [e1, nI_ti (by omega)]
  rw [e2, show (8 : Int32) = nI 8 from rfl, nI_mul', nI_sub (by omega)]
  congr 2
  omega
theorem drm_lt (x : Int32) : ∃ m, m < 8 ∧ drm x = nI m := by
  have q : ∃ p, p < 65536 ∧ (x.toUInt32 >>> (Int32.toUInt32 16 &&& Int32.toUInt32 31)).toInt32 = nI p := by
    refine ⟨(x.toUInt32 >>> 16).toNat, ?_, ?_⟩
    · rw [UInt32.toNat_shiftRight]
      have : x.toUInt32.toNat < 4294967296 := x.toUInt32.toNat_lt
      rw [show (16 : UInt32).toNat % 32 = 16 from rfl, Nat.shiftRight_eq_div_pow]
      omega
    · rw [show Int32.toUInt32 16 &&& Int32.toUInt32 31 = 16 from rfl]
      generalize x.toUInt32 >>> 16 = y
      apply Int32.toBitVec_inj.mp
      show y.toBitVec = BitVec.ofNat 32 y.toNat
      rw [← UInt32.toNat_toBitVec, BitVec.ofNat_toNat, BitVec.setWidth_eq]
  obtain ⟨p, hp, e⟩ := q
  refine ⟨p % 8, by omega, ?_⟩
  unfold drm
  show (x.toUInt32 >>> (Int32.toUInt32 16 &&& Int32.toUInt32 31)).toInt32 - (x.toUInt32 >>> (Int32.toUInt32 16 &&& Int32.toUInt32 31)).toInt32 / 8 * 8 = _
  rw [e]
  exact rem8 (by omega)
theorem x_leap {d : Nat} {hi : Nat → Nat → Int32} {hl : Nat → Nat → Int64} {X : lm_X} {hi0 : Nat → Nat → Int32} {hl0 : Nat → Nat → Int64} {C n ts : Nat} {T : lm_T} {R : Nat → Int32} {KO : ab_K} {V : ab_V} {tl F : Nat → Int32} (P : cP hi0 hl0 hi hl X C T n R KO V ts tl F) {m : Nat} (hm : m < 8) (em : drm (drw (R 13)) = nI m) (hC : C + 25 < 2147483648) : lm_w (d + 30) 125 [.ref 64] (hi, hl, X) (cQ hi0 hl0 X (C + 25) (.int (nI m)) T n (lm_u1 (lm_u1 (lm_u1 R 13 (drw (R 13))) 15 0) 10 (s_turn (R 10) (nI m))) KO V ts tl F) := by
  obtain ⟨S, O, H, HR, FO, HV, HT, HF, HK, E0, EL0⟩ := id P
  refine lm_w_in (Nat.le_of_ble_eq_true rfl) ?_
  show lm_wp (d + 30) 125 0 [.ref 64, lm_jk] [] (hi, hl, X) _
  refine w_N 1 1 [.ref 64, lm_jk] [.ref 64] rfl ?_
  refine w_gr 65 rfl rfl rfl (A_k S 64 (by decide)) (A_r S 64 0 (by decide)) ?_
  refine w_ca (w_vst rfl rfl rfl (Nat.le_of_ble_eq_true rfl) (Nat.le_of_ble_eq_true rfl) (T_kd (A_T65 S))) (t_drawMark (d := d + 29) (A_T65 S) H HR) ?_
  rintro _ _ ⟨h5x, rfl, rfl, H5, R5, c5, f5⟩
  rw [em]
  have P := cP_town P f5 H5 R5 (fok_same f5 c5 FO)
  obtain ⟨S, O, H, HR, FO, HV, HT, HF, HK, E0, EL0⟩ := id P
  show lm_wp _ 125 7 [.ref 64, lm_jk] [.int (nI m)] (h5x, hl, X) _
  refine w_N 2 9 [.ref 64, .int (nI m)] [.ref 64] rfl ?_
  refine w_gr 65 rfl rfl rfl (A_k S 64 (by decide)) (A_r S 64 0 (by decide)) ?_
  refine w_N 1 13 [.ref 64, .int (nI m)] [.int 0, .ref 65] rfl ?_
  refine w_pb rfl rfl rfl rfl (T_kd (A_T65 S)) (T_64 (A_T65 S)) (by decide) ?_
  refine w_N 1 17 [.ref 64, .int (nI m)] [.ref 64] rfl ?_
  refine w_gr 65 rfl rfl rfl (A_k S 64 (by decide)) (A_r S 64 0 (by decide)) ?_
  refine w_N 1 21 [.ref 64, .int (nI m)] [.ref 64, .ref 65] rfl ?_
  refine w_gr 65 rfl rfl rfl (A_k S 64 (by decide)) (A_r S 64 0 (by decide)) ?_
  refine w_gi (v := R 10) rfl rfl rfl (T_kd (A_T65 S)) ((lm_up_nk (by decide)).trans (HR.1)) ?_
  refine w_N 1 28 [.ref 64, .int (nI m)] [.int (nI m), .int (R 10), .ref 65] rfl ?_
  refine w_cc rfl c_X4_turned ?_
  show lm_wp _ 125 31 [.ref 64, .int (nI m)] [.int (s_turn (R 10) (nI m)), .ref 65] (lm_up h5x 65 15 0, hl, X) _
  refine w_pi rfl rfl rfl rfl (T_kd (A_T65 S)) (T_64 (A_T65 S)) ?_
  refine w_N 1 35 [.ref 64, .int (nI m)] [.int (nI m)] rfl ?_
  refine w_ri rfl rfl ?_
  exact cq_ (cP_R (k := 10) (by decide) (cP_R (k := 15) (v := 0) (by decide) P)) (by omega) hC
theorem m_draw {d : Nat} {hi : Nat → Nat → Int32} {hl : Nat → Nat → Int64} {X : lm_X} {x : Int32} (S : sh_M X 123) (h21 : hi 123 21 = x) : lm_w d 218 [.ref 123, .int 8] (hi, hl, X) (fun v h1 => v = some (.int (drm (drw x))) ∧ h1 = (lm_up hi 123 21 (drw x), hl, X)) := by
  refine lm_w_in (Nat.le_of_ble_eq_true rfl) ?_
  show lm_wp d 218 0 [.ref 123, .int 8] [] (hi, hl, X) _
  refine w_N 2 2 [.ref 123, .int 8] [.ref 123, .ref 123] rfl ?_
  refine w_gi (v := x) rfl rfl rfl (M_kd S) (h21) ?_
  refine w_N 4 13 [.ref 123, .int 8] [.int ((x * 1103515245) + 12345), .ref 123] rfl ?_
  refine w_pi rfl rfl rfl rfl (M_kd S) (M_64 S) ?_
  refine w_N 1 17 [.ref 123, .int 8] [.ref 123] rfl ?_
  refine w_gi (v := (x * 1103515245) + 12345) rfl rfl rfl (M_kd S) (lm_up_eq) ?_
  refine w_N 3 24 [.ref 123, .int 8] [.int 8, .int ((((x * 1103515245) + 12345).toUInt32 >>> (Int32.toUInt32 16 &&& Int32.toUInt32 31)).toInt32)] rfl ?_
  refine w_rem rfl (by decide) ?_
  refine w_ri rfl rfl ?_
  exact ⟨rfl, rfl⟩
theorem y_leap {d : Nat} {hi : Nat → Nat → Int32} {hl : Nat → Nat → Int64} {X : lm_X} {hi0 : Nat → Nat → Int32} {hl0 : Nat → Nat → Int64} {X0 : lm_X} {n ts : Nat} {T : lm_T} {R : Nat → Int32} {KO : ab_K} {V : ab_V} {tl F : Nat → Int32} (P : mP hi0 hl0 X0 hi hl X T n R KO V ts tl F) {m : Nat} (hm : m < 8) (em : drm (drw (R 13)) = nI m) : lm_w (d + 30) 219 [.ref 123] (hi, hl, X) (mQ hi0 hl0 X0 (.int (nI m)) T n (lm_u1 (lm_u1 (lm_u1 R 13 (drw (R 13))) 15 0) 10 (s_turn (R 10) (nI m))) KO V ts tl F) := by
  obtain ⟨SR, O, H, HR, HV, HT, HF, HK, E0, EL0, EX0⟩ := id P
  have S := SR.1
  refine lm_w_in (Nat.le_of_ble_eq_true rfl) ?_
  show lm_wp (d + 30) 219 0 [.ref 123, lm_jk] [] (hi, hl, X) _
  refine w_N 2 3 [.ref 123, lm_jk] [.int 8, .ref 123] rfl ?_
  refine w_ca (w_vst rfl rfl rfl (Nat.le_of_ble_eq_true rfl) (Nat.le_of_ble_eq_true rfl) (M_kd S)) (m_draw S HR.2.2.2.1) ?_
  rintro _ _ ⟨rfl, rfl⟩
  rw [em]
  show lm_wp _ 219 6 [.ref 123, lm_jk] [.int (nI m)] (lm_up hi 123 21 (drw (R 13)), hl, X) _
  refine w_N 3 9 [.ref 123, .int (nI m)] [.ref 123, .ref 123] rfl ?_
  refine w_gi (v := s_marks (R 10)) rfl rfl rfl (M_kd S) ((lm_up_nk (by decide)).trans (HR.1.1)) ?_
  refine w_N 4 16 [.ref 123, .int (nI m)] [.int ((s_marks (R 10)) ^^^ (1 <<< ((nI m) &&& 31))), .ref 123] rfl ?_
  refine w_pi rfl rfl rfl rfl (M_kd S) (M_64 S) ?_
  refine w_N 2 21 [.ref 123, .int (nI m)] [.int 0, .ref 123] rfl ?_
  refine w_pb rfl rfl rfl rfl (M_kd S) (M_64 S) (by decide) ?_
  refine w_N 1 25 [.ref 123, .int (nI m)] [.int (nI m)] rfl ?_
  refine w_ri rfl rfl ?_
  refine mq_ (mP_town P ⟨fun a ha => by rw [lm_up_rw (by omega), lm_up_rw (by omega), lm_up_rw (by omega)], ?_⟩ ⟨fun k hk a ha => ?_, fun h hh w hw => ?_, ?_, rTle H⟩ ⟨⟨?_, fun c hc => ?_⟩, ?_, ?_, ?_, fun z => absurd (show (0 : Int32) = 1 from z) (by decide), ?_, ?_, ?_⟩)
  · exact (lm_up_nk (by decide)).trans ((lm_up_nk (by decide)).trans ((lm_up_nk (by decide)).trans (rfl)))
  · rw [lm_up_na (by omega), lm_up_na (by omega), lm_up_na (by omega)]; exact H.1 k hk a ha
  · rw [lm_up_na (by omega), lm_up_na (by omega), lm_up_na (by omega)]; exact H.2.1 h hh w hw
  · exact (lm_up_nk (by decide)).trans ((lm_up_nk (by decide)).trans ((lm_up_nk (by decide)).trans (H.2.2.1)))
  · exact ((lm_up_nk (by decide)).trans (lm_up_eq)).trans (marks_turn hm).symm
  · rw [lm_up_na (by decide), lm_up_na (by decide), lm_up_na (by decide)]; show _ = s_count (s_turn (R 10) (nI m)) (nI c); rw [count_turn hc hm]; exact HR.1.2 c hc
  · exact (lm_up_nk (by decide)).trans ((lm_up_nk (by decide)).trans ((lm_up_nk (by decide)).trans (HR.2.1)))
  · exact (lm_up_nk (by decide)).trans ((lm_up_nk (by decide)).trans ((lm_up_nk (by decide)).trans (HR.2.2.1)))
  · exact (lm_up_nk (by decide)).trans ((lm_up_nk (by decide)).trans (lm_up_eq))
  · exact lm_up_eq
  · rw [lm_up_na (by decide), lm_up_na (by decide), lm_up_na (by decide)]; exact HR.2.2.2.2.2.2.1
  · rw [lm_up_na (by decide), lm_up_na (by decide), lm_up_na (by decide)]; exact HR.2.2.2.2.2.2.2
theorem okR_13 {R : Nat → Int32} {D : Nat} {v : Int32} (h : okR R D) : okR (lm_u1 R 13 v) D := ⟨h.1, h.2.1, h.2.2.1, h.2.2.2.1, h.2.2.2.2.1, h.2.2.2.2.2⟩
theorem st_leap {B D : Nat} {n ts : Nat} {T : lm_T} {R : Nat → Int32} {KO : ab_K} {V : ab_V} {tl F : Nat → Int32}  (Z : okZ B D T n R KO V ts tl) (hB : B + 20 < 2000000) : STEP B 125 219 [] T n R KO V ts tl F := by
  obtain ⟨hT, hO, hV, hts, htl, hDB, hB0, hKO⟩ := id Z
  obtain ⟨m, hm, em⟩ := drm_lt (drw (R 13))
  exact ⟨_, D, _, _, _, _, _, _, _, _, okZ_T Z hB hT (okR_s (s' := s_turn (R 10) (nI m)) (okR_13 (v := drw (R 13)) hO) (okS_turn hO.1 hm) (awk_turn hm)), fun _ _ _ _ _ _ P hC => x_leap (d := 10) P hm em hC, fun _ _ _ _ _ _ P => y_leap (d := 10) P hm em⟩
theorem x_seed {d : Nat} {hi : Nat → Nat → Int32} {hl : Nat → Nat → Int64} {X : lm_X} {hi0 : Nat → Nat → Int32} {hl0 : Nat → Nat → Int64} {C n ts : Nat} {T : lm_T} {R : Nat → Int32} {KO : ab_K} {V : ab_V} {tl F : Nat → Int32} (P : cP hi0 hl0 hi hl X C T n R KO V ts tl F) {x : Int32} (hC : C + 25 < 2147483648) : lm_w (d + 30) 126 [.ref 64, .int x] (hi, hl, X) (cQ hi0 hl0 X (C + 25) (.int (R 13)) T n (lm_u1 R 13 x) KO V ts tl F) := by
  obtain ⟨S, O, H, HR, FO, HV, HT, HF, HK, E0, EL0⟩ := id P
  refine lm_w_in (Nat.le_of_ble_eq_true rfl) ?_
  show lm_wp (d + 30) 126 0 [.ref 64, .int x, lm_jk] [] (hi, hl, X) _
  refine w_N 1 1 [.ref 64, .int x, lm_jk] [.ref 64] rfl ?_
  refine w_gr 65 rfl rfl rfl (A_k S 64 (by decide)) (A_r S 64 0 (by decide)) ?_
  refine w_gi (v := R 13) rfl rfl rfl (T_kd (A_T65 S)) (HR.2.2.2.1) ?_
  refine w_N 2 9 [.ref 64, .int x, .int (R 13)] [.ref 64] rfl ?_
  refine w_gr 65 rfl rfl rfl (A_k S 64 (by decide)) (A_r S 64 0 (by decide)) ?_
  refine w_N 1 13 [.ref 64, .int x, .int (R 13)] [.int x, .ref 65] rfl ?_
  refine w_pi rfl rfl rfl rfl (T_kd (A_T65 S)) (T_64 (A_T65 S)) ?_
  refine w_N 1 17 [.ref 64, .int x, .int (R 13)] [.int (R 13)] rfl ?_
  refine w_ri rfl rfl ?_
  exact cq_ (cP_R (k := 13) (by decide) P) (by omega) hC
theorem y_seed {d : Nat} {hi : Nat → Nat → Int32} {hl : Nat → Nat → Int64} {X : lm_X} {hi0 : Nat → Nat → Int32} {hl0 : Nat → Nat → Int64} {X0 : lm_X} {n ts : Nat} {T : lm_T} {R : Nat → Int32} {KO : ab_K} {V : ab_V} {tl F : Nat → Int32} (P : mP hi0 hl0 X0 hi hl X T n R KO V ts tl F) {x : Int32} : lm_w (d + 30) 220 [.ref 123, .int x] (hi, hl, X) (mQ hi0 hl0 X0 (.int (R 13)) T n (lm_u1 R 13 x) KO V ts tl F) := by
  obtain ⟨SR, O, H, HR, HV, HT, HF, HK, E0, EL0, EX0⟩ := id P
  have S := SR.1
  refine lm_w_in (Nat.le_of_ble_eq_true rfl) ?_
  show lm_wp (d + 30) 220 0 [.ref 123, .int x, lm_jk] [] (hi, hl, X) _
  refine w_N 1 1 [.ref 123, .int x, lm_jk] [.ref 123] rfl ?_
  refine w_gi (v := R 13) rfl rfl rfl (M_kd S) (HR.2.2.2.1) ?_
  refine w_N 3 7 [.ref 123, .int x, .int (R 13)] [.int x, .ref 123] rfl ?_
  refine w_pi rfl rfl rfl rfl (M_kd S) (M_64 S) ?_
  refine w_N 1 11 [.ref 123, .int x, .int (R 13)] [.int (R 13)] rfl ?_
  refine w_ri rfl rfl ?_
  refine mq_ (mP_town P ⟨fun a ha => lm_up_rw (by omega), lm_up_nk (by decide)⟩ ⟨fun k hk a ha => ?_, fun h hh w hw => ?_, ?_, rTle H⟩ ?_)
  · rw [lm_up_na (by omega)]; exact H.1 k hk a ha
  · rw [lm_up_na (by omega)]; exact H.2.1 h hh w hw
  · rw [lm_up_nk (by decide)]; exact H.2.2.1
  · obtain ⟨r1, r2, r3, r4, r5, r6, r7, r8⟩ := HR
    exact ⟨⟨(lm_up_nk (by decide)).trans r1.1, fun c hc => (lm_up_na (by decide)).trans (r1.2 c hc)⟩, (lm_up_nk (by decide)).trans r2, (lm_up_nk (by decide)).trans r3, lm_up_eq, fun z => ⟨(lm_up_nk (by decide)).trans (r5 z).1, fun c hc => (lm_up_na (by decide)).trans ((r5 z).2 c hc)⟩, (lm_up_nk (by decide)).trans r6, (lm_up_na (by decide)).trans r7, (lm_up_na (by decide)).trans r8⟩
theorem st_seed {B D : Nat} {n ts : Nat} {T : lm_T} {R : Nat → Int32} {KO : ab_K} {V : ab_V} {tl F : Nat → Int32} {x : Int32} (Z : okZ B D T n R KO V ts tl) (hB : B + 20 < 2000000) : STEP B 126 220 [.int x] T n R KO V ts tl F := by
  obtain ⟨hT, hO, hV, hts, htl, hDB, hB0, hKO⟩ := id Z
  exact ⟨_, D, _, _, _, _, _, _, _, _, okZ_T Z hB hT (okR_13 (v := x) hO), fun _ _ _ _ _ _ P hC => x_seed (d := 10) P hC, fun _ _ _ _ _ _ P => y_seed (d := 10) P⟩
theorem x_image {d : Nat} {hi : Nat → Nat → Int32} {hl : Nat → Nat → Int64} {X : lm_X} {hi0 : Nat → Nat → Int32} {hl0 : Nat → Nat → Int64} {C n ts : Nat} {T : lm_T} {R : Nat → Int32} {KO : ab_K} {V : ab_V} {tl F : Nat → Int32} (P : cP hi0 hl0 hi hl X C T n R KO V ts tl F) {B D : Nat} (Z : okZ B D T n R KO V ts tl) (hC : C + 25 < 2147483648) : lm_w (d + 30) 127 [.ref 64] (hi, hl, X) (cQ hi0 hl0 X (C + 25) (.int 1) T n R (some (T, n, R)) V ts tl F) := by
  obtain ⟨S, O, H, HR, FO, HV, HT, HF, HK, E0, EL0⟩ := id P
  obtain ⟨hT, hO, hV, hts, htl, hDB, hB0, hKO⟩ := id Z
  refine lm_w_in (Nat.le_of_ble_eq_true rfl) ?_
  show lm_wp (d + 30) 127 0 [.ref 64] [] (hi, hl, X) _
  refine w_N 1 1 [.ref 64] [.ref 64] rfl ?_
  refine w_gr 75 rfl rfl rfl (A_k S 64 (by decide)) (A_r S 64 1 (by decide)) ?_
  refine w_N 1 5 [.ref 64] [.ref 64, .ref 75] rfl ?_
  refine w_gr 65 rfl rfl rfl (A_k S 64 (by decide)) (A_r S 64 0 (by decide)) ?_
  refine w_ca (w_vst rfl rfl rfl (Nat.le_of_ble_eq_true rfl) (Nat.le_of_ble_eq_true rfl) (T_kd (A_T75 S))) (t_become (d := d + 29) (A_T75 S) (A_T65 S) H HR hO.2.2.2.2.1 (by decide)) ?_
  rintro _ _ ⟨h5x, rfl, rfl, H5, R5, c5, f5⟩
  show lm_wp _ 127 11 [.ref 64] [] (h5x, hl, X) _
  refine w_N 2 13 [.ref 64] [.int 1, .ref 64] rfl ?_
  refine w_pb rfl rfl rfl rfl (A_k S 64 (by decide)) (by decide) (by decide) ?_
  refine w_N 1 17 [.ref 64] [.int 1] rfl ?_
  refine w_ri rfl rfl ?_
  exact cq_ (cP_kept (q := (T, n, R)) P f5 H5 R5) (by omega) hC
theorem mP_kept {hi0 hi hi' : Nat → Nat → Int32} {hl0 hl hl' : Nat → Nat → Int64} {X0 X X' : lm_X} {n ts : Nat} {T : lm_T} {R : Nat → Int32} {KO : ab_K} {V : ab_V} {tl F : Nat → Int32} {q : lm_T × Nat × (Nat → Int32)} (P : mP hi0 hl0 X0 hi hl X T n R KO V ts tl F) (f : fr 1000 1049 hi hi') (fl : ∀ a, (a < 1000 ∨ 1049 ≤ a) → hl' a = hl a) (fx : xF 1000 22 X X') (SR' : sh_R X') (n22 : X'.1 123 22 = some 1000) (H' : rT hi' 1000 q.1 q.2.1) (R' : rR hi' 1000 q.2.2) : mP hi0 hl0 X0 hi' hl' X' T n R (some q) V ts tl F := by
  obtain ⟨SR, O, H, HR, HV, HT, HF, HK, E, EL, EX⟩ := P
  have gx : xG X X' := fun a ha => ⟨(fx a (by omega)).1, (fx a (by omega)).2.1, fun k => (fx a (by omega)).2.2 k (Or.inl (by omega))⟩
  exact ⟨SR', olP_X gx (olP_fr f (by decide) O), rT_fr f (by decide) H, rR_fr f (by decide) HR, mV_l (fun a ha => fl a (by omega)) (mV_f (fun a h1 h2 => f a (by omega)) HV), ⟨by rw [f 123 (by decide)]; exact HT.1, fun i hj => by rw [f 139 (by decide)]; exact HT.2 i hj⟩, fun k hk => by rw [f 140 (by decide)]; exact HF k hk, ⟨n22, H', R'⟩, fr_trans E (fr_mono f (by decide)), fun a ha => (fl a (by omega)).trans (EL a ha), xG_trans EX gx⟩
theorem y_im18 {d : Nat} {hi : Nat → Nat → Int32} {hl : Nat → Nat → Int64} {X : lm_X} {n : Nat} {T : lm_T} {R : Nat → Int32} (S : sh_M X 123) (S7 : sh_M X 1000) (h22 : X.1 123 22 = some 1000) (H : rT hi 123 T n) (HR : rR hi 123 R) (hk : R 15 = 0 ∨ R 15 = 1) : lm_wp (d + 2) 223 18 [.ref 123] [] (hi, hl, X) (fun v h1 => ∃ hi', v = some (.int 1) ∧ h1 = (hi', hl, X) ∧ rT hi' 1000 T n ∧ rR hi' 1000 R ∧ fr 1000 1049 hi hi') := by
  refine w_N 1 19 [.ref 123] [.ref 123] rfl ?_
  refine w_gr 1000 rfl rfl rfl (M_kd S) h22 ?_
  refine w_N 1 23 [.ref 123] [.ref 123, .ref 1000] rfl ?_
  refine w_ca (w_vst rfl rfl rfl (Nat.le_of_ble_eq_true rfl) (Nat.le_of_ble_eq_true rfl) (M_kd S7)) (m_takeFrom S7 S H HR hk (by decide)) ?_
  rintro _ _ ⟨hi1, rfl, rfl, H1, R1, Q1⟩
  show lm_wp _ 223 26 [.ref 123] [] (hi1, hl, X) _
  refine w_N 1 27 [.ref 123] [.int 1] rfl ?_
  refine w_ri rfl rfl ?_
  exact ⟨hi1, rfl, rfl, H1, R1, fun a ha => Q1.1 a (by omega)⟩
theorem y_image {d : Nat} {hi : Nat → Nat → Int32} {hl : Nat → Nat → Int64} {X : lm_X} {hi0 : Nat → Nat → Int32} {hl0 : Nat → Nat → Int64} {X0 : lm_X} {n ts : Nat} {T : lm_T} {R : Nat → Int32} {KO : ab_K} {V : ab_V} {tl F : Nat → Int32} (P : mP hi0 hl0 X0 hi hl X T n R KO V ts tl F) {B D : Nat} (Z : okZ B D T n R KO V ts tl) : lm_w (d + 30) 223 [.ref 123] (hi, hl, X) (mQ hi0 hl0 X0 (.int 1) T n R (some (T, n, R)) V ts tl F) := by
  obtain ⟨SR, O, H, HR, HV, HT, HF, HK, E0, EL0, EX0⟩ := id P
  obtain ⟨hT, hO, hV, hts, htl, hDB, hB0, hKO⟩ := id Z
  obtain ⟨S, h7, h10, hnc, hns⟩ := id SR
  have hk := hO.2.2.2.2.1
  refine lm_w_in (Nat.le_of_ble_eq_true rfl) ?_
  show lm_wp (d + 30) 223 0 [.ref 123] [] (hi, hl, X) _
  refine w_N 1 1 [.ref 123] [.ref 123] rfl ?_
  rcases h10 with ⟨h22, hf⟩ | ⟨h22, S7⟩
  · refine w_g0 rfl rfl rfl (M_kd S) h22 ?_
    refine w_n0 rfl ?_
    refine w_N 1 8 [.ref 123] [.ref 123] rfl ?_
    refine w_new 1000 rfl rfl rfl (hf 0 (by decide)) (by decide) (by decide) ?_
    refine w_N 1 12 [.ref 123] [.ref 1000, .ref 1000, .ref 123] rfl ?_
    refine w_ca rfl (m_init (h0 := (hi, hl, X)) (b := 1000) (cn_new trivial) (fun o ho => hf o ho.2) (by decide)) ?_
    rintro _ ⟨hi1, hl1, X1⟩ ⟨rfl, C⟩
    show lm_wp _ 223 15 [.ref 123] [.ref 1000, .ref 123] (hi1, hl1, X1) _
    have S7 := cn_sh (by decide) C
    obtain ⟨c1, -, -, -, -, -, -, -, -, -, -, c12, c13, c14⟩ := C
    have k123 : X1.2.1 123 = 10 + 7 := (c1 123 (by decide)).2.2.2.1.trans (M_kd S)
    refine w_pr rfl rfl rfl rfl k123 (by decide) ?_
    show lm_wp _ 223 18 [.ref 123] [] (hi1, hl1, lm_up X1.1 123 22 (some 1000), X1.2) _
    have hF : xF 1000 22 X (lm_up X1.1 123 22 (some 1000), X1.2) := fun a ha => by
      obtain ⟨q1, q2, q3, q4, q5⟩ := c1 a (by omega)
      refine ⟨q4, q5, fun k hk => ?_⟩
      show lm_up X1.1 123 22 (some 1000) a k = _
      by_cases z : a = 123
      · subst z; rw [lm_up_nk (by omega)]; exact congrFun q3 k
      · rw [lm_up_na z]; exact congrFun q3 k
    have S1' : sh_M (lm_up X1.1 123 22 (some 1000), X1.2) 123 := xF_M hF (by decide) (by decide) rfl S
    have S7' : sh_M (lm_up X1.1 123 22 (some 1000), X1.2) 1000 := by
      obtain ⟨s1, s2, s3, s4, s5, s6, s7, s8, s9⟩ := S7
      have e : ∀ a k, a ≠ 123 → (lm_up X1.1 123 22 (some 1000)) a k = X1.1 a k := fun a k h => lm_up_na h
      exact ⟨s1, s2, s3, fun k o h => (e _ _ (by decide)).trans (s4 k o h), fun i h => (e _ _ (by decide)).trans (s5 i h), fun i h => (e _ _ (by decide)).trans (s6 i h), fun i h => (e _ _ (by decide)).trans (s7 i h), fun i h => (e _ _ (by decide)).trans (s8 i h), fun i h => (e _ _ (by decide)).trans (s9 i h)⟩
    have F1 : fr 1000 1049 hi hi1 := fun a ha => (c1 a (by omega)).1
    have n23 : (lm_up X1.1 123 22 (some 1000)) 123 23 = X.1 123 23 := (hF 123 (by decide)).2.2 23 (by decide)
    have n22 : (lm_up X1.1 123 22 (some 1000)) 123 22 = some 1000 := lm_up_eq
    refine lm_wp_mono (y_im18 (d := d + 28) S1' S7' n22 (rT_fr F1 (by decide) H) (rR_fr F1 (by decide) HR) hk) ?_
    rintro v h ⟨hi2, rfl, rfl, H2, R2, F2⟩
    refine mq_ (mP_kept (q := (T, n, R)) P (fr_trans F1 F2) (fun a ha => (c1 a (by omega)).2.1) hF ⟨S1', ?_, Or.inr ⟨n22, S7'⟩, ?_, ?_⟩ n22 H2 R2)
    · rcases h7 with ⟨a1, a2⟩ | ⟨a1, a2⟩
      · exact Or.inl ⟨n23.trans a1, fun o ho => (hF (700 + o) (by omega)).1.trans (a2 o ho)⟩
      · exact Or.inr ⟨n23.trans a1, xF_M hF (by decide) (by decide) rfl a2⟩
    · show X1.2.2.2.2.1 ≤ 200 + (if (lm_up X1.1 123 22 (some 1000)) 123 23 = none then 0 else 49) + (if (lm_up X1.1 123 22 (some 1000)) 123 22 = none then 0 else 49)
      rw [n23, n22, if_neg (c := some 1000 = none) (by simp)]
      rw [if_pos h22] at hnc
      have : X1.2.2.2.2.1 = X.2.2.2.2.1 + 49 := c13
      omega
    · show X1.2.2.2.2.2 ≤ 20000 + (if (lm_up X1.1 123 22 (some 1000)) 123 23 = none then 0 else 1000) + (if (lm_up X1.1 123 22 (some 1000)) 123 22 = none then 0 else 1000)
      rw [n23, n22, if_neg (c := some 1000 = none) (by simp)]
      rw [if_pos h22] at hns
      have e : (mLns.take 49).sum ≤ 900 := by decide
      have : X1.2.2.2.2.2 = X.2.2.2.2.2 + (36 + (mLns.take 49).sum) := c14
      omega
  · refine w_gr 1000 rfl rfl rfl (M_kd S) h22 ?_
    refine w_nn (t := 18) rfl rfl ?_
    refine lm_wp_mono (y_im18 (d := d + 28) S S7 h22 H HR hk) ?_
    rintro v h ⟨hi1, rfl, rfl, H1, R1, F1⟩
    exact mq_ (mP_kept (q := (T, n, R)) P F1 (fun _ _ => rfl) xF_rfl SR h22 H1 R1)
theorem st_image {B D : Nat} {n ts : Nat} {T : lm_T} {R : Nat → Int32} {KO : ab_K} {V : ab_V} {tl F : Nat → Int32}  (Z : okZ B D T n R KO V ts tl) (hB : B + 20 < 2000000) : STEP B 127 223 [] T n R KO V ts tl F := by
  obtain ⟨hT, hO, hV, hts, htl, hDB, hB0, hKO⟩ := id Z
  refine ⟨_, D, _, _, _, _, _, _, _, _, ?_, fun _ _ _ _ _ _ P hC => x_image (d := 10) P Z hC, fun _ _ _ _ _ _ P => y_image (d := 10) P Z⟩
  obtain ⟨z1, z2, z3, z4, z5, z6, z7, z8⟩ := okZ_up Z hB
  exact ⟨z1, z2, z3, z4, z5, z6, z7, fun q hq => by cases hq; exact ⟨hT, D, hO, by omega⟩⟩
theorem x_back_n {d : Nat} {hi : Nat → Nat → Int32} {hl : Nat → Nat → Int64} {X : lm_X} {hi0 : Nat → Nat → Int32} {hl0 : Nat → Nat → Int64} {C n ts : Nat} {T : lm_T} {R : Nat → Int32} {V : ab_V} {tl F : Nat → Int32} (P : cP hi0 hl0 hi hl X C T n R none V ts tl F) (hC : C + 25 < 2147483648) : lm_w (d + 30) 128 [.ref 64] (hi, hl, X) (cQ hi0 hl0 X (C + 25) (.int (-5)) T n R none V ts tl (rfU F (-5))) := by
  obtain ⟨S, O, H, HR, FO, HV, HT, HF, HK, E0, EL0⟩ := id P
  refine lm_w_in (Nat.le_of_ble_eq_true rfl) ?_
  show lm_wp (d + 30) 128 0 [.ref 64] [] (hi, hl, X) _
  refine w_N 1 1 [.ref 64] [.ref 64] rfl ?_
  refine w_gi (v := 0) rfl rfl rfl (A_k S 64 (by decide)) (HK) ?_
  refine w_if_ne_f (t := 14) rfl rfl (by decide) ?_
  refine w_N 2 10 [.ref 64] [.int (-5), .ref 64] rfl ?_
  refine w_ca (w_vst rfl rfl rfl (Nat.le_of_ble_eq_true rfl) (Nat.le_of_ble_eq_true rfl) (A_k S 64 (by decide))) (x_refuse P (by unfold isW; decide)) ?_
  rintro _ _ ⟨rfl, hi9, rfl, P9⟩
  show lm_wp _ 128 13 [.ref 64] [.int (-5)] (hi9, hl, X) _
  refine w_ri rfl rfl ?_
  exact cq_ P9 (by omega) hC
theorem y_back_n {d : Nat} {hi : Nat → Nat → Int32} {hl : Nat → Nat → Int64} {X : lm_X} {hi0 : Nat → Nat → Int32} {hl0 : Nat → Nat → Int64} {X0 : lm_X} {n ts : Nat} {T : lm_T} {R : Nat → Int32} {V : ab_V} {tl F : Nat → Int32} (P : mP hi0 hl0 X0 hi hl X T n R none V ts tl F) : lm_w (d + 30) 224 [.ref 123] (hi, hl, X) (mQ hi0 hl0 X0 (.int (-5)) T n R none V ts tl (rfU F (-5))) := by
  obtain ⟨SR, O, H, HR, HV, HT, HF, HK, E0, EL0, EX0⟩ := id P
  have S := SR.1
  refine lm_w_in (Nat.le_of_ble_eq_true rfl) ?_
  show lm_wp (d + 30) 224 0 [.ref 123] [] (hi, hl, X) _
  refine w_N 1 1 [.ref 123] [.ref 123] rfl ?_
  refine w_g0 rfl rfl rfl (M_kd S) HK ?_
  refine w_n0 rfl ?_
  refine w_N 2 10 [.ref 123] [.int (-5), .ref 123] rfl ?_
  refine w_ca (w_vst rfl rfl rfl (Nat.le_of_ble_eq_true rfl) (Nat.le_of_ble_eq_true rfl) (M_kd S)) (m_refuse P (by unfold isW; decide)) ?_
  rintro _ _ ⟨rfl, hi9, rfl, P9⟩
  show lm_wp _ 224 13 [.ref 123] [.int (-5)] (hi9, hl, X) _
  refine w_ri rfl rfl ?_
  exact mq_ P9
theorem x_back {d : Nat} {hi : Nat → Nat → Int32} {hl : Nat → Nat → Int64} {X : lm_X} {hi0 : Nat → Nat → Int32} {hl0 : Nat → Nat → Int64} {C n ts : Nat} {T : lm_T} {R : Nat → Int32} {q : lm_T × Nat × (Nat → Int32)} {V : ab_V} {tl F : Nat → Int32} (P : cP hi0 hl0 hi hl X C T n R (some q) V ts tl F) (hq : q.2.2 15 = 0 ∨ q.2.2 15 = 1) (hC : C + 25 < 2147483648) : lm_w (d + 30) 128 [.ref 64] (hi, hl, X) (cQ hi0 hl0 X (C + 25) (.int 1) q.1 q.2.1 q.2.2 (some q) V ts tl F) := by
  obtain ⟨S, O, H, HR, FO, HV, HT, HF, HK, E0, EL0⟩ := id P
  refine lm_w_in (Nat.le_of_ble_eq_true rfl) ?_
  show lm_wp (d + 30) 128 0 [.ref 64] [] (hi, hl, X) _
  refine w_N 1 1 [.ref 64] [.ref 64] rfl ?_
  refine w_gi (v := 1) rfl rfl rfl (A_k S 64 (by decide)) (HK.1) ?_
  refine w_if_ne_t (t := 14) rfl rfl (by decide) ?_
  refine w_N 1 15 [.ref 64] [.ref 64] rfl ?_
  refine w_gr 65 rfl rfl rfl (A_k S 64 (by decide)) (A_r S 64 0 (by decide)) ?_
  refine w_N 1 19 [.ref 64] [.ref 64, .ref 65] rfl ?_
  refine w_gr 75 rfl rfl rfl (A_k S 64 (by decide)) (A_r S 64 1 (by decide)) ?_
  refine w_ca (w_vst rfl rfl rfl (Nat.le_of_ble_eq_true rfl) (Nat.le_of_ble_eq_true rfl) (T_kd (A_T65 S))) (t_become (d := d + 29) (A_T65 S) (A_T75 S) HK.2.1 HK.2.2 hq (by decide)) ?_
  rintro _ _ ⟨h5x, rfl, rfl, H5, R5, c5, f5⟩
  have P5 := cP_town P f5 H5 R5 (fok_ch f5 c5 (by omega) FO)
  show lm_wp _ 128 25 [.ref 64] [] (h5x, hl, X) _
  refine w_N 1 26 [.ref 64] [.int 1] rfl ?_
  refine w_ri rfl rfl ?_
  exact cq_ P5 (by omega) hC
theorem y_back {d : Nat} {hi : Nat → Nat → Int32} {hl : Nat → Nat → Int64} {X : lm_X} {hi0 : Nat → Nat → Int32} {hl0 : Nat → Nat → Int64} {X0 : lm_X} {n ts : Nat} {T : lm_T} {R : Nat → Int32} {q : lm_T × Nat × (Nat → Int32)} {V : ab_V} {tl F : Nat → Int32} (P : mP hi0 hl0 X0 hi hl X T n R (some q) V ts tl F) (hq : q.2.2 15 = 0 ∨ q.2.2 15 = 1) : lm_w (d + 30) 224 [.ref 123] (hi, hl, X) (mQ hi0 hl0 X0 (.int 1) q.1 q.2.1 q.2.2 (some q) V ts tl F) := by
  obtain ⟨SR, O, H, HR, HV, HT, HF, HK, E0, EL0, EX0⟩ := id P
  have S := SR.1
  have S10 : sh_M X 1000 := by
    rcases SR.2.2.1 with ⟨q1, -⟩ | ⟨-, q2⟩
    · rw [HK.1] at q1; cases q1
    · exact q2
  refine lm_w_in (Nat.le_of_ble_eq_true rfl) ?_
  show lm_wp (d + 30) 224 0 [.ref 123] [] (hi, hl, X) _
  refine w_N 1 1 [.ref 123] [.ref 123] rfl ?_
  refine w_gr 1000 rfl rfl rfl (M_kd S) HK.1 ?_
  refine w_nn (t := 14) rfl rfl ?_
  refine w_N 2 16 [.ref 123] [.ref 123, .ref 123] rfl ?_
  refine w_gr 1000 rfl rfl rfl (M_kd S) HK.1 ?_
  refine w_ca (w_vst rfl rfl rfl (Nat.le_of_ble_eq_true rfl) (Nat.le_of_ble_eq_true rfl) (M_kd S)) (m_takeFrom (d := d + 28) S S10 HK.2.1 HK.2.2 hq (by decide)) ?_
  rintro _ _ ⟨h5x, rfl, rfl, H5, R5, Q5⟩
  have P5 := mP_town P Q5 H5 R5
  show lm_wp _ 224 22 [.ref 123] [] (h5x, hl, X) _
  refine w_N 1 23 [.ref 123] [.int 1] rfl ?_
  refine w_ri rfl rfl ?_
  exact mq_ P5
theorem st_back {B D : Nat} {n ts : Nat} {T : lm_T} {R : Nat → Int32} {KO : ab_K} {V : ab_V} {tl F : Nat → Int32}  (Z : okZ B D T n R KO V ts tl) (hB : B + 20 < 2000000) : STEP B 128 224 [] T n R KO V ts tl F := by
  obtain ⟨hT, hO, hV, hts, htl, hDB, hB0, hKO⟩ := id Z
  cases KO with
  | none => exact ⟨_, D, _, _, _, _, _, _, _, _, okZ_up Z hB, fun _ _ _ _ _ _ P hC => x_back_n (d := 10) P hC, fun _ _ _ _ _ _ P => y_back_n (d := 10) P⟩
  | some q =>
    obtain ⟨qT, D', qO, qD⟩ := hKO q rfl
    refine ⟨_, D', _, _, _, _, _, _, _, _, ?_, fun _ _ _ _ _ _ P hC => x_back (d := 10) P qO.2.2.2.2.1 hC, fun _ _ _ _ _ _ P => y_back (d := 10) P qO.2.2.2.2.1⟩
    obtain ⟨z1, z2, z3, z4, z5, z6, z7, z8⟩ := okZ_up Z hB
    exact ⟨qT, qO, z3, z4, z5, by omega, z7, z8⟩
def flS (V : ab_V) : Nat → Int32
  | 0 => 0
  | m + 1 => if (V m).1 = -1 then flS V m else flS V m + 1
theorem x_fl1 {d : Nat} {hi : Nat → Nat → Int32} {hl : Nat → Nat → Int64} {X : lm_X} {hi0 : Nat → Nat → Int32} {hl0 : Nat → Nat → Int64} {C n ts : Nat} {T : lm_T} {R : Nat → Int32} {KO : ab_K} {V : ab_V} {tl F : Nat → Int32} (P : cP hi0 hl0 hi hl X C T n R KO V ts tl F) {Po : Option Value → lm_H → Prop} (kc : ∀ (c : Int32), lm_wp d 130 32 [.ref 64, .int (flS V 8), .int c] [] (hi, hl, X) Po) : ∀ (r m : Nat) (sm : Int32) (mk : Int32), m + r = 8 → (sm = flS V m) → (mk = nI m) → lm_wp d 130 4 [.ref 64, .int sm, .int mk] [] (hi, hl, X) Po := by
  intro r
  induction r with
  | zero =>
    intro m sm mk hm e1 e2
    obtain ⟨S, O, H, HR, FO, HV, HT, HF, HK, E0, EL0⟩ := id P
    refine w_N 2 7 [.ref 64, .int sm, .int mk] [.int 8, .int mk] rfl ?_
    refine w_icmp_ge_t (t := 32) rfl rfl (by rw [e2, show m = 8 by omega]; decide) ?_
    obtain rfl : m = 8 := by omega
    rw [e1]
    exact kc _
  | succ r ih =>
    intro m sm mk hm e1 e2
    obtain ⟨S, O, H, HR, FO, HV, HT, HF, HK, E0, EL0⟩ := id P
    refine w_N 2 7 [.ref 64, .int sm, .int mk] [.int 8, .int mk] rfl ?_
    refine w_icmp_ge_f (t := 32) rfl rfl (by rw [e2]; exact nI_lt (b := 8) (by omega) (by decide)) ?_
    refine w_N 1 11 [.ref 64, .int sm, .int mk] [.ref 64] rfl ?_
    refine w_gr 97 rfl rfl rfl (A_k S 64 (by decide)) (A_r S 64 5 (by decide)) ?_
    refine w_N 1 15 [.ref 64, .int sm, .int mk] [.int mk, .ref 97] rfl ?_
    refine w_aa m (107 + 2 * m) rfl ⟨by rw [A_k S 97 (by decide)]; decide, by rw [A_k S 97 (by decide)]; decide⟩ (show X.2.2.1 97 = 8 from A_l S 97 (by decide)) e2 (by omega) (by decide) (A_sv S (by omega)) ?_
    refine w_gi (v := (V m).1) rfl rfl rfl (Sf_kd (A_Sf S (by omega))) ((HV m (by omega)).1) ?_
    refine w_N 1 20 [.ref 64, .int sm, .int mk] [.int (-1), .int ((V m).1)] rfl ?_
    refine w_icmp_eq (t := 26) rfl rfl (fun c1 => ?_) (fun c1 => ?_)
    · refine w_N 2 4 [.ref 64, .int sm, .int (mk + 1)] [] rfl ?_
      refine ih (m + 1) _ _ (by omega) ?_ (by rw [e2, nI_succ])
      show _ = if (V m).1 = -1 then flS V m else flS V m + 1
      rw [if_pos c1]; exact e1
    · refine w_N 3 4 [.ref 64, .int (sm + 1), .int (mk + 1)] [] rfl ?_
      refine ih (m + 1) _ _ (by omega) ?_ (by rw [e2, nI_succ])
      show _ = if (V m).1 = -1 then flS V m else flS V m + 1
      rw [if_neg c1, e1]
theorem x_filled {d : Nat} {hi : Nat → Nat → Int32} {hl : Nat → Nat → Int64} {X : lm_X} {hi0 : Nat → Nat → Int32} {hl0 : Nat → Nat → Int64} {C n ts : Nat} {T : lm_T} {R : Nat → Int32} {KO : ab_K} {V : ab_V} {tl F : Nat → Int32} (P : cP hi0 hl0 hi hl X C T n R KO V ts tl F) : lm_c d 130 [.ref 64] (hi, hl, X) (some (.int (flS V 8)), (hi, hl, X)) := by
  refine lm_c_of (lm_w_in (Nat.le_of_ble_eq_true rfl) ?_)
  show lm_wp d 130 0 [.ref 64, lm_jk, lm_jk] [] (hi, hl, X) _
  refine w_N 4 4 [.ref 64, .int 0, .int 0] [] rfl ?_
  refine x_fl1 P (fun c => ?_) 8 0 _ _ (by omega) rfl rfl
  refine w_N 1 33 _ [.int (flS V 8)] rfl ?_
  exact w_ri rfl rfl rfl
theorem y_st4 {d : Nat} {hi : Nat → Nat → Int32} {hl : Nat → Nat → Int64} {X : lm_X} {n : Nat} {T : lm_T} (S : sh_M X 123) (H : rT hi 123 T n) {Po : Option Value → lm_H → Prop} (kc : ∀ (c : Int32), lm_wp d 225 126 [.ref 123, .int 4, .int (lkn T n), .int c] [] (hi, hl, X) Po) : ∀ (r m : Nat) (sm : Int32) (mk : Int32), m + r = n → (sm = lkn T m) → (mk = nI m) → lm_wp d 225 92 [.ref 123, .int 4, .int sm, .int mk] [] (hi, hl, X) Po := by
  intro r
  induction r with
  | zero =>
    intro m sm mk hm e1 e2
    have hn := rTle H
    refine w_N 2 94 [.ref 123, .int 4, .int sm, .int mk] [.ref 123, .int mk] rfl ?_
    refine w_gi (v := nI n) rfl rfl rfl (M_kd S) (rTn H) ?_
    refine w_icmp_ge_t (t := 126) rfl rfl (by rw [e2, show m = n by omega]; exact fun z => Int32.lt_irrefl z) ?_
    obtain rfl : m = n := by omega
    rw [e1]
    exact kc _
  | succ r ih =>
    intro m sm mk hm e1 e2
    have hn := rTle H
    refine w_N 2 94 [.ref 123, .int 4, .int sm, .int mk] [.ref 123, .int mk] rfl ?_
    refine w_gi (v := nI n) rfl rfl rfl (M_kd S) (rTn H) ?_
    refine w_icmp_ge_f (t := 126) rfl rfl (by rw [e2]; exact nI_lt (by omega) (by omega)) ?_
    refine w_N 2 102 [.ref 123, .int 4, .int sm, .int mk] [.ref 123, .int sm] rfl ?_
    refine w_gr 141 rfl rfl rfl (M_kd S) (M_r S (k := 11) (o := 18) rfl) ?_
    refine w_N 1 106 [.ref 123, .int 4, .int sm, .int mk] [.int mk, .ref 141, .int sm] rfl ?_
    refine w_aa m (123 + (19 + m)) rfl (M_kk S (o := 18) (by decide)) (show X.2.2.1 (141) = 10 from M_l S 18 (by decide)) e2 (by omega) (by decide) (M_acr S (by omega)) ?_
    refine w_N 1 109 [.ref 123, .int 4, .int sm, .int mk] [.int 6, .ref (123 + (19 + m)), .int sm] rfl ?_
    refine w_ia 6 (v := T 6 m) rfl (M_ack S (by omega)) (M_acl S (by omega)) rfl (by decide) (by decide) (rTa H (by decide) (by omega)) ?_
    refine w_if_eq (t := 117) rfl rfl (fun c1 => ?_) (fun c1 => ?_)
    · refine w_N 5 92 [.ref 123, .int 4, .int (sm + 0), .int (mk + 1)] [] rfl ?_
      refine ih (m + 1) _ _ (by omega) ?_ (by rw [e2, nI_succ])
      show _ = if T 6 m = 0 then lkn T m else lkn T m + 1
      rw [if_pos c1, e1, Int32.add_zero]
    · refine w_N 6 92 [.ref 123, .int 4, .int (sm + 1), .int (mk + 1)] [] rfl ?_
      refine ih (m + 1) _ _ (by omega) ?_ (by rw [e2, nI_succ])
      show _ = if T 6 m = 0 then lkn T m else lkn T m + 1
      rw [if_neg c1, e1]
theorem y_st7 {d : Nat} {hi : Nat → Nat → Int32} {hl : Nat → Nat → Int64} {X : lm_X} {hi0 : Nat → Nat → Int32} {hl0 : Nat → Nat → Int64} {X0 : lm_X} {n ts : Nat} {T : lm_T} {R : Nat → Int32} {KO : ab_K} {V : ab_V} {tl F : Nat → Int32} (P : mP hi0 hl0 X0 hi hl X T n R KO V ts tl F) (hV : okV V) {Po : Option Value → lm_H → Prop} (kc : ∀ (c : Int32), lm_wp d 225 169 [.ref 123, .int 7, .int (flS V 8), .int c] [] (hi, hl, X) Po) : ∀ (r m : Nat) (sm : Int32) (mk : Int32), m + r = 8 → (sm = flS V m) → (mk = nI m) → lm_wp d 225 140 [.ref 123, .int 7, .int sm, .int mk] [] (hi, hl, X) Po := by
  intro r
  induction r with
  | zero =>
    intro m sm mk hm e1 e2
    obtain ⟨SR, O, H, HR, HV, HT, HF, HK, E0, EL0, EX0⟩ := id P
    have S := SR.1
    refine w_N 2 143 [.ref 123, .int 7, .int sm, .int mk] [.int 8, .int mk] rfl ?_
    refine w_icmp_ge_t (t := 169) rfl rfl (by rw [e2, show m = 8 by omega]; decide) ?_
    obtain rfl : m = 8 := by omega
    rw [e1]
    exact kc _
  | succ r ih =>
    intro m sm mk hm e1 e2
    obtain ⟨SR, O, H, HR, HV, HT, HF, HK, E0, EL0, EX0⟩ := id P
    have S := SR.1
    refine w_N 2 143 [.ref 123, .int 7, .int sm, .int mk] [.int 8, .int mk] rfl ?_
    refine w_icmp_ge_f (t := 169) rfl rfl (by rw [e2]; exact nI_lt (b := 8) (by omega) (by decide)) ?_
    refine w_N 2 148 [.ref 123, .int 7, .int sm, .int mk] [.ref 123, .int sm] rfl ?_
    refine w_gr 124 rfl rfl rfl (M_kd S) (M_r S (k := 0) (o := 1) rfl) ?_
    refine w_N 1 152 [.ref 123, .int 7, .int sm, .int mk] [.int mk, .ref 124, .int sm] rfl ?_
    refine w_ia m (v := shK (V m).1) rfl (show X.2.1 (124) = 1 from M_k S 1 (by decide)) (show X.2.2.1 (124) = 8 from M_l S 1 (by decide)) e2 (by omega) (by decide) ((HV m (by omega)).1) ?_
    refine w_if_eq (t := 160) rfl rfl (fun c1 => ?_) (fun c1 => ?_)
    · refine w_N 5 140 [.ref 123, .int 7, .int (sm + 0), .int (mk + 1)] [] rfl ?_
      refine ih (m + 1) _ _ (by omega) ?_ (by rw [e2, nI_succ])
      show _ = if (V m).1 = -1 then flS V m else flS V m + 1
      rw [if_pos (shK_0 (hV m (by omega)).1 c1), e1, Int32.add_zero]
    · refine w_N 6 140 [.ref 123, .int 7, .int (sm + 1), .int (mk + 1)] [] rfl ?_
      refine ih (m + 1) _ _ (by omega) ?_ (by rw [e2, nI_succ])
      show _ = if (V m).1 = -1 then flS V m else flS V m + 1
      rw [if_neg (fun z => c1 (by rw [z]; decide)), e1]
theorem x_status0 {d : Nat} {hi : Nat → Nat → Int32} {hl : Nat → Nat → Int64} {X : lm_X} {hi0 : Nat → Nat → Int32} {hl0 : Nat → Nat → Int64} {C n ts : Nat} {T : lm_T} {R : Nat → Int32} {KO : ab_K} {V : ab_V} {tl F : Nat → Int32} (P : cP hi0 hl0 hi hl X C T n R KO V ts tl F) (hC : C + 25 < 2147483648) : lm_w (d + 30) 129 [.ref 64, .int 0] (hi, hl, X) (cQ hi0 hl0 X (C + 25) (.int (nI n)) T n R KO V ts tl F) := by
  obtain ⟨S, O, H, HR, FO, HV, HT, HF, HK, E0, EL0⟩ := id P
  refine lm_w_in (Nat.le_of_ble_eq_true rfl) ?_
  show lm_wp (d + 30) 129 0 [.ref 64, .int 0] [] (hi, hl, X) _
  refine w_N 3 5 [.ref 64, .int 0] [.int 16, .int 12, .int 0] rfl ?_
  refine w_cc rfl x_within ?_
  show lm_wp _ 129 8 [.ref 64, .int 0] [.int (bz (wi 0 12 16))] (hi, hl, X) _
  refine w_if_eq_t (t := 21) rfl rfl (c_eqz (by decide)) ?_
  refine w_N 1 22 [.ref 64, .int 0] [.int 0] rfl ?_
  refine w_ts (t := 68) rfl (by decide) rfl ?_
  refine w_N 1 69 [.ref 64, .int 0] [.ref 64] rfl ?_
  refine w_gr 65 rfl rfl rfl (A_k S 64 (by decide)) (A_r S 64 0 (by decide)) ?_
  refine w_gi (v := nI n) rfl rfl rfl (T_kd (A_T65 S)) (isTn H) ?_
  refine w_ri rfl rfl ?_
  exact cq_ P (by omega) hC
theorem y_status0 {d : Nat} {hi : Nat → Nat → Int32} {hl : Nat → Nat → Int64} {X : lm_X} {hi0 : Nat → Nat → Int32} {hl0 : Nat → Nat → Int64} {X0 : lm_X} {n ts : Nat} {T : lm_T} {R : Nat → Int32} {KO : ab_K} {V : ab_V} {tl F : Nat → Int32} (P : mP hi0 hl0 X0 hi hl X T n R KO V ts tl F) {B D : Nat} (Z : okZ B D T n R KO V ts tl) : lm_w (d + 30) 225 [.ref 123, .int 0] (hi, hl, X) (mQ hi0 hl0 X0 (.int (nI n)) T n R KO V ts tl F) := by
  obtain ⟨SR, O, H, HR, HV, HT, HF, HK, E0, EL0, EX0⟩ := id P
  have S := SR.1
  obtain ⟨hT, hO, hV, hts, htl, hDB, hB0, hKO⟩ := id Z
  refine lm_w_in (Nat.le_of_ble_eq_true rfl) ?_
  show lm_wp (d + 30) 225 0 [.ref 123, .int 0, lm_jk, lm_jk] [] (hi, hl, X) _
  refine w_N 3 3 [.ref 123, .int 0, .int 0, lm_jk] [.int 0] rfl ?_
  refine w_ts (t := 48) rfl (by decide) rfl ?_
  refine w_N 1 49 [.ref 123, .int 0, .int 0, lm_jk] [.ref 123] rfl ?_
  refine w_gi (v := nI n) rfl rfl rfl (M_kd S) (rTn H) ?_
  refine w_ri rfl rfl ?_
  exact mq_ P
theorem x_status1 {d : Nat} {hi : Nat → Nat → Int32} {hl : Nat → Nat → Int64} {X : lm_X} {hi0 : Nat → Nat → Int32} {hl0 : Nat → Nat → Int64} {C n ts : Nat} {T : lm_T} {R : Nat → Int32} {KO : ab_K} {V : ab_V} {tl F : Nat → Int32} (P : cP hi0 hl0 hi hl X C T n R KO V ts tl F) (hC : C + 25 < 2147483648) : lm_w (d + 30) 129 [.ref 64, .int 1] (hi, hl, X) (cQ hi0 hl0 X (C + 25) (.int (bsm (s_marks (R 10)) 11)) T n R KO V ts tl F) := by
  obtain ⟨S, O, H, HR, FO, HV, HT, HF, HK, E0, EL0⟩ := id P
  refine lm_w_in (Nat.le_of_ble_eq_true rfl) ?_
  show lm_wp (d + 30) 129 0 [.ref 64, .int 1] [] (hi, hl, X) _
  refine w_N 3 5 [.ref 64, .int 1] [.int 16, .int 12, .int 1] rfl ?_
  refine w_cc rfl x_within ?_
  show lm_wp _ 129 8 [.ref 64, .int 1] [.int (bz (wi 1 12 16))] (hi, hl, X) _
  refine w_if_eq_t (t := 21) rfl rfl (c_eqz (by decide)) ?_
  refine w_N 1 22 [.ref 64, .int 1] [.int 1] rfl ?_
  refine w_ts (t := 76) rfl (by decide) rfl ?_
  refine w_N 1 77 [.ref 64, .int 1] [.ref 64] rfl ?_
  refine w_gr 65 rfl rfl rfl (A_k S 64 (by decide)) (A_r S 64 0 (by decide)) ?_
  refine w_gi (v := R 10) rfl rfl rfl (T_kd (A_T65 S)) (HR.1) ?_
  refine w_cc rfl c_X4_marksIn ?_
  show lm_wp _ 129 86 [.ref 64, .int 1] [.int (s_marks (R 10))] (hi, hl, X) _
  refine w_cc rfl (lm_c_v (x := bcn (s_marks (R 10))) (y := bsm (s_marks (R 10)) 11) j_bitCount (by rw [(mkN_e (R 10)).2]; exact bcn_bsm _ (by have := (mkN_e (R 10)).1; omega))) ?_
  show lm_wp _ 129 89 [.ref 64, .int 1] [.int (bsm (s_marks (R 10)) 11)] (hi, hl, X) _
  refine w_ri rfl rfl ?_
  exact cq_ P (by omega) hC
theorem y_status1 {d : Nat} {hi : Nat → Nat → Int32} {hl : Nat → Nat → Int64} {X : lm_X} {hi0 : Nat → Nat → Int32} {hl0 : Nat → Nat → Int64} {X0 : lm_X} {n ts : Nat} {T : lm_T} {R : Nat → Int32} {KO : ab_K} {V : ab_V} {tl F : Nat → Int32} (P : mP hi0 hl0 X0 hi hl X T n R KO V ts tl F) {B D : Nat} (Z : okZ B D T n R KO V ts tl) : lm_w (d + 30) 225 [.ref 123, .int 1] (hi, hl, X) (mQ hi0 hl0 X0 (.int (bsm (s_marks (R 10)) 11)) T n R KO V ts tl F) := by
  obtain ⟨SR, O, H, HR, HV, HT, HF, HK, E0, EL0, EX0⟩ := id P
  have S := SR.1
  obtain ⟨hT, hO, hV, hts, htl, hDB, hB0, hKO⟩ := id Z
  refine lm_w_in (Nat.le_of_ble_eq_true rfl) ?_
  show lm_wp (d + 30) 225 0 [.ref 123, .int 1, lm_jk, lm_jk] [] (hi, hl, X) _
  refine w_N 3 3 [.ref 123, .int 1, .int 0, lm_jk] [.int 1] rfl ?_
  refine w_ts (t := 53) rfl (by decide) rfl ?_
  refine w_N 1 54 [.ref 123, .int 1, .int 0, lm_jk] [.ref 123] rfl ?_
  refine w_gi (v := s_marks (R 10)) rfl rfl rfl (M_kd S) (HR.1.1) ?_
  refine w_cc rfl m_bits ?_
  show lm_wp _ 225 60 [.ref 123, .int 1, .int 0, lm_jk] [.int (bsm (s_marks (R 10)) 11)] (hi, hl, X) _
  refine w_ri rfl rfl ?_
  exact mq_ P
theorem x_status2 {d : Nat} {hi : Nat → Nat → Int32} {hl : Nat → Nat → Int64} {X : lm_X} {hi0 : Nat → Nat → Int32} {hl0 : Nat → Nat → Int64} {C n ts : Nat} {T : lm_T} {R : Nat → Int32} {KO : ab_K} {V : ab_V} {tl F : Nat → Int32} (P : cP hi0 hl0 hi hl X C T n R KO V ts tl F) (hC : C + 25 < 2147483648) : lm_w (d + 30) 129 [.ref 64, .int 2] (hi, hl, X) (cQ hi0 hl0 X (C + 25) (.int (R 12)) T n R KO V ts tl F) := by
  obtain ⟨S, O, H, HR, FO, HV, HT, HF, HK, E0, EL0⟩ := id P
  refine lm_w_in (Nat.le_of_ble_eq_true rfl) ?_
  show lm_wp (d + 30) 129 0 [.ref 64, .int 2] [] (hi, hl, X) _
  refine w_N 3 5 [.ref 64, .int 2] [.int 16, .int 12, .int 2] rfl ?_
  refine w_cc rfl x_within ?_
  show lm_wp _ 129 8 [.ref 64, .int 2] [.int (bz (wi 2 12 16))] (hi, hl, X) _
  refine w_if_eq_t (t := 21) rfl rfl (c_eqz (by decide)) ?_
  refine w_N 1 22 [.ref 64, .int 2] [.int 2] rfl ?_
  refine w_ts (t := 90) rfl (by decide) rfl ?_
  refine w_N 1 91 [.ref 64, .int 2] [.ref 64] rfl ?_
  refine w_gr 65 rfl rfl rfl (A_k S 64 (by decide)) (A_r S 64 0 (by decide)) ?_
  refine w_gi (v := R 12) rfl rfl rfl (T_kd (A_T65 S)) (HR.2.2.1) ?_
  refine w_ri rfl rfl ?_
  exact cq_ P (by omega) hC
theorem y_status2 {d : Nat} {hi : Nat → Nat → Int32} {hl : Nat → Nat → Int64} {X : lm_X} {hi0 : Nat → Nat → Int32} {hl0 : Nat → Nat → Int64} {X0 : lm_X} {n ts : Nat} {T : lm_T} {R : Nat → Int32} {KO : ab_K} {V : ab_V} {tl F : Nat → Int32} (P : mP hi0 hl0 X0 hi hl X T n R KO V ts tl F) {B D : Nat} (Z : okZ B D T n R KO V ts tl) : lm_w (d + 30) 225 [.ref 123, .int 2] (hi, hl, X) (mQ hi0 hl0 X0 (.int (R 12)) T n R KO V ts tl F) := by
  obtain ⟨SR, O, H, HR, HV, HT, HF, HK, E0, EL0, EX0⟩ := id P
  have S := SR.1
  obtain ⟨hT, hO, hV, hts, htl, hDB, hB0, hKO⟩ := id Z
  refine lm_w_in (Nat.le_of_ble_eq_true rfl) ?_
  show lm_wp (d + 30) 225 0 [.ref 123, .int 2, lm_jk, lm_jk] [] (hi, hl, X) _
  refine w_N 3 3 [.ref 123, .int 2, .int 0, lm_jk] [.int 2] rfl ?_
  refine w_ts (t := 61) rfl (by decide) rfl ?_
  refine w_N 1 62 [.ref 123, .int 2, .int 0, lm_jk] [.ref 123] rfl ?_
  refine w_gi (v := R 12) rfl rfl rfl (M_kd S) (HR.2.2.1) ?_
  refine w_ri rfl rfl ?_
  exact mq_ P
theorem x_status3 {d : Nat} {hi : Nat → Nat → Int32} {hl : Nat → Nat → Int64} {X : lm_X} {hi0 : Nat → Nat → Int32} {hl0 : Nat → Nat → Int64} {C n ts : Nat} {T : lm_T} {R : Nat → Int32} {KO : ab_K} {V : ab_V} {tl F : Nat → Int32} (P : cP hi0 hl0 hi hl X C T n R KO V ts tl F) (hC : C + 25 < 2147483648) : lm_w (d + 30) 129 [.ref 64, .int 3] (hi, hl, X) (cQ hi0 hl0 X (C + 25) (.int (acs (R 10) 4)) T n R KO V ts tl F) := by
  obtain ⟨S, O, H, HR, FO, HV, HT, HF, HK, E0, EL0⟩ := id P
  refine lm_w_in (Nat.le_of_ble_eq_true rfl) ?_
  show lm_wp (d + 30) 129 0 [.ref 64, .int 3] [] (hi, hl, X) _
  refine w_N 3 5 [.ref 64, .int 3] [.int 16, .int 12, .int 3] rfl ?_
  refine w_cc rfl x_within ?_
  show lm_wp _ 129 8 [.ref 64, .int 3] [.int (bz (wi 3 12 16))] (hi, hl, X) _
  refine w_if_eq_t (t := 21) rfl rfl (c_eqz (by decide)) ?_
  refine w_N 1 22 [.ref 64, .int 3] [.int 3] rfl ?_
  refine w_ts (t := 98) rfl (by decide) rfl ?_
  refine w_N 1 99 [.ref 64, .int 3] [.ref 64] rfl ?_
  refine w_gr 65 rfl rfl rfl (A_k S 64 (by decide)) (A_r S 64 0 (by decide)) ?_
  refine w_gi (v := R 10) rfl rfl rfl (T_kd (A_T65 S)) (HR.1) ?_
  refine w_cc rfl c_X4_allCountsIn ?_
  show lm_wp _ 129 108 [.ref 64, .int 3] [.int (acs (R 10) 4)] (hi, hl, X) _
  refine w_ri rfl rfl ?_
  exact cq_ P (by omega) hC
theorem y_status3 {d : Nat} {hi : Nat → Nat → Int32} {hl : Nat → Nat → Int64} {X : lm_X} {hi0 : Nat → Nat → Int32} {hl0 : Nat → Nat → Int64} {X0 : lm_X} {n ts : Nat} {T : lm_T} {R : Nat → Int32} {KO : ab_K} {V : ab_V} {tl F : Nat → Int32} (P : mP hi0 hl0 X0 hi hl X T n R KO V ts tl F) {B D : Nat} (Z : okZ B D T n R KO V ts tl) : lm_w (d + 30) 225 [.ref 123, .int 3] (hi, hl, X) (mQ hi0 hl0 X0 (.int (acs (R 10) 4)) T n R KO V ts tl F) := by
  obtain ⟨SR, O, H, HR, HV, HT, HF, HK, E0, EL0, EX0⟩ := id P
  have S := SR.1
  obtain ⟨hT, hO, hV, hts, htl, hDB, hB0, hKO⟩ := id Z
  refine lm_w_in (Nat.le_of_ble_eq_true rfl) ?_
  show lm_wp (d + 30) 225 0 [.ref 123, .int 3, lm_jk, lm_jk] [] (hi, hl, X) _
  refine w_N 3 3 [.ref 123, .int 3, .int 0, lm_jk] [.int 3] rfl ?_
  refine w_ts (t := 66) rfl (by decide) rfl ?_
  refine w_N 4 70 [.ref 123, .int 3, .int 0, .int 0] [.int 4, .int 0] rfl ?_
  refine w_icmp_ge_f (t := 88) rfl rfl (by decide) ?_
  refine w_N 2 75 [.ref 123, .int 3, .int 0, .int 0] [.ref 123, .int 0] rfl ?_
  refine w_gr 152 rfl rfl rfl (M_kd S) (M_r S (k := 13) (o := 29) rfl) ?_
  refine w_N 1 79 [.ref 123, .int 3, .int 0, .int 0] [.int 0, .ref 152, .int 0] rfl ?_
  refine w_ia 0 (v := s_count (R 10) (nI 0)) rfl (show X.2.1 (152) = 1 from M_k S 29 (by decide)) (show X.2.2.1 (152) = 4 from M_l S 29 (by decide)) rfl (by decide) (by decide) (HR.1.2 0 (by decide)) ?_
  refine w_N 6 70 [.ref 123, .int 3, .int (0 + (s_count (R 10) (nI 0))), .int 1] [.int 4, .int 1] rfl ?_
  refine w_icmp_ge_f (t := 88) rfl rfl (by decide) ?_
  refine w_N 2 75 [.ref 123, .int 3, .int (0 + (s_count (R 10) (nI 0))), .int 1] [.ref 123, .int (0 + (s_count (R 10) (nI 0)))] rfl ?_
  refine w_gr 152 rfl rfl rfl (M_kd S) (M_r S (k := 13) (o := 29) rfl) ?_
  refine w_N 1 79 [.ref 123, .int 3, .int (0 + (s_count (R 10) (nI 0))), .int 1] [.int 1, .ref 152, .int (0 + (s_count (R 10) (nI 0)))] rfl ?_
  refine w_ia 1 (v := s_count (R 10) (nI 1)) rfl (show X.2.1 (152) = 1 from M_k S 29 (by decide)) (show X.2.2.1 (152) = 4 from M_l S 29 (by decide)) rfl (by decide) (by decide) (HR.1.2 1 (by decide)) ?_
  refine w_N 6 70 [.ref 123, .int 3, .int ((0 + (s_count (R 10) (nI 0))) + (s_count (R 10) (nI 1))), .int 2] [.int 4, .int 2] rfl ?_
  refine w_icmp_ge_f (t := 88) rfl rfl (by decide) ?_
  refine w_N 2 75 [.ref 123, .int 3, .int ((0 + (s_count (R 10) (nI 0))) + (s_count (R 10) (nI 1))), .int 2] [.ref 123, .int ((0 + (s_count (R 10) (nI 0))) + (s_count (R 10) (nI 1)))] rfl ?_
  refine w_gr 152 rfl rfl rfl (M_kd S) (M_r S (k := 13) (o := 29) rfl) ?_
  refine w_N 1 79 [.ref 123, .int 3, .int ((0 + (s_count (R 10) (nI 0))) + (s_count (R 10) (nI 1))), .int 2] [.int 2, .ref 152, .int ((0 + (s_count (R 10) (nI 0))) + (s_count (R 10) (nI 1)))] rfl ?_
  refine w_ia 2 (v := s_count (R 10) (nI 2)) rfl (show X.2.1 (152) = 1 from M_k S 29 (by decide)) (show X.2.2.1 (152) = 4 from M_l S 29 (by decide)) rfl (by decide) (by decide) (HR.1.2 2 (by decide)) ?_
  refine w_N 6 70 [.ref 123, .int 3, .int (((0 + (s_count (R 10) (nI 0))) + (s_count (R 10) (nI 1))) + (s_count (R 10) (nI 2))), .int 3] [.int 4, .int 3] rfl ?_
  refine w_icmp_ge_f (t := 88) rfl rfl (by decide) ?_
  refine w_N 2 75 [.ref 123, .int 3, .int (((0 + (s_count (R 10) (nI 0))) + (s_count (R 10) (nI 1))) + (s_count (R 10) (nI 2))), .int 3] [.ref 123, .int (((0 + (s_count (R 10) (nI 0))) + (s_count (R 10) (nI 1))) + (s_count (R 10) (nI 2)))] rfl ?_
  refine w_gr 152 rfl rfl rfl (M_kd S) (M_r S (k := 13) (o := 29) rfl) ?_
  refine w_N 1 79 [.ref 123, .int 3, .int (((0 + (s_count (R 10) (nI 0))) + (s_count (R 10) (nI 1))) + (s_count (R 10) (nI 2))), .int 3] [.int 3, .ref 152, .int (((0 + (s_count (R 10) (nI 0))) + (s_count (R 10) (nI 1))) + (s_count (R 10) (nI 2)))] rfl ?_
  refine w_ia 3 (v := s_count (R 10) (nI 3)) rfl (show X.2.1 (152) = 1 from M_k S 29 (by decide)) (show X.2.2.1 (152) = 4 from M_l S 29 (by decide)) rfl (by decide) (by decide) (HR.1.2 3 (by decide)) ?_
  refine w_N 6 70 [.ref 123, .int 3, .int ((((0 + (s_count (R 10) (nI 0))) + (s_count (R 10) (nI 1))) + (s_count (R 10) (nI 2))) + (s_count (R 10) (nI 3))), .int 4] [.int 4, .int 4] rfl ?_
  refine w_icmp_ge_t (t := 88) rfl rfl (by decide) ?_
  refine w_N 1 89 [.ref 123, .int 3, .int ((((0 + (s_count (R 10) (nI 0))) + (s_count (R 10) (nI 1))) + (s_count (R 10) (nI 2))) + (s_count (R 10) (nI 3))), .int 4] [.int ((((0 + (s_count (R 10) (nI 0))) + (s_count (R 10) (nI 1))) + (s_count (R 10) (nI 2))) + (s_count (R 10) (nI 3)))] rfl ?_
  refine w_ri rfl rfl ?_
  exact mq_ P
theorem x_status4 {d : Nat} {hi : Nat → Nat → Int32} {hl : Nat → Nat → Int64} {X : lm_X} {hi0 : Nat → Nat → Int32} {hl0 : Nat → Nat → Int64} {C n ts : Nat} {T : lm_T} {R : Nat → Int32} {KO : ab_K} {V : ab_V} {tl F : Nat → Int32} (P : cP hi0 hl0 hi hl X C T n R KO V ts tl F) (hC : C + 25 < 2147483648) : lm_w (d + 30) 129 [.ref 64, .int 4] (hi, hl, X) (cQ hi0 hl0 X (C + 25) (.int (lkn T n)) T n R KO V ts tl F) := by
  obtain ⟨S, O, H, HR, FO, HV, HT, HF, HK, E0, EL0⟩ := id P
  refine lm_w_in (Nat.le_of_ble_eq_true rfl) ?_
  show lm_wp (d + 30) 129 0 [.ref 64, .int 4] [] (hi, hl, X) _
  refine w_N 3 5 [.ref 64, .int 4] [.int 16, .int 12, .int 4] rfl ?_
  refine w_cc rfl x_within ?_
  show lm_wp _ 129 8 [.ref 64, .int 4] [.int (bz (wi 4 12 16))] (hi, hl, X) _
  refine w_if_eq_t (t := 21) rfl rfl (c_eqz (by decide)) ?_
  refine w_N 1 22 [.ref 64, .int 4] [.int 4] rfl ?_
  refine w_ts (t := 109) rfl (by decide) rfl ?_
  refine w_N 1 110 [.ref 64, .int 4] [.ref 64] rfl ?_
  refine w_gr 65 rfl rfl rfl (A_k S 64 (by decide)) (A_r S 64 0 (by decide)) ?_
  refine w_cc (w_vst rfl rfl rfl (Nat.le_of_ble_eq_true rfl) (Nat.le_of_ble_eq_true rfl) (T_kd (A_T65 S))) (t_lockedActs (A_T65 S) H HR) ?_
  show lm_wp _ 129 116 [.ref 64, .int 4] [.int (lkn T n)] (hi, hl, X) _
  refine w_ri rfl rfl ?_
  exact cq_ P (by omega) hC
theorem y_status4 {d : Nat} {hi : Nat → Nat → Int32} {hl : Nat → Nat → Int64} {X : lm_X} {hi0 : Nat → Nat → Int32} {hl0 : Nat → Nat → Int64} {X0 : lm_X} {n ts : Nat} {T : lm_T} {R : Nat → Int32} {KO : ab_K} {V : ab_V} {tl F : Nat → Int32} (P : mP hi0 hl0 X0 hi hl X T n R KO V ts tl F) {B D : Nat} (Z : okZ B D T n R KO V ts tl) : lm_w (d + 30) 225 [.ref 123, .int 4] (hi, hl, X) (mQ hi0 hl0 X0 (.int (lkn T n)) T n R KO V ts tl F) := by
  obtain ⟨SR, O, H, HR, HV, HT, HF, HK, E0, EL0, EX0⟩ := id P
  have S := SR.1
  obtain ⟨hT, hO, hV, hts, htl, hDB, hB0, hKO⟩ := id Z
  refine lm_w_in (Nat.le_of_ble_eq_true rfl) ?_
  show lm_wp (d + 30) 225 0 [.ref 123, .int 4, lm_jk, lm_jk] [] (hi, hl, X) _
  refine w_N 3 3 [.ref 123, .int 4, .int 0, lm_jk] [.int 4] rfl ?_
  refine w_ts (t := 90) rfl (by decide) rfl ?_
  refine w_N 2 92 [.ref 123, .int 4, .int 0, .int 0] [] rfl ?_
  refine y_st4 S H (fun c => ?_) n 0 _ _ (by omega) rfl rfl
  refine w_N 1 127 _ [.int (lkn T n)] rfl ?_
  refine w_ri rfl rfl ?_
  exact mq_ P
theorem x_status5 {d : Nat} {hi : Nat → Nat → Int32} {hl : Nat → Nat → Int64} {X : lm_X} {hi0 : Nat → Nat → Int32} {hl0 : Nat → Nat → Int64} {C n ts : Nat} {T : lm_T} {R : Nat → Int32} {KO : ab_K} {V : ab_V} {tl F : Nat → Int32} (P : cP hi0 hl0 hi hl X C T n R KO V ts tl F) (hC : C + 25 < 2147483648) : lm_w (d + 30) 129 [.ref 64, .int 5] (hi, hl, X) (cQ hi0 hl0 X (C + 25) (.int (nI ts)) T n R KO V ts tl F) := by
  obtain ⟨S, O, H, HR, FO, HV, HT, HF, HK, E0, EL0⟩ := id P
  refine lm_w_in (Nat.le_of_ble_eq_true rfl) ?_
  show lm_wp (d + 30) 129 0 [.ref 64, .int 5] [] (hi, hl, X) _
  refine w_N 3 5 [.ref 64, .int 5] [.int 16, .int 12, .int 5] rfl ?_
  refine w_cc rfl x_within ?_
  show lm_wp _ 129 8 [.ref 64, .int 5] [.int (bz (wi 5 12 16))] (hi, hl, X) _
  refine w_if_eq_t (t := 21) rfl rfl (c_eqz (by decide)) ?_
  refine w_N 1 22 [.ref 64, .int 5] [.int 5] rfl ?_
  refine w_ts (t := 117) rfl (by decide) rfl ?_
  refine w_N 1 118 [.ref 64, .int 5] [.ref 64] rfl ?_
  refine w_gr 95 rfl rfl rfl (A_k S 64 (by decide)) (A_r S 64 4 (by decide)) ?_
  refine w_gi (v := nI ts) rfl rfl rfl (A_k S 95 (by decide)) (HT.1) ?_
  refine w_ri rfl rfl ?_
  exact cq_ P (by omega) hC
theorem y_status5 {d : Nat} {hi : Nat → Nat → Int32} {hl : Nat → Nat → Int64} {X : lm_X} {hi0 : Nat → Nat → Int32} {hl0 : Nat → Nat → Int64} {X0 : lm_X} {n ts : Nat} {T : lm_T} {R : Nat → Int32} {KO : ab_K} {V : ab_V} {tl F : Nat → Int32} (P : mP hi0 hl0 X0 hi hl X T n R KO V ts tl F) {B D : Nat} (Z : okZ B D T n R KO V ts tl) : lm_w (d + 30) 225 [.ref 123, .int 5] (hi, hl, X) (mQ hi0 hl0 X0 (.int (nI ts)) T n R KO V ts tl F) := by
  obtain ⟨SR, O, H, HR, HV, HT, HF, HK, E0, EL0, EX0⟩ := id P
  have S := SR.1
  obtain ⟨hT, hO, hV, hts, htl, hDB, hB0, hKO⟩ := id Z
  refine lm_w_in (Nat.le_of_ble_eq_true rfl) ?_
  show lm_wp (d + 30) 225 0 [.ref 123, .int 5, lm_jk, lm_jk] [] (hi, hl, X) _
  refine w_N 3 3 [.ref 123, .int 5, .int 0, lm_jk] [.int 5] rfl ?_
  refine w_ts (t := 128) rfl (by decide) rfl ?_
  refine w_N 1 129 [.ref 123, .int 5, .int 0, lm_jk] [.ref 123] rfl ?_
  refine w_gi (v := nI ts) rfl rfl rfl (M_kd S) (HT.1) ?_
  refine w_ri rfl rfl ?_
  exact mq_ P
theorem x_status6 {d : Nat} {hi : Nat → Nat → Int32} {hl : Nat → Nat → Int64} {X : lm_X} {hi0 : Nat → Nat → Int32} {hl0 : Nat → Nat → Int64} {C n ts : Nat} {T : lm_T} {R : Nat → Int32} {KO : ab_K} {V : ab_V} {tl F : Nat → Int32} (P : cP hi0 hl0 hi hl X C T n R KO V ts tl F) (hC : C + 25 < 2147483648) : lm_w (d + 30) 129 [.ref 64, .int 6] (hi, hl, X) (cQ hi0 hl0 X (C + 25) (.int (R 13)) T n R KO V ts tl F) := by
  obtain ⟨S, O, H, HR, FO, HV, HT, HF, HK, E0, EL0⟩ := id P
  refine lm_w_in (Nat.le_of_ble_eq_true rfl) ?_
  show lm_wp (d + 30) 129 0 [.ref 64, .int 6] [] (hi, hl, X) _
  refine w_N 3 5 [.ref 64, .int 6] [.int 16, .int 12, .int 6] rfl ?_
  refine w_cc rfl x_within ?_
  show lm_wp _ 129 8 [.ref 64, .int 6] [.int (bz (wi 6 12 16))] (hi, hl, X) _
  refine w_if_eq_t (t := 21) rfl rfl (c_eqz (by decide)) ?_
  refine w_N 1 22 [.ref 64, .int 6] [.int 6] rfl ?_
  refine w_ts (t := 125) rfl (by decide) rfl ?_
  refine w_N 1 126 [.ref 64, .int 6] [.ref 64] rfl ?_
  refine w_gr 65 rfl rfl rfl (A_k S 64 (by decide)) (A_r S 64 0 (by decide)) ?_
  refine w_gi (v := R 13) rfl rfl rfl (T_kd (A_T65 S)) (HR.2.2.2.1) ?_
  refine w_ri rfl rfl ?_
  exact cq_ P (by omega) hC
theorem y_status6 {d : Nat} {hi : Nat → Nat → Int32} {hl : Nat → Nat → Int64} {X : lm_X} {hi0 : Nat → Nat → Int32} {hl0 : Nat → Nat → Int64} {X0 : lm_X} {n ts : Nat} {T : lm_T} {R : Nat → Int32} {KO : ab_K} {V : ab_V} {tl F : Nat → Int32} (P : mP hi0 hl0 X0 hi hl X T n R KO V ts tl F) {B D : Nat} (Z : okZ B D T n R KO V ts tl) : lm_w (d + 30) 225 [.ref 123, .int 6] (hi, hl, X) (mQ hi0 hl0 X0 (.int (R 13)) T n R KO V ts tl F) := by
  obtain ⟨SR, O, H, HR, HV, HT, HF, HK, E0, EL0, EX0⟩ := id P
  have S := SR.1
  obtain ⟨hT, hO, hV, hts, htl, hDB, hB0, hKO⟩ := id Z
  refine lm_w_in (Nat.le_of_ble_eq_true rfl) ?_
  show lm_wp (d + 30) 225 0 [.ref 123, .int 6, lm_jk, lm_jk] [] (hi, hl, X) _
  refine w_N 3 3 [.ref 123, .int 6, .int 0, lm_jk] [.int 6] rfl ?_
  refine w_ts (t := 133) rfl (by decide) rfl ?_
  refine w_N 1 134 [.ref 123, .int 6, .int 0, lm_jk] [.ref 123] rfl ?_
  refine w_gi (v := R 13) rfl rfl rfl (M_kd S) (HR.2.2.2.1) ?_
  refine w_ri rfl rfl ?_
  exact mq_ P
theorem x_status7 {d : Nat} {hi : Nat → Nat → Int32} {hl : Nat → Nat → Int64} {X : lm_X} {hi0 : Nat → Nat → Int32} {hl0 : Nat → Nat → Int64} {C n ts : Nat} {T : lm_T} {R : Nat → Int32} {KO : ab_K} {V : ab_V} {tl F : Nat → Int32} (P : cP hi0 hl0 hi hl X C T n R KO V ts tl F) (hC : C + 25 < 2147483648) : lm_w (d + 30) 129 [.ref 64, .int 7] (hi, hl, X) (cQ hi0 hl0 X (C + 25) (.int (flS V 8)) T n R KO V ts tl F) := by
  obtain ⟨S, O, H, HR, FO, HV, HT, HF, HK, E0, EL0⟩ := id P
  refine lm_w_in (Nat.le_of_ble_eq_true rfl) ?_
  show lm_wp (d + 30) 129 0 [.ref 64, .int 7] [] (hi, hl, X) _
  refine w_N 3 5 [.ref 64, .int 7] [.int 16, .int 12, .int 7] rfl ?_
  refine w_cc rfl x_within ?_
  show lm_wp _ 129 8 [.ref 64, .int 7] [.int (bz (wi 7 12 16))] (hi, hl, X) _
  refine w_if_eq_t (t := 21) rfl rfl (c_eqz (by decide)) ?_
  refine w_N 1 22 [.ref 64, .int 7] [.int 7] rfl ?_
  refine w_ts (t := 133) rfl (by decide) rfl ?_
  refine w_N 1 134 [.ref 64, .int 7] [.ref 64] rfl ?_
  refine w_cc (w_vst rfl rfl rfl (Nat.le_of_ble_eq_true rfl) (Nat.le_of_ble_eq_true rfl) (A_k S 64 (by decide))) (x_filled P) ?_
  show lm_wp _ 129 137 [.ref 64, .int 7] [.int (flS V 8)] (hi, hl, X) _
  refine w_ri rfl rfl ?_
  exact cq_ P (by omega) hC
theorem y_status7 {d : Nat} {hi : Nat → Nat → Int32} {hl : Nat → Nat → Int64} {X : lm_X} {hi0 : Nat → Nat → Int32} {hl0 : Nat → Nat → Int64} {X0 : lm_X} {n ts : Nat} {T : lm_T} {R : Nat → Int32} {KO : ab_K} {V : ab_V} {tl F : Nat → Int32} (P : mP hi0 hl0 X0 hi hl X T n R KO V ts tl F) {B D : Nat} (Z : okZ B D T n R KO V ts tl) : lm_w (d + 30) 225 [.ref 123, .int 7] (hi, hl, X) (mQ hi0 hl0 X0 (.int (flS V 8)) T n R KO V ts tl F) := by
  obtain ⟨SR, O, H, HR, HV, HT, HF, HK, E0, EL0, EX0⟩ := id P
  have S := SR.1
  obtain ⟨hT, hO, hV, hts, htl, hDB, hB0, hKO⟩ := id Z
  refine lm_w_in (Nat.le_of_ble_eq_true rfl) ?_
  show lm_wp (d + 30) 225 0 [.ref 123, .int 7, lm_jk, lm_jk] [] (hi, hl, X) _
  refine w_N 3 3 [.ref 123, .int 7, .int 0, lm_jk] [.int 7] rfl ?_
  refine w_ts (t := 138) rfl (by decide) rfl ?_
  refine w_N 2 140 [.ref 123, .int 7, .int 0, .int 0] [] rfl ?_
  refine y_st7 P hV (fun c => ?_) 8 0 _ _ (by omega) rfl rfl
  refine w_N 1 170 _ [.int (flS V 8)] rfl ?_
  refine w_ri rfl rfl ?_
  exact mq_ P
theorem x_status12 {d : Nat} {hi : Nat → Nat → Int32} {hl : Nat → Nat → Int64} {X : lm_X} {hi0 : Nat → Nat → Int32} {hl0 : Nat → Nat → Int64} {C n ts : Nat} {T : lm_T} {R : Nat → Int32} {KO : ab_K} {V : ab_V} {tl F : Nat → Int32} (P : cP hi0 hl0 hi hl X C T n R KO V ts tl F) (hC : C + 25 < 2147483648) : lm_w (d + 30) 129 [.ref 64, .int 12] (hi, hl, X) (cQ hi0 hl0 X (C + 25) (.int (F 0)) T n R KO V ts tl F) := by
  obtain ⟨S, O, H, HR, FO, HV, HT, HF, HK, E0, EL0⟩ := id P
  refine lm_w_in (Nat.le_of_ble_eq_true rfl) ?_
  show lm_wp (d + 30) 129 0 [.ref 64, .int 12] [] (hi, hl, X) _
  refine w_N 3 5 [.ref 64, .int 12] [.int 16, .int 12, .int 12] rfl ?_
  refine w_cc rfl (x_within1 (by decide)) ?_
  show lm_wp _ 129 8 [.ref 64, .int 12] [.int 1] (hi, hl, X) _
  refine w_if_eq_f (t := 21) rfl rfl (by decide) ?_
  refine w_N 1 12 [.ref 64, .int 12] [.ref 64] rfl ?_
  refine w_gr 106 rfl rfl rfl (A_k S 64 (by decide)) (A_r S 64 9 (by decide)) ?_
  refine w_N 3 19 [.ref 64, .int 12] [.int 0, .ref 106] rfl ?_
  refine w_ia 0 (v := F 0) rfl (A_k S 106 (by decide)) (show X.2.2.1 106 = 5 from A_l S 106 (by decide)) rfl (by decide) (by decide) (HF 0 (by decide)) ?_
  refine w_ri rfl rfl ?_
  exact cq_ P (by omega) hC
theorem y_status12 {d : Nat} {hi : Nat → Nat → Int32} {hl : Nat → Nat → Int64} {X : lm_X} {hi0 : Nat → Nat → Int32} {hl0 : Nat → Nat → Int64} {X0 : lm_X} {n ts : Nat} {T : lm_T} {R : Nat → Int32} {KO : ab_K} {V : ab_V} {tl F : Nat → Int32} (P : mP hi0 hl0 X0 hi hl X T n R KO V ts tl F) {B D : Nat} (Z : okZ B D T n R KO V ts tl) : lm_w (d + 30) 225 [.ref 123, .int 12] (hi, hl, X) (mQ hi0 hl0 X0 (.int (F 0)) T n R KO V ts tl F) := by
  obtain ⟨SR, O, H, HR, HV, HT, HF, HK, E0, EL0, EX0⟩ := id P
  have S := SR.1
  obtain ⟨hT, hO, hV, hts, htl, hDB, hB0, hKO⟩ := id Z
  refine lm_w_in (Nat.le_of_ble_eq_true rfl) ?_
  show lm_wp (d + 30) 225 0 [.ref 123, .int 12, lm_jk, lm_jk] [] (hi, hl, X) _
  refine w_N 3 3 [.ref 123, .int 12, .int 0, lm_jk] [.int 12] rfl ?_
  refine w_ts (t := 171) rfl (by decide) rfl ?_
  refine w_N 4 179 [.ref 123, .int 12, .int 0, lm_jk] [.long 16, .long 12, .long 12] rfl ?_
  refine w_cc rfl (lm_c_1 (m_in (x := 12) (lo := 12) (up := 16) (by decide) (by decide) (by decide)) (by decide)) ?_
  show lm_wp _ 225 182 [.ref 123, .int 12, .int 0, lm_jk] [.int 1] (hi, hl, X) _
  refine w_if_eq_f (t := 197) rfl rfl (by decide) ?_
  refine w_N 1 186 [.ref 123, .int 12, .int 0, lm_jk] [.ref 123] rfl ?_
  refine w_gr 140 rfl rfl rfl (M_kd S) (M_r S (k := 9) (o := 17) rfl) ?_
  refine w_N 3 193 [.ref 123, .int 12, .int 0, lm_jk] [.int 2, .ref 140] rfl ?_
  refine w_ia 2 (v := F 0) rfl (show X.2.1 (140) = 1 from M_k S 17 (by decide)) (show X.2.2.1 (140) = 8 from M_l S 17 (by decide)) rfl (by decide) (by decide) (HF 0 (by decide)) ?_
  refine w_N 1 198 [.ref 123, .int 12, .int 0, lm_jk] [.int (F 0)] rfl ?_
  refine w_ri rfl rfl ?_
  exact mq_ P
theorem x_status13 {d : Nat} {hi : Nat → Nat → Int32} {hl : Nat → Nat → Int64} {X : lm_X} {hi0 : Nat → Nat → Int32} {hl0 : Nat → Nat → Int64} {C n ts : Nat} {T : lm_T} {R : Nat → Int32} {KO : ab_K} {V : ab_V} {tl F : Nat → Int32} (P : cP hi0 hl0 hi hl X C T n R KO V ts tl F) (hC : C + 25 < 2147483648) : lm_w (d + 30) 129 [.ref 64, .int 13] (hi, hl, X) (cQ hi0 hl0 X (C + 25) (.int (F 1)) T n R KO V ts tl F) := by
  obtain ⟨S, O, H, HR, FO, HV, HT, HF, HK, E0, EL0⟩ := id P
  refine lm_w_in (Nat.le_of_ble_eq_true rfl) ?_
  show lm_wp (d + 30) 129 0 [.ref 64, .int 13] [] (hi, hl, X) _
  refine w_N 3 5 [.ref 64, .int 13] [.int 16, .int 12, .int 13] rfl ?_
  refine w_cc rfl (x_within1 (by decide)) ?_
  show lm_wp _ 129 8 [.ref 64, .int 13] [.int 1] (hi, hl, X) _
  refine w_if_eq_f (t := 21) rfl rfl (by decide) ?_
  refine w_N 1 12 [.ref 64, .int 13] [.ref 64] rfl ?_
  refine w_gr 106 rfl rfl rfl (A_k S 64 (by decide)) (A_r S 64 9 (by decide)) ?_
  refine w_N 3 19 [.ref 64, .int 13] [.int 1, .ref 106] rfl ?_
  refine w_ia 1 (v := F 1) rfl (A_k S 106 (by decide)) (show X.2.2.1 106 = 5 from A_l S 106 (by decide)) rfl (by decide) (by decide) (HF 1 (by decide)) ?_
  refine w_ri rfl rfl ?_
  exact cq_ P (by omega) hC
theorem y_status13 {d : Nat} {hi : Nat → Nat → Int32} {hl : Nat → Nat → Int64} {X : lm_X} {hi0 : Nat → Nat → Int32} {hl0 : Nat → Nat → Int64} {X0 : lm_X} {n ts : Nat} {T : lm_T} {R : Nat → Int32} {KO : ab_K} {V : ab_V} {tl F : Nat → Int32} (P : mP hi0 hl0 X0 hi hl X T n R KO V ts tl F) {B D : Nat} (Z : okZ B D T n R KO V ts tl) : lm_w (d + 30) 225 [.ref 123, .int 13] (hi, hl, X) (mQ hi0 hl0 X0 (.int (F 1)) T n R KO V ts tl F) := by
  obtain ⟨SR, O, H, HR, HV, HT, HF, HK, E0, EL0, EX0⟩ := id P
  have S := SR.1
  obtain ⟨hT, hO, hV, hts, htl, hDB, hB0, hKO⟩ := id Z
  refine lm_w_in (Nat.le_of_ble_eq_true rfl) ?_
  show lm_wp (d + 30) 225 0 [.ref 123, .int 13, lm_jk, lm_jk] [] (hi, hl, X) _
  refine w_N 3 3 [.ref 123, .int 13, .int 0, lm_jk] [.int 13] rfl ?_
  refine w_ts (t := 171) rfl (by decide) rfl ?_
  refine w_N 4 179 [.ref 123, .int 13, .int 0, lm_jk] [.long 16, .long 12, .long 13] rfl ?_
  refine w_cc rfl (lm_c_1 (m_in (x := 13) (lo := 12) (up := 16) (by decide) (by decide) (by decide)) (by decide)) ?_
  show lm_wp _ 225 182 [.ref 123, .int 13, .int 0, lm_jk] [.int 1] (hi, hl, X) _
  refine w_if_eq_f (t := 197) rfl rfl (by decide) ?_
  refine w_N 1 186 [.ref 123, .int 13, .int 0, lm_jk] [.ref 123] rfl ?_
  refine w_gr 140 rfl rfl rfl (M_kd S) (M_r S (k := 9) (o := 17) rfl) ?_
  refine w_N 3 193 [.ref 123, .int 13, .int 0, lm_jk] [.int 3, .ref 140] rfl ?_
  refine w_ia 3 (v := F 1) rfl (show X.2.1 (140) = 1 from M_k S 17 (by decide)) (show X.2.2.1 (140) = 8 from M_l S 17 (by decide)) rfl (by decide) (by decide) (HF 1 (by decide)) ?_
  refine w_N 1 198 [.ref 123, .int 13, .int 0, lm_jk] [.int (F 1)] rfl ?_
  refine w_ri rfl rfl ?_
  exact mq_ P
theorem x_status14 {d : Nat} {hi : Nat → Nat → Int32} {hl : Nat → Nat → Int64} {X : lm_X} {hi0 : Nat → Nat → Int32} {hl0 : Nat → Nat → Int64} {C n ts : Nat} {T : lm_T} {R : Nat → Int32} {KO : ab_K} {V : ab_V} {tl F : Nat → Int32} (P : cP hi0 hl0 hi hl X C T n R KO V ts tl F) (hC : C + 25 < 2147483648) : lm_w (d + 30) 129 [.ref 64, .int 14] (hi, hl, X) (cQ hi0 hl0 X (C + 25) (.int (F 2)) T n R KO V ts tl F) := by
  obtain ⟨S, O, H, HR, FO, HV, HT, HF, HK, E0, EL0⟩ := id P
  refine lm_w_in (Nat.le_of_ble_eq_true rfl) ?_
  show lm_wp (d + 30) 129 0 [.ref 64, .int 14] [] (hi, hl, X) _
  refine w_N 3 5 [.ref 64, .int 14] [.int 16, .int 12, .int 14] rfl ?_
  refine w_cc rfl (x_within1 (by decide)) ?_
  show lm_wp _ 129 8 [.ref 64, .int 14] [.int 1] (hi, hl, X) _
  refine w_if_eq_f (t := 21) rfl rfl (by decide) ?_
  refine w_N 1 12 [.ref 64, .int 14] [.ref 64] rfl ?_
  refine w_gr 106 rfl rfl rfl (A_k S 64 (by decide)) (A_r S 64 9 (by decide)) ?_
  refine w_N 3 19 [.ref 64, .int 14] [.int 2, .ref 106] rfl ?_
  refine w_ia 2 (v := F 2) rfl (A_k S 106 (by decide)) (show X.2.2.1 106 = 5 from A_l S 106 (by decide)) rfl (by decide) (by decide) (HF 2 (by decide)) ?_
  refine w_ri rfl rfl ?_
  exact cq_ P (by omega) hC
theorem y_status14 {d : Nat} {hi : Nat → Nat → Int32} {hl : Nat → Nat → Int64} {X : lm_X} {hi0 : Nat → Nat → Int32} {hl0 : Nat → Nat → Int64} {X0 : lm_X} {n ts : Nat} {T : lm_T} {R : Nat → Int32} {KO : ab_K} {V : ab_V} {tl F : Nat → Int32} (P : mP hi0 hl0 X0 hi hl X T n R KO V ts tl F) {B D : Nat} (Z : okZ B D T n R KO V ts tl) : lm_w (d + 30) 225 [.ref 123, .int 14] (hi, hl, X) (mQ hi0 hl0 X0 (.int (F 2)) T n R KO V ts tl F) := by
  obtain ⟨SR, O, H, HR, HV, HT, HF, HK, E0, EL0, EX0⟩ := id P
  have S := SR.1
  obtain ⟨hT, hO, hV, hts, htl, hDB, hB0, hKO⟩ := id Z
  refine lm_w_in (Nat.le_of_ble_eq_true rfl) ?_
  show lm_wp (d + 30) 225 0 [.ref 123, .int 14, lm_jk, lm_jk] [] (hi, hl, X) _
  refine w_N 3 3 [.ref 123, .int 14, .int 0, lm_jk] [.int 14] rfl ?_
  refine w_ts (t := 171) rfl (by decide) rfl ?_
  refine w_N 4 179 [.ref 123, .int 14, .int 0, lm_jk] [.long 16, .long 12, .long 14] rfl ?_
  refine w_cc rfl (lm_c_1 (m_in (x := 14) (lo := 12) (up := 16) (by decide) (by decide) (by decide)) (by decide)) ?_
  show lm_wp _ 225 182 [.ref 123, .int 14, .int 0, lm_jk] [.int 1] (hi, hl, X) _
  refine w_if_eq_f (t := 197) rfl rfl (by decide) ?_
  refine w_N 1 186 [.ref 123, .int 14, .int 0, lm_jk] [.ref 123] rfl ?_
  refine w_gr 140 rfl rfl rfl (M_kd S) (M_r S (k := 9) (o := 17) rfl) ?_
  refine w_N 3 193 [.ref 123, .int 14, .int 0, lm_jk] [.int 4, .ref 140] rfl ?_
  refine w_ia 4 (v := F 2) rfl (show X.2.1 (140) = 1 from M_k S 17 (by decide)) (show X.2.2.1 (140) = 8 from M_l S 17 (by decide)) rfl (by decide) (by decide) (HF 2 (by decide)) ?_
  refine w_N 1 198 [.ref 123, .int 14, .int 0, lm_jk] [.int (F 2)] rfl ?_
  refine w_ri rfl rfl ?_
  exact mq_ P
theorem x_status15 {d : Nat} {hi : Nat → Nat → Int32} {hl : Nat → Nat → Int64} {X : lm_X} {hi0 : Nat → Nat → Int32} {hl0 : Nat → Nat → Int64} {C n ts : Nat} {T : lm_T} {R : Nat → Int32} {KO : ab_K} {V : ab_V} {tl F : Nat → Int32} (P : cP hi0 hl0 hi hl X C T n R KO V ts tl F) (hC : C + 25 < 2147483648) : lm_w (d + 30) 129 [.ref 64, .int 15] (hi, hl, X) (cQ hi0 hl0 X (C + 25) (.int (F 3)) T n R KO V ts tl F) := by
  obtain ⟨S, O, H, HR, FO, HV, HT, HF, HK, E0, EL0⟩ := id P
  refine lm_w_in (Nat.le_of_ble_eq_true rfl) ?_
  show lm_wp (d + 30) 129 0 [.ref 64, .int 15] [] (hi, hl, X) _
  refine w_N 3 5 [.ref 64, .int 15] [.int 16, .int 12, .int 15] rfl ?_
  refine w_cc rfl (x_within1 (by decide)) ?_
  show lm_wp _ 129 8 [.ref 64, .int 15] [.int 1] (hi, hl, X) _
  refine w_if_eq_f (t := 21) rfl rfl (by decide) ?_
  refine w_N 1 12 [.ref 64, .int 15] [.ref 64] rfl ?_
  refine w_gr 106 rfl rfl rfl (A_k S 64 (by decide)) (A_r S 64 9 (by decide)) ?_
  refine w_N 3 19 [.ref 64, .int 15] [.int 3, .ref 106] rfl ?_
  refine w_ia 3 (v := F 3) rfl (A_k S 106 (by decide)) (show X.2.2.1 106 = 5 from A_l S 106 (by decide)) rfl (by decide) (by decide) (HF 3 (by decide)) ?_
  refine w_ri rfl rfl ?_
  exact cq_ P (by omega) hC
theorem y_status15 {d : Nat} {hi : Nat → Nat → Int32} {hl : Nat → Nat → Int64} {X : lm_X} {hi0 : Nat → Nat → Int32} {hl0 : Nat → Nat → Int64} {X0 : lm_X} {n ts : Nat} {T : lm_T} {R : Nat → Int32} {KO : ab_K} {V : ab_V} {tl F : Nat → Int32} (P : mP hi0 hl0 X0 hi hl X T n R KO V ts tl F) {B D : Nat} (Z : okZ B D T n R KO V ts tl) : lm_w (d + 30) 225 [.ref 123, .int 15] (hi, hl, X) (mQ hi0 hl0 X0 (.int (F 3)) T n R KO V ts tl F) := by
  obtain ⟨SR, O, H, HR, HV, HT, HF, HK, E0, EL0, EX0⟩ := id P
  have S := SR.1
  obtain ⟨hT, hO, hV, hts, htl, hDB, hB0, hKO⟩ := id Z
  refine lm_w_in (Nat.le_of_ble_eq_true rfl) ?_
  show lm_wp (d + 30) 225 0 [.ref 123, .int 15, lm_jk, lm_jk] [] (hi, hl, X) _
  refine w_N 3 3 [.ref 123, .int 15, .int 0, lm_jk] [.int 15] rfl ?_
  refine w_ts (t := 171) rfl (by decide) rfl ?_
  refine w_N 4 179 [.ref 123, .int 15, .int 0, lm_jk] [.long 16, .long 12, .long 15] rfl ?_
  refine w_cc rfl (lm_c_1 (m_in (x := 15) (lo := 12) (up := 16) (by decide) (by decide) (by decide)) (by decide)) ?_
  show lm_wp _ 225 182 [.ref 123, .int 15, .int 0, lm_jk] [.int 1] (hi, hl, X) _
  refine w_if_eq_f (t := 197) rfl rfl (by decide) ?_
  refine w_N 1 186 [.ref 123, .int 15, .int 0, lm_jk] [.ref 123] rfl ?_
  refine w_gr 140 rfl rfl rfl (M_kd S) (M_r S (k := 9) (o := 17) rfl) ?_
  refine w_N 3 193 [.ref 123, .int 15, .int 0, lm_jk] [.int 5, .ref 140] rfl ?_
  refine w_ia 5 (v := F 3) rfl (show X.2.1 (140) = 1 from M_k S 17 (by decide)) (show X.2.2.1 (140) = 8 from M_l S 17 (by decide)) rfl (by decide) (by decide) (HF 3 (by decide)) ?_
  refine w_N 1 198 [.ref 123, .int 15, .int 0, lm_jk] [.int (F 3)] rfl ?_
  refine w_ri rfl rfl ?_
  exact mq_ P
theorem x_status16 {d : Nat} {hi : Nat → Nat → Int32} {hl : Nat → Nat → Int64} {X : lm_X} {hi0 : Nat → Nat → Int32} {hl0 : Nat → Nat → Int64} {C n ts : Nat} {T : lm_T} {R : Nat → Int32} {KO : ab_K} {V : ab_V} {tl F : Nat → Int32} (P : cP hi0 hl0 hi hl X C T n R KO V ts tl F) (hC : C + 25 < 2147483648) : lm_w (d + 30) 129 [.ref 64, .int 16] (hi, hl, X) (cQ hi0 hl0 X (C + 25) (.int (F 4)) T n R KO V ts tl F) := by
  obtain ⟨S, O, H, HR, FO, HV, HT, HF, HK, E0, EL0⟩ := id P
  refine lm_w_in (Nat.le_of_ble_eq_true rfl) ?_
  show lm_wp (d + 30) 129 0 [.ref 64, .int 16] [] (hi, hl, X) _
  refine w_N 3 5 [.ref 64, .int 16] [.int 16, .int 12, .int 16] rfl ?_
  refine w_cc rfl (x_within1 (by decide)) ?_
  show lm_wp _ 129 8 [.ref 64, .int 16] [.int 1] (hi, hl, X) _
  refine w_if_eq_f (t := 21) rfl rfl (by decide) ?_
  refine w_N 1 12 [.ref 64, .int 16] [.ref 64] rfl ?_
  refine w_gr 106 rfl rfl rfl (A_k S 64 (by decide)) (A_r S 64 9 (by decide)) ?_
  refine w_N 3 19 [.ref 64, .int 16] [.int 4, .ref 106] rfl ?_
  refine w_ia 4 (v := F 4) rfl (A_k S 106 (by decide)) (show X.2.2.1 106 = 5 from A_l S 106 (by decide)) rfl (by decide) (by decide) (HF 4 (by decide)) ?_
  refine w_ri rfl rfl ?_
  exact cq_ P (by omega) hC
theorem y_status16 {d : Nat} {hi : Nat → Nat → Int32} {hl : Nat → Nat → Int64} {X : lm_X} {hi0 : Nat → Nat → Int32} {hl0 : Nat → Nat → Int64} {X0 : lm_X} {n ts : Nat} {T : lm_T} {R : Nat → Int32} {KO : ab_K} {V : ab_V} {tl F : Nat → Int32} (P : mP hi0 hl0 X0 hi hl X T n R KO V ts tl F) {B D : Nat} (Z : okZ B D T n R KO V ts tl) : lm_w (d + 30) 225 [.ref 123, .int 16] (hi, hl, X) (mQ hi0 hl0 X0 (.int (F 4)) T n R KO V ts tl F) := by
  obtain ⟨SR, O, H, HR, HV, HT, HF, HK, E0, EL0, EX0⟩ := id P
  have S := SR.1
  obtain ⟨hT, hO, hV, hts, htl, hDB, hB0, hKO⟩ := id Z
  refine lm_w_in (Nat.le_of_ble_eq_true rfl) ?_
  show lm_wp (d + 30) 225 0 [.ref 123, .int 16, lm_jk, lm_jk] [] (hi, hl, X) _
  refine w_N 3 3 [.ref 123, .int 16, .int 0, lm_jk] [.int 16] rfl ?_
  refine w_ts (t := 171) rfl (by decide) rfl ?_
  refine w_N 4 179 [.ref 123, .int 16, .int 0, lm_jk] [.long 16, .long 12, .long 16] rfl ?_
  refine w_cc rfl (lm_c_1 (m_in (x := 16) (lo := 12) (up := 16) (by decide) (by decide) (by decide)) (by decide)) ?_
  show lm_wp _ 225 182 [.ref 123, .int 16, .int 0, lm_jk] [.int 1] (hi, hl, X) _
  refine w_if_eq_f (t := 197) rfl rfl (by decide) ?_
  refine w_N 1 186 [.ref 123, .int 16, .int 0, lm_jk] [.ref 123] rfl ?_
  refine w_gr 140 rfl rfl rfl (M_kd S) (M_r S (k := 9) (o := 17) rfl) ?_
  refine w_N 3 193 [.ref 123, .int 16, .int 0, lm_jk] [.int 6, .ref 140] rfl ?_
  refine w_ia 6 (v := F 4) rfl (show X.2.1 (140) = 1 from M_k S 17 (by decide)) (show X.2.2.1 (140) = 8 from M_l S 17 (by decide)) rfl (by decide) (by decide) (HF 4 (by decide)) ?_
  refine w_N 1 198 [.ref 123, .int 16, .int 0, lm_jk] [.int (F 4)] rfl ?_
  refine w_ri rfl rfl ?_
  exact mq_ P
theorem x_status_n {d : Nat} {hi : Nat → Nat → Int32} {hl : Nat → Nat → Int64} {X : lm_X} {hi0 : Nat → Nat → Int32} {hl0 : Nat → Nat → Int64} {C n ts : Nat} {T : lm_T} {R : Nat → Int32} {KO : ab_K} {V : ab_V} {tl F : Nat → Int32} (P : cP hi0 hl0 hi hl X C T n R KO V ts tl F) {w : Int32} (h1 : wi w 0 7 = false) (h2 : wi w 12 16 = false) (hC : C + 25 < 2147483648) : lm_w (d + 30) 129 [.ref 64, .int w] (hi, hl, X) (cQ hi0 hl0 X (C + 25) (.int (-1)) T n R KO V ts tl F) := by
  obtain ⟨S, O, H, HR, FO, HV, HT, HF, HK, E0, EL0⟩ := id P
  refine lm_w_in (Nat.le_of_ble_eq_true rfl) ?_
  show lm_wp (d + 30) 129 0 [.ref 64, .int w] [] (hi, hl, X) _
  refine w_N 3 5 [.ref 64, .int w] [.int 16, .int 12, .int w] rfl ?_
  refine w_cc rfl x_within ?_
  show lm_wp _ 129 8 [.ref 64, .int w] [.int (bz (wi w 12 16))] (hi, hl, X) _
  refine w_if_eq_t (t := 21) rfl rfl (c_eqz h2) ?_
  refine w_N 1 22 [.ref 64, .int w] [.int w] rfl ?_
  refine lm_by (x := w) 0 ?_ ?_
  · intro c1
    refine w_ts (t := 68) rfl (by decide) (by rw [c1]; rfl) ?_
    rw [c1] at h1
    exact absurd h1 (by decide)
  intro c1_0
  refine lm_by (x := w) 1 ?_ ?_
  · intro c1
    refine w_ts (t := 76) rfl (by decide) (by rw [c1]; rfl) ?_
    rw [c1] at h1
    exact absurd h1 (by decide)
  intro c1_1
  refine lm_by (x := w) 2 ?_ ?_
  · intro c1
    refine w_ts (t := 90) rfl (by decide) (by rw [c1]; rfl) ?_
    rw [c1] at h1
    exact absurd h1 (by decide)
  intro c1_2
  refine lm_by (x := w) 3 ?_ ?_
  · intro c1
    refine w_ts (t := 98) rfl (by decide) (by rw [c1]; rfl) ?_
    rw [c1] at h1
    exact absurd h1 (by decide)
  intro c1_3
  refine lm_by (x := w) 4 ?_ ?_
  · intro c1
    refine w_ts (t := 109) rfl (by decide) (by rw [c1]; rfl) ?_
    rw [c1] at h1
    exact absurd h1 (by decide)
  intro c1_4
  refine lm_by (x := w) 5 ?_ ?_
  · intro c1
    refine w_ts (t := 117) rfl (by decide) (by rw [c1]; rfl) ?_
    rw [c1] at h1
    exact absurd h1 (by decide)
  intro c1_5
  refine lm_by (x := w) 6 ?_ ?_
  · intro c1
    refine w_ts (t := 125) rfl (by decide) (by rw [c1]; rfl) ?_
    rw [c1] at h1
    exact absurd h1 (by decide)
  intro c1_6
  refine lm_by (x := w) 7 ?_ ?_
  · intro c1
    refine w_ts (t := 133) rfl (by decide) (by rw [c1]; rfl) ?_
    rw [c1] at h1
    exact absurd h1 (by decide)
  intro c1_7
  refine w_ts (t := 138) rfl (by decide) (congrArg (lm_tg _) (lm_sw_n c1_0 (lm_sw_n c1_1 (lm_sw_n c1_2 (lm_sw_n c1_3 (lm_sw_n c1_4 (lm_sw_n c1_5 (lm_sw_n c1_6 (lm_sw_n c1_7 (lm_sw_0)))))))))) ?_
  refine w_N 1 139 [.ref 64, .int w] [.int (-1)] rfl ?_
  refine w_ri rfl rfl ?_
  exact cq_ P (by omega) hC
theorem y_status_n {d : Nat} {hi : Nat → Nat → Int32} {hl : Nat → Nat → Int64} {X : lm_X} {hi0 : Nat → Nat → Int32} {hl0 : Nat → Nat → Int64} {X0 : lm_X} {n ts : Nat} {T : lm_T} {R : Nat → Int32} {KO : ab_K} {V : ab_V} {tl F : Nat → Int32} (P : mP hi0 hl0 X0 hi hl X T n R KO V ts tl F) {w : Int32} (h1 : wi w 0 7 = false) (h2 : wi w 12 16 = false) : lm_w (d + 30) 225 [.ref 123, .int w] (hi, hl, X) (mQ hi0 hl0 X0 (.int (-1)) T n R KO V ts tl F) := by
  obtain ⟨SR, O, H, HR, HV, HT, HF, HK, E0, EL0, EX0⟩ := id P
  have S := SR.1
  refine lm_w_in (Nat.le_of_ble_eq_true rfl) ?_
  show lm_wp (d + 30) 225 0 [.ref 123, .int w, lm_jk, lm_jk] [] (hi, hl, X) _
  refine w_N 3 3 [.ref 123, .int w, .int 0, lm_jk] [.int w] rfl ?_
  refine lm_by (x := w) 0 ?_ ?_
  · intro c1
    refine w_ts (t := 48) rfl (by decide) (by rw [c1]; rfl) ?_
    rw [c1] at h1
    exact absurd h1 (by decide)
  intro c1_0
  refine lm_by (x := w) 1 ?_ ?_
  · intro c1
    refine w_ts (t := 53) rfl (by decide) (by rw [c1]; rfl) ?_
    rw [c1] at h1
    exact absurd h1 (by decide)
  intro c1_1
  refine lm_by (x := w) 2 ?_ ?_
  · intro c1
    refine w_ts (t := 61) rfl (by decide) (by rw [c1]; rfl) ?_
    rw [c1] at h1
    exact absurd h1 (by decide)
  intro c1_2
  refine lm_by (x := w) 3 ?_ ?_
  · intro c1
    refine w_ts (t := 66) rfl (by decide) (by rw [c1]; rfl) ?_
    rw [c1] at h1
    exact absurd h1 (by decide)
  intro c1_3
  refine lm_by (x := w) 4 ?_ ?_
  · intro c1
    refine w_ts (t := 90) rfl (by decide) (by rw [c1]; rfl) ?_
    rw [c1] at h1
    exact absurd h1 (by decide)
  intro c1_4
  refine lm_by (x := w) 5 ?_ ?_
  · intro c1
    refine w_ts (t := 128) rfl (by decide) (by rw [c1]; rfl) ?_
    rw [c1] at h1
    exact absurd h1 (by decide)
  intro c1_5
  refine lm_by (x := w) 6 ?_ ?_
  · intro c1
    refine w_ts (t := 133) rfl (by decide) (by rw [c1]; rfl) ?_
    rw [c1] at h1
    exact absurd h1 (by decide)
  intro c1_6
  refine lm_by (x := w) 7 ?_ ?_
  · intro c1
    refine w_ts (t := 138) rfl (by decide) (by rw [c1]; rfl) ?_
    rw [c1] at h1
    exact absurd h1 (by decide)
  intro c1_7
  refine w_ts (t := 171) rfl (by decide) (congrArg (lm_tg _) (lm_sw_n c1_0 (lm_sw_n c1_1 (lm_sw_n c1_2 (lm_sw_n c1_3 (lm_sw_n c1_4 (lm_sw_n c1_5 (lm_sw_n c1_6 (lm_sw_n c1_7 (lm_sw_0)))))))))) ?_
  refine w_N 4 179 [.ref 123, .int w, .int 0, lm_jk] [.long 16, .long 12, .long w.toInt64] rfl ?_
  refine w_cc rfl (m_in (x := w) (lo := 12) (up := 16) rfl (by decide) (by decide)) ?_
  show lm_wp _ 225 182 [.ref 123, .int w, .int 0, lm_jk] [.int (bz (wi w 12 16))] (hi, hl, X) _
  refine w_if_eq_t (t := 197) rfl rfl (c_eqz h2) ?_
  refine w_N 1 198 [.ref 123, .int w, .int 0, lm_jk] [.int (-1)] rfl ?_
  refine w_ri rfl rfl ?_
  exact mq_ P
theorem wi_12 {x : Int32} (h : wi x 12 16 = true) : x = 12 ∨ x = 13 ∨ x = 14 ∨ x = 15 ∨ x = 16 := by
  have q := wi_b h
  have e1 : (12 : Int32).toInt = 12 := rfl
  have e2 : (16 : Int32).toInt = 16 := rfl
  have h0 : ¬ x < 0 := by rw [i32_lt, i32_0]; omega
  obtain ⟨e, hx⟩ := nI_nat h0
  rw [e, nI_ti hx] at q
  rcases (by omega : x.toNatClampNeg = 12 ∨ x.toNatClampNeg = 13 ∨ x.toNatClampNeg = 14 ∨ x.toNatClampNeg = 15 ∨ x.toNatClampNeg = 16) with z | z | z | z | z <;> (rw [z] at e; rw [e]; decide)
theorem st_status {B D : Nat} {n ts : Nat} {T : lm_T} {R : Nat → Int32} {KO : ab_K} {V : ab_V} {tl F : Nat → Int32} {w : Int32} (Z : okZ B D T n R KO V ts tl) (hB : B + 20 < 2000000) : STEP B 129 225 [.int w] T n R KO V ts tl F := by
  obtain ⟨hT, hO, hV, hts, htl, hDB, hB0, hKO⟩ := id Z
  cases h1 : wi w 0 7
  · cases h2 : wi w 12 16
    · exact ⟨_, D, _, _, _, _, _, _, _, _, okZ_up Z hB, fun _ _ _ _ _ _ P hC => x_status_n (d := 10) P h1 h2 hC, fun _ _ _ _ _ _ P => y_status_n (d := 10) P h1 h2⟩
    · rcases wi_12 h2 with rfl | rfl | rfl | rfl | rfl
      · exact ⟨_, D, _, _, _, _, _, _, _, _, okZ_up Z hB, fun _ _ _ _ _ _ P hC => x_status12 (d := 10) P hC, fun _ _ _ _ _ _ P => y_status12 (d := 10) P Z⟩
      · exact ⟨_, D, _, _, _, _, _, _, _, _, okZ_up Z hB, fun _ _ _ _ _ _ P hC => x_status13 (d := 10) P hC, fun _ _ _ _ _ _ P => y_status13 (d := 10) P Z⟩
      · exact ⟨_, D, _, _, _, _, _, _, _, _, okZ_up Z hB, fun _ _ _ _ _ _ P hC => x_status14 (d := 10) P hC, fun _ _ _ _ _ _ P => y_status14 (d := 10) P Z⟩
      · exact ⟨_, D, _, _, _, _, _, _, _, _, okZ_up Z hB, fun _ _ _ _ _ _ P hC => x_status15 (d := 10) P hC, fun _ _ _ _ _ _ P => y_status15 (d := 10) P Z⟩
      · exact ⟨_, D, _, _, _, _, _, _, _, _, okZ_up Z hB, fun _ _ _ _ _ _ P hC => x_status16 (d := 10) P hC, fun _ _ _ _ _ _ P => y_status16 (d := 10) P Z⟩
  · obtain ⟨w, rfl, hw⟩ := wi_e (n := 7) h1 (by decide)
    rcases (by omega : w = 0 ∨ w = 1 ∨ w = 2 ∨ w = 3 ∨ w = 4 ∨ w = 5 ∨ w = 6 ∨ w = 7) with rfl | rfl | rfl | rfl | rfl | rfl | rfl | rfl
    · exact ⟨_, D, _, _, _, _, _, _, _, _, okZ_up Z hB, fun _ _ _ _ _ _ P hC => x_status0 (d := 10) P hC, fun _ _ _ _ _ _ P => y_status0 (d := 10) P Z⟩
    · exact ⟨_, D, _, _, _, _, _, _, _, _, okZ_up Z hB, fun _ _ _ _ _ _ P hC => x_status1 (d := 10) P hC, fun _ _ _ _ _ _ P => y_status1 (d := 10) P Z⟩
    · exact ⟨_, D, _, _, _, _, _, _, _, _, okZ_up Z hB, fun _ _ _ _ _ _ P hC => x_status2 (d := 10) P hC, fun _ _ _ _ _ _ P => y_status2 (d := 10) P Z⟩
    · exact ⟨_, D, _, _, _, _, _, _, _, _, okZ_up Z hB, fun _ _ _ _ _ _ P hC => x_status3 (d := 10) P hC, fun _ _ _ _ _ _ P => y_status3 (d := 10) P Z⟩
    · exact ⟨_, D, _, _, _, _, _, _, _, _, okZ_up Z hB, fun _ _ _ _ _ _ P hC => x_status4 (d := 10) P hC, fun _ _ _ _ _ _ P => y_status4 (d := 10) P Z⟩
    · exact ⟨_, D, _, _, _, _, _, _, _, _, okZ_up Z hB, fun _ _ _ _ _ _ P hC => x_status5 (d := 10) P hC, fun _ _ _ _ _ _ P => y_status5 (d := 10) P Z⟩
    · exact ⟨_, D, _, _, _, _, _, _, _, _, okZ_up Z hB, fun _ _ _ _ _ _ P hC => x_status6 (d := 10) P hC, fun _ _ _ _ _ _ P => y_status6 (d := 10) P Z⟩
    · exact ⟨_, D, _, _, _, _, _, _, _, _, okZ_up Z hB, fun _ _ _ _ _ _ P hC => x_status7 (d := 10) P hC, fun _ _ _ _ _ _ P => y_status7 (d := 10) P Z⟩
