set_option maxRecDepth 16384
/-! statements of the class: act, and which one it is -/
theorem or_nI (a b : Nat) : nI a ||| nI b = nI (a ||| b) := by
  apply bt_ext
  intro i hi
  rw [bt_or, bt_nI hi, bt_nI hi, bt_nI hi, Nat.testBit_or]
theorem mb_ok {tl : Nat → Int32} {ts : Nat} {wL : List Int32} : ∀ k p d, p ≤ ts → d < 256 → ∃ d', d' < 256 ∧ (mbS tl ts wL k p (nI d)).2.1 = nI d' ∧ p ≤ (mbS tl ts wL k p (nI d)).2.2 ∧ (mbS tl ts wL k p (nI d)).2.2 ≤ ts := by
  intro k
  induction k with
  | zero => intro p d hp hd; exact ⟨d, hd, rfl, Nat.le_refl _, hp⟩
  | succ k ih =>
    intro p d hp hd
    have hb := tk_b (tl := tl) hp
    have hb1 := tk_b (tl := tl) hb.2.2.2.1
    unfold mbS
    split
    · split
      · rename_i h
        obtain ⟨m, em, hm⟩ := wi_e (n := 7) (nm_t h).2 (by decide)
        have e : nI d ||| (1 <<< (fgI tl ts (tkE tl ts p) &&& 31)) = nI (d ||| 2 ^ m) := by
          rw [em, sh_p2 (by omega)]
          exact (or_nI d (2 ^ m))
        rw [e]
        obtain ⟨d', q1, q2, q3, q4⟩ := ih (tkE tl ts (tkE tl ts p)) (d ||| 2 ^ m) hb1.2.2.2.1 (Nat.or_lt_two_pow (n := 8) hd (p2_lt (by omega)))
        exact ⟨d', q1, q2, by omega, q4⟩
      · exact ⟨d, hd, rfl, by show p ≤ tkE tl ts p; omega, hb.2.2.2.1⟩
    · exact ⟨d, hd, rfl, Nat.le_refl _, hp⟩
theorem mb_le {tl : Nat → Int32} {ts : Nat} {wL : List Int32} (p : Nat) (hp : p ≤ ts) : (mbS tl ts wL ts p 0).2.2 ≤ ts := by
  obtain ⟨d', q1, q2, q3, q4⟩ := mb_ok (tl := tl) (wL := wL) ts p 0 hp (by decide)
  exact q4
theorem t_rActFull {d : Nat} {hi : Nat → Nat → Int32} {hl : Nat → Nat → Int64} {X : lm_X} {hi0 : Nat → Nat → Int32} {T : lm_T} {n : Nat} {R : Nat → Int32} {tl : Nat → Int32} {ts p : Nat} (P : dP hi0 hi X T n R tl ts p) (hts : ts ≤ 250) (hp : p ≤ ts) {p1 : Nat} (q1 : tkE tl ts p = p1) (hn : n = 10) : lm_w (d + 20) 44 [.ref 95, .ref 85] (hi, hl, X) (dF hi0 hl X (tkF tl ts p)) := by
  obtain ⟨S, O, H, HR, HP, FF⟩ := id P
  refine lm_w_in (Nat.le_of_ble_eq_true rfl) ?_
  show lm_wp (d + 20) 44 0 [.ref 95, .ref 85, lm_jk, lm_jk, lm_jk, lm_jk, lm_jk, lm_jk] [] (hi, hl, X) _
  refine w_N 1 1 [.ref 95, .ref 85, lm_jk, lm_jk, lm_jk, lm_jk, lm_jk, lm_jk] [.ref 85] rfl ?_
  refine w_cc (w_vst rfl rfl rfl (Nat.le_of_ble_eq_true rfl) (Nat.le_of_ble_eq_true rfl) (T_kd (A_T85 S))) (lm_c_1 (c_X6_isFull (A_T85 S)) (by rw [isTn H, hn]; decide)) ?_
  show lm_wp _ 44 4 [.ref 95, .ref 85, lm_jk, lm_jk, lm_jk, lm_jk, lm_jk, lm_jk] [.int 1] (hi, hl, X) _
  refine w_if_eq_f (t := 9) rfl rfl (by decide) ?_
  refine w_N 1 8 [.ref 95, .ref 85, lm_jk, lm_jk, lm_jk, lm_jk, lm_jk, lm_jk] [.int 0] rfl ?_
  refine w_rz rfl rfl (by decide) ?_
  exact ⟨rfl, _, rfl, FF, HP.2.2.1⟩
theorem t_rActF1 {d : Nat} {hi : Nat → Nat → Int32} {hl : Nat → Nat → Int64} {X : lm_X} {hi0 : Nat → Nat → Int32} {T : lm_T} {n : Nat} {R : Nat → Int32} {tl : Nat → Int32} {ts p : Nat} (P : dP hi0 hi X T n R tl ts p) (hts : ts ≤ 250) (hp : p ≤ ts) {p1 : Nat} (q1 : tkE tl ts p = p1) (hn : n < 10)  (nF : nmO tl ts p1 0 5 = false) : lm_w (d + 20) 44 [.ref 95, .ref 85] (hi, hl, X) (dF hi0 hl X (tkF tl ts p1)) := by
  obtain ⟨S, O, H, HR, HP, FF⟩ := id P
  refine lm_w_in (Nat.le_of_ble_eq_true rfl) ?_
  show lm_wp (d + 20) 44 0 [.ref 95, .ref 85, lm_jk, lm_jk, lm_jk, lm_jk, lm_jk, lm_jk] [] (hi, hl, X) _
  refine w_N 1 1 [.ref 95, .ref 85, lm_jk, lm_jk, lm_jk, lm_jk, lm_jk, lm_jk] [.ref 85] rfl ?_
  refine w_cc (w_vst rfl rfl rfl (Nat.le_of_ble_eq_true rfl) (Nat.le_of_ble_eq_true rfl) (T_kd (A_T85 S))) (lm_c_v (c_X6_isFull (A_T85 S)) (c_eqz (by have q : nI n < 10 := nI_lt (b := 10) hn (by decide); rw [isTn H]; simp [q]))) ?_
  show lm_wp _ 44 4 [.ref 95, .ref 85, lm_jk, lm_jk, lm_jk, lm_jk, lm_jk, lm_jk] [.int 0] (hi, hl, X) _
  refine w_if_eq_t (t := 9) rfl rfl (by decide) ?_
  refine w_N 1 10 [.ref 95, .ref 85, lm_jk, lm_jk, lm_jk, lm_jk, lm_jk, lm_jk] [.ref 95] rfl ?_
  refine w_ca (w_vst rfl rfl rfl (Nat.le_of_ble_eq_true rfl) (Nat.le_of_ble_eq_true rfl) (A_k S 95 (by decide))) (t_adv (d := d + 18) S hts HP.1 HP.2.1 (tk_b (tl := tl) hp).2.2.2.1 HP.2.2.2.1) ?_
  rintro _ _ ⟨ha1, rfl, rfl, P_ha1, f_ha1⟩
  have hp := (tk_b (tl := tl) hp).2.2.2.1
  have P := dP_tp P P_ha1 f_ha1
  rw [q1] at P hp
  obtain ⟨S, O, H, HR, HP, FF⟩ := id P
  show lm_wp _ 44 13 [.ref 95, .ref 85, lm_jk, lm_jk, lm_jk, lm_jk, lm_jk, lm_jk] [] (ha1, hl, X) _
  refine w_N 3 16 [.ref 95, .ref 85, lm_jk, lm_jk, lm_jk, lm_jk, lm_jk, lm_jk] [.int 5, .int 0, .ref 95] rfl ?_
  refine w_cc (w_vst rfl rfl rfl (Nat.le_of_ble_eq_true rfl) (Nat.le_of_ble_eq_true rfl) (A_k S 95 (by decide))) (t_numF (d := d + 17) S O.2 hts hp HP nF) ?_
  show lm_wp _ 44 19 [.ref 95, .ref 85, lm_jk, lm_jk, lm_jk, lm_jk, lm_jk, lm_jk] [.int (-1)] (ha1, hl, X) _
  refine w_N 3 22 [.ref 95, .ref 85, .int (-1), lm_jk, lm_jk, lm_jk, lm_jk, lm_jk] [.int (-1), .int (-1)] rfl ?_
  refine w_icmp_ne_f (t := 29) rfl rfl (by decide) ?_
  refine w_N 5 39 [.ref 95, .ref 85, .int (-1), .int (-1), lm_jk, lm_jk, lm_jk, lm_jk] [.int (-1), .int (-1)] rfl ?_
  refine w_icmp_ne_f (t := 46) rfl rfl (by decide) ?_
  refine w_N 5 57 [.ref 95, .ref 85, .int (-1), .int (-1), .int (-1), lm_jk, lm_jk, lm_jk] [.int (-1), .int (-1)] rfl ?_
  refine w_icmp_ne_f (t := 64) rfl rfl (by decide) ?_
  refine w_N 5 76 [.ref 95, .ref 85, .int (-1), .int (-1), .int (-1), .int (-1), lm_jk, lm_jk] [.int (-1), .int (-1)] rfl ?_
  refine w_icmp_ne_f (t := 83) rfl rfl (by decide) ?_
  refine w_N 5 94 [.ref 95, .ref 85, .int (-1), .int (-1), .int (-1), .int (-1), .int (-1), lm_jk] [.int (-1), .int (-1)] rfl ?_
  refine w_icmp_ne_f (t := 101) rfl rfl (by decide) ?_
  refine w_N 5 112 [.ref 95, .ref 85, .int (-1), .int (-1), .int (-1), .int (-1), .int (-1), .int (-1)] [.int (-1), .int (-1)] rfl ?_
  refine w_icmp_ne_f (t := 117) rfl rfl (by decide) ?_
  refine w_N 1 116 [.ref 95, .ref 85, .int (-1), .int (-1), .int (-1), .int (-1), .int (-1), .int (-1)] [.int 0] rfl ?_
  refine w_rz rfl rfl (by decide) ?_
  exact ⟨rfl, _, rfl, FF, HP.2.2.1⟩
theorem t_rActF2 {d : Nat} {hi : Nat → Nat → Int32} {hl : Nat → Nat → Int64} {X : lm_X} {hi0 : Nat → Nat → Int32} {T : lm_T} {n : Nat} {R : Nat → Int32} {tl : Nat → Int32} {ts p : Nat} (P : dP hi0 hi X T n R tl ts p) (hts : ts ≤ 250) (hp : p ≤ ts) {p1 p2 : Nat} (q1 : tkE tl ts p = p1) (q2 : tkE tl ts p1 = p2) (hn : n < 10) {a0 : Nat} (g0 : a0 ≤ 5) (n1 : nmO tl ts p1 0 5 = true) (v1 : fgI tl ts p1 = nI a0) (nF : nmO tl ts p2 0 7 = false) : lm_w (d + 20) 44 [.ref 95, .ref 85] (hi, hl, X) (dF hi0 hl X (tkF tl ts p2)) := by
  obtain ⟨S, O, H, HR, HP, FF⟩ := id P
  refine lm_w_in (Nat.le_of_ble_eq_true rfl) ?_
  show lm_wp (d + 20) 44 0 [.ref 95, .ref 85, lm_jk, lm_jk, lm_jk, lm_jk, lm_jk, lm_jk] [] (hi, hl, X) _
  refine w_N 1 1 [.ref 95, .ref 85, lm_jk, lm_jk, lm_jk, lm_jk, lm_jk, lm_jk] [.ref 85] rfl ?_
  refine w_cc (w_vst rfl rfl rfl (Nat.le_of_ble_eq_true rfl) (Nat.le_of_ble_eq_true rfl) (T_kd (A_T85 S))) (lm_c_v (c_X6_isFull (A_T85 S)) (c_eqz (by have q : nI n < 10 := nI_lt (b := 10) hn (by decide); rw [isTn H]; simp [q]))) ?_
  show lm_wp _ 44 4 [.ref 95, .ref 85, lm_jk, lm_jk, lm_jk, lm_jk, lm_jk, lm_jk] [.int 0] (hi, hl, X) _
  refine w_if_eq_t (t := 9) rfl rfl (by decide) ?_
  refine w_N 1 10 [.ref 95, .ref 85, lm_jk, lm_jk, lm_jk, lm_jk, lm_jk, lm_jk] [.ref 95] rfl ?_
  refine w_ca (w_vst rfl rfl rfl (Nat.le_of_ble_eq_true rfl) (Nat.le_of_ble_eq_true rfl) (A_k S 95 (by decide))) (t_adv (d := d + 18) S hts HP.1 HP.2.1 (tk_b (tl := tl) hp).2.2.2.1 HP.2.2.2.1) ?_
  rintro _ _ ⟨ha2, rfl, rfl, P_ha2, f_ha2⟩
  have hp := (tk_b (tl := tl) hp).2.2.2.1
  have P := dP_tp P P_ha2 f_ha2
  rw [q1] at P hp
  obtain ⟨S, O, H, HR, HP, FF⟩ := id P
  show lm_wp _ 44 13 [.ref 95, .ref 85, lm_jk, lm_jk, lm_jk, lm_jk, lm_jk, lm_jk] [] (ha2, hl, X) _
  refine w_N 3 16 [.ref 95, .ref 85, lm_jk, lm_jk, lm_jk, lm_jk, lm_jk, lm_jk] [.int 5, .int 0, .ref 95] rfl ?_
  refine w_ca (w_vst rfl rfl rfl (Nat.le_of_ble_eq_true rfl) (Nat.le_of_ble_eq_true rfl) (A_k S 95 (by decide))) (t_numT (d := d + 17) S O.2 hts hp HP n1 (by decide)) ?_
  rintro _ _ ⟨hb3, rfl, rfl, P_hb3, f_hb3⟩
  rw [v1]
  have hp := (tk_b (tl := tl) hp).2.2.2.1
  have P := dP_tp P P_hb3 f_hb3
  rw [q2] at P hp
  obtain ⟨S, O, H, HR, HP, FF⟩ := id P
  show lm_wp _ 44 19 [.ref 95, .ref 85, lm_jk, lm_jk, lm_jk, lm_jk, lm_jk, lm_jk] [.int (nI a0)] (hb3, hl, X) _
  refine w_N 3 22 [.ref 95, .ref 85, .int (nI a0), lm_jk, lm_jk, lm_jk, lm_jk, lm_jk] [.int (-1), .int (nI a0)] rfl ?_
  refine w_icmp_ne_t (t := 29) rfl rfl (nI_n1 (by omega)) ?_
  refine w_N 3 33 [.ref 95, .ref 85, .int (nI a0), lm_jk, lm_jk, lm_jk, lm_jk, lm_jk] [.int 7, .int 0, .ref 95] rfl ?_
  refine w_cc (w_vst rfl rfl rfl (Nat.le_of_ble_eq_true rfl) (Nat.le_of_ble_eq_true rfl) (A_k S 95 (by decide))) (t_numF (d := d + 17) S O.2 hts hp HP nF) ?_
  show lm_wp _ 44 36 [.ref 95, .ref 85, .int (nI a0), lm_jk, lm_jk, lm_jk, lm_jk, lm_jk] [.int (-1)] (hb3, hl, X) _
  refine w_N 3 39 [.ref 95, .ref 85, .int (nI a0), .int (-1), lm_jk, lm_jk, lm_jk, lm_jk] [.int (-1), .int (-1)] rfl ?_
  refine w_icmp_ne_f (t := 46) rfl rfl (by decide) ?_
  refine w_N 5 57 [.ref 95, .ref 85, .int (nI a0), .int (-1), .int (-1), lm_jk, lm_jk, lm_jk] [.int (-1), .int (-1)] rfl ?_
  refine w_icmp_ne_f (t := 64) rfl rfl (by decide) ?_
  refine w_N 5 76 [.ref 95, .ref 85, .int (nI a0), .int (-1), .int (-1), .int (-1), lm_jk, lm_jk] [.int (-1), .int (-1)] rfl ?_
  refine w_icmp_ne_f (t := 83) rfl rfl (by decide) ?_
  refine w_N 5 94 [.ref 95, .ref 85, .int (nI a0), .int (-1), .int (-1), .int (-1), .int (-1), lm_jk] [.int (-1), .int (-1)] rfl ?_
  refine w_icmp_ne_f (t := 101) rfl rfl (by decide) ?_
  refine w_N 5 112 [.ref 95, .ref 85, .int (nI a0), .int (-1), .int (-1), .int (-1), .int (-1), .int (-1)] [.int (-1), .int (-1)] rfl ?_
  refine w_icmp_ne_f (t := 117) rfl rfl (by decide) ?_
  refine w_N 1 116 [.ref 95, .ref 85, .int (nI a0), .int (-1), .int (-1), .int (-1), .int (-1), .int (-1)] [.int 0] rfl ?_
  refine w_rz rfl rfl (by decide) ?_
  exact ⟨rfl, _, rfl, FF, HP.2.2.1⟩
theorem t_rActF3 {d : Nat} {hi : Nat → Nat → Int32} {hl : Nat → Nat → Int64} {X : lm_X} {hi0 : Nat → Nat → Int32} {T : lm_T} {n : Nat} {R : Nat → Int32} {tl : Nat → Int32} {ts p : Nat} (P : dP hi0 hi X T n R tl ts p) (hts : ts ≤ 250) (hp : p ≤ ts) {p1 p2 p3 : Nat} (q1 : tkE tl ts p = p1) (q2 : tkE tl ts p1 = p2) (q3 : tkE tl ts p2 = p3) (hn : n < 10) {a0 : Nat} (g0 : a0 ≤ 5) (n1 : nmO tl ts p1 0 5 = true) (v1 : fgI tl ts p1 = nI a0) {a1 : Nat} (g1 : a1 ≤ 7) (n2 : nmO tl ts p2 0 7 = true) (v2 : fgI tl ts p2 = nI a1) (nF : nmO tl ts p3 0 3 = false) : lm_w (d + 20) 44 [.ref 95, .ref 85] (hi, hl, X) (dF hi0 hl X (tkF tl ts p3)) := by
  obtain ⟨S, O, H, HR, HP, FF⟩ := id P
  refine lm_w_in (Nat.le_of_ble_eq_true rfl) ?_
  show lm_wp (d + 20) 44 0 [.ref 95, .ref 85, lm_jk, lm_jk, lm_jk, lm_jk, lm_jk, lm_jk] [] (hi, hl, X) _
  refine w_N 1 1 [.ref 95, .ref 85, lm_jk, lm_jk, lm_jk, lm_jk, lm_jk, lm_jk] [.ref 85] rfl ?_
  refine w_cc (w_vst rfl rfl rfl (Nat.le_of_ble_eq_true rfl) (Nat.le_of_ble_eq_true rfl) (T_kd (A_T85 S))) (lm_c_v (c_X6_isFull (A_T85 S)) (c_eqz (by have q : nI n < 10 := nI_lt (b := 10) hn (by decide); rw [isTn H]; simp [q]))) ?_
  show lm_wp _ 44 4 [.ref 95, .ref 85, lm_jk, lm_jk, lm_jk, lm_jk, lm_jk, lm_jk] [.int 0] (hi, hl, X) _
  refine w_if_eq_t (t := 9) rfl rfl (by decide) ?_
  refine w_N 1 10 [.ref 95, .ref 85, lm_jk, lm_jk, lm_jk, lm_jk, lm_jk, lm_jk] [.ref 95] rfl ?_
  refine w_ca (w_vst rfl rfl rfl (Nat.le_of_ble_eq_true rfl) (Nat.le_of_ble_eq_true rfl) (A_k S 95 (by decide))) (t_adv (d := d + 18) S hts HP.1 HP.2.1 (tk_b (tl := tl) hp).2.2.2.1 HP.2.2.2.1) ?_
  rintro _ _ ⟨ha4, rfl, rfl, P_ha4, f_ha4⟩
  have hp := (tk_b (tl := tl) hp).2.2.2.1
  have P := dP_tp P P_ha4 f_ha4
  rw [q1] at P hp
  obtain ⟨S, O, H, HR, HP, FF⟩ := id P
  show lm_wp _ 44 13 [.ref 95, .ref 85, lm_jk, lm_jk, lm_jk, lm_jk, lm_jk, lm_jk] [] (ha4, hl, X) _
  refine w_N 3 16 [.ref 95, .ref 85, lm_jk, lm_jk, lm_jk, lm_jk, lm_jk, lm_jk] [.int 5, .int 0, .ref 95] rfl ?_
  refine w_ca (w_vst rfl rfl rfl (Nat.le_of_ble_eq_true rfl) (Nat.le_of_ble_eq_true rfl) (A_k S 95 (by decide))) (t_numT (d := d + 17) S O.2 hts hp HP n1 (by decide)) ?_
  rintro _ _ ⟨hb5, rfl, rfl, P_hb5, f_hb5⟩
  rw [v1]
  have hp := (tk_b (tl := tl) hp).2.2.2.1
  have P := dP_tp P P_hb5 f_hb5
  rw [q2] at P hp
  obtain ⟨S, O, H, HR, HP, FF⟩ := id P
  show lm_wp _ 44 19 [.ref 95, .ref 85, lm_jk, lm_jk, lm_jk, lm_jk, lm_jk, lm_jk] [.int (nI a0)] (hb5, hl, X) _
  refine w_N 3 22 [.ref 95, .ref 85, .int (nI a0), lm_jk, lm_jk, lm_jk, lm_jk, lm_jk] [.int (-1), .int (nI a0)] rfl ?_
  refine w_icmp_ne_t (t := 29) rfl rfl (nI_n1 (by omega)) ?_
  refine w_N 3 33 [.ref 95, .ref 85, .int (nI a0), lm_jk, lm_jk, lm_jk, lm_jk, lm_jk] [.int 7, .int 0, .ref 95] rfl ?_
  refine w_ca (w_vst rfl rfl rfl (Nat.le_of_ble_eq_true rfl) (Nat.le_of_ble_eq_true rfl) (A_k S 95 (by decide))) (t_numT (d := d + 17) S O.2 hts hp HP n2 (by decide)) ?_
  rintro _ _ ⟨hb6, rfl, rfl, P_hb6, f_hb6⟩
  rw [v2]
  have hp := (tk_b (tl := tl) hp).2.2.2.1
  have P := dP_tp P P_hb6 f_hb6
  rw [q3] at P hp
  obtain ⟨S, O, H, HR, HP, FF⟩ := id P
  show lm_wp _ 44 36 [.ref 95, .ref 85, .int (nI a0), lm_jk, lm_jk, lm_jk, lm_jk, lm_jk] [.int (nI a1)] (hb6, hl, X) _
  refine w_N 3 39 [.ref 95, .ref 85, .int (nI a0), .int (nI a1), lm_jk, lm_jk, lm_jk, lm_jk] [.int (-1), .int (nI a1)] rfl ?_
  refine w_icmp_ne_t (t := 46) rfl rfl (nI_n1 (by omega)) ?_
  refine w_N 3 49 [.ref 95, .ref 85, .int (nI a0), .int (nI a1), lm_jk, lm_jk, lm_jk, lm_jk] [.int 3, .int 0, .ref 95] rfl ?_
  refine w_cc (w_vst rfl rfl rfl (Nat.le_of_ble_eq_true rfl) (Nat.le_of_ble_eq_true rfl) (A_k S 95 (by decide))) (t_numF (d := d + 17) S O.2 hts hp HP nF) ?_
  show lm_wp _ 44 52 [.ref 95, .ref 85, .int (nI a0), .int (nI a1), lm_jk, lm_jk, lm_jk, lm_jk] [.int (-1)] (hb6, hl, X) _
  refine w_N 3 57 [.ref 95, .ref 85, .int (nI a0), .int (nI a1), .int (-1), lm_jk, lm_jk, lm_jk] [.int (-1), .int (-1)] rfl ?_
  refine w_icmp_ne_f (t := 64) rfl rfl (by decide) ?_
  refine w_N 5 76 [.ref 95, .ref 85, .int (nI a0), .int (nI a1), .int (-1), .int (-1), lm_jk, lm_jk] [.int (-1), .int (-1)] rfl ?_
  refine w_icmp_ne_f (t := 83) rfl rfl (by decide) ?_
  refine w_N 5 94 [.ref 95, .ref 85, .int (nI a0), .int (nI a1), .int (-1), .int (-1), .int (-1), lm_jk] [.int (-1), .int (-1)] rfl ?_
  refine w_icmp_ne_f (t := 101) rfl rfl (by decide) ?_
  refine w_N 5 112 [.ref 95, .ref 85, .int (nI a0), .int (nI a1), .int (-1), .int (-1), .int (-1), .int (-1)] [.int (-1), .int (-1)] rfl ?_
  refine w_icmp_ne_f (t := 117) rfl rfl (by decide) ?_
  refine w_N 1 116 [.ref 95, .ref 85, .int (nI a0), .int (nI a1), .int (-1), .int (-1), .int (-1), .int (-1)] [.int 0] rfl ?_
  refine w_rz rfl rfl (by decide) ?_
  exact ⟨rfl, _, rfl, FF, HP.2.2.1⟩
theorem t_rActF4 {d : Nat} {hi : Nat → Nat → Int32} {hl : Nat → Nat → Int64} {X : lm_X} {hi0 : Nat → Nat → Int32} {T : lm_T} {n : Nat} {R : Nat → Int32} {tl : Nat → Int32} {ts p : Nat} (P : dP hi0 hi X T n R tl ts p) (hts : ts ≤ 250) (hp : p ≤ ts) {p1 p2 p3 p4 : Nat} (q1 : tkE tl ts p = p1) (q2 : tkE tl ts p1 = p2) (q3 : tkE tl ts p2 = p3) (q4 : tkE tl ts p3 = p4) (hn : n < 10) {a0 : Nat} (g0 : a0 ≤ 5) (n1 : nmO tl ts p1 0 5 = true) (v1 : fgI tl ts p1 = nI a0) {a1 : Nat} (g1 : a1 ≤ 7) (n2 : nmO tl ts p2 0 7 = true) (v2 : fgI tl ts p2 = nI a1) {a2 : Nat} (g2 : a2 ≤ 3) (n3 : nmO tl ts p3 0 3 = true) (v3 : fgI tl ts p3 = nI a2) (nF : nmO tl ts p4 1 9 = false) : lm_w (d + 20) 44 [.ref 95, .ref 85] (hi, hl, X) (dF hi0 hl X (tkF tl ts p4)) := by
  obtain ⟨S, O, H, HR, HP, FF⟩ := id P
  refine lm_w_in (Nat.le_of_ble_eq_true rfl) ?_
  show lm_wp (d + 20) 44 0 [.ref 95, .ref 85, lm_jk, lm_jk, lm_jk, lm_jk, lm_jk, lm_jk] [] (hi, hl, X) _
  refine w_N 1 1 [.ref 95, .ref 85, lm_jk, lm_jk, lm_jk, lm_jk, lm_jk, lm_jk] [.ref 85] rfl ?_
  refine w_cc (w_vst rfl rfl rfl (Nat.le_of_ble_eq_true rfl) (Nat.le_of_ble_eq_true rfl) (T_kd (A_T85 S))) (lm_c_v (c_X6_isFull (A_T85 S)) (c_eqz (by have q : nI n < 10 := nI_lt (b := 10) hn (by decide); rw [isTn H]; simp [q]))) ?_
  show lm_wp _ 44 4 [.ref 95, .ref 85, lm_jk, lm_jk, lm_jk, lm_jk, lm_jk, lm_jk] [.int 0] (hi, hl, X) _
  refine w_if_eq_t (t := 9) rfl rfl (by decide) ?_
  refine w_N 1 10 [.ref 95, .ref 85, lm_jk, lm_jk, lm_jk, lm_jk, lm_jk, lm_jk] [.ref 95] rfl ?_
  refine w_ca (w_vst rfl rfl rfl (Nat.le_of_ble_eq_true rfl) (Nat.le_of_ble_eq_true rfl) (A_k S 95 (by decide))) (t_adv (d := d + 18) S hts HP.1 HP.2.1 (tk_b (tl := tl) hp).2.2.2.1 HP.2.2.2.1) ?_
  rintro _ _ ⟨ha7, rfl, rfl, P_ha7, f_ha7⟩
  have hp := (tk_b (tl := tl) hp).2.2.2.1
  have P := dP_tp P P_ha7 f_ha7
  rw [q1] at P hp
  obtain ⟨S, O, H, HR, HP, FF⟩ := id P
  show lm_wp _ 44 13 [.ref 95, .ref 85, lm_jk, lm_jk, lm_jk, lm_jk, lm_jk, lm_jk] [] (ha7, hl, X) _
  refine w_N 3 16 [.ref 95, .ref 85, lm_jk, lm_jk, lm_jk, lm_jk, lm_jk, lm_jk] [.int 5, .int 0, .ref 95] rfl ?_
  refine w_ca (w_vst rfl rfl rfl (Nat.le_of_ble_eq_true rfl) (Nat.le_of_ble_eq_true rfl) (A_k S 95 (by decide))) (t_numT (d := d + 17) S O.2 hts hp HP n1 (by decide)) ?_
  rintro _ _ ⟨hb8, rfl, rfl, P_hb8, f_hb8⟩
  rw [v1]
  have hp := (tk_b (tl := tl) hp).2.2.2.1
  have P := dP_tp P P_hb8 f_hb8
  rw [q2] at P hp
  obtain ⟨S, O, H, HR, HP, FF⟩ := id P
  show lm_wp _ 44 19 [.ref 95, .ref 85, lm_jk, lm_jk, lm_jk, lm_jk, lm_jk, lm_jk] [.int (nI a0)] (hb8, hl, X) _
  refine w_N 3 22 [.ref 95, .ref 85, .int (nI a0), lm_jk, lm_jk, lm_jk, lm_jk, lm_jk] [.int (-1), .int (nI a0)] rfl ?_
  refine w_icmp_ne_t (t := 29) rfl rfl (nI_n1 (by omega)) ?_
  refine w_N 3 33 [.ref 95, .ref 85, .int (nI a0), lm_jk, lm_jk, lm_jk, lm_jk, lm_jk] [.int 7, .int 0, .ref 95] rfl ?_
  refine w_ca (w_vst rfl rfl rfl (Nat.le_of_ble_eq_true rfl) (Nat.le_of_ble_eq_true rfl) (A_k S 95 (by decide))) (t_numT (d := d + 17) S O.2 hts hp HP n2 (by decide)) ?_
  rintro _ _ ⟨hb9, rfl, rfl, P_hb9, f_hb9⟩
  rw [v2]
  have hp := (tk_b (tl := tl) hp).2.2.2.1
  have P := dP_tp P P_hb9 f_hb9
  rw [q3] at P hp
  obtain ⟨S, O, H, HR, HP, FF⟩ := id P
  show lm_wp _ 44 36 [.ref 95, .ref 85, .int (nI a0), lm_jk, lm_jk, lm_jk, lm_jk, lm_jk] [.int (nI a1)] (hb9, hl, X) _
  refine w_N 3 39 [.ref 95, .ref 85, .int (nI a0), .int (nI a1), lm_jk, lm_jk, lm_jk, lm_jk] [.int (-1), .int (nI a1)] rfl ?_
  refine w_icmp_ne_t (t := 46) rfl rfl (nI_n1 (by omega)) ?_
  refine w_N 3 49 [.ref 95, .ref 85, .int (nI a0), .int (nI a1), lm_jk, lm_jk, lm_jk, lm_jk] [.int 3, .int 0, .ref 95] rfl ?_
  refine w_ca (w_vst rfl rfl rfl (Nat.le_of_ble_eq_true rfl) (Nat.le_of_ble_eq_true rfl) (A_k S 95 (by decide))) (t_numT (d := d + 17) S O.2 hts hp HP n3 (by decide)) ?_
  rintro _ _ ⟨hb10, rfl, rfl, P_hb10, f_hb10⟩
  rw [v3]
  have hp := (tk_b (tl := tl) hp).2.2.2.1
  have P := dP_tp P P_hb10 f_hb10
  rw [q4] at P hp
  obtain ⟨S, O, H, HR, HP, FF⟩ := id P
  show lm_wp _ 44 52 [.ref 95, .ref 85, .int (nI a0), .int (nI a1), lm_jk, lm_jk, lm_jk, lm_jk] [.int (nI a2)] (hb10, hl, X) _
  refine w_N 3 57 [.ref 95, .ref 85, .int (nI a0), .int (nI a1), .int (nI a2), lm_jk, lm_jk, lm_jk] [.int (-1), .int (nI a2)] rfl ?_
  refine w_icmp_ne_t (t := 64) rfl rfl (nI_n1 (by omega)) ?_
  refine w_N 3 68 [.ref 95, .ref 85, .int (nI a0), .int (nI a1), .int (nI a2), lm_jk, lm_jk, lm_jk] [.int 9, .int 1, .ref 95] rfl ?_
  refine w_cc (w_vst rfl rfl rfl (Nat.le_of_ble_eq_true rfl) (Nat.le_of_ble_eq_true rfl) (A_k S 95 (by decide))) (t_numF (d := d + 17) S O.2 hts hp HP nF) ?_
  show lm_wp _ 44 71 [.ref 95, .ref 85, .int (nI a0), .int (nI a1), .int (nI a2), lm_jk, lm_jk, lm_jk] [.int (-1)] (hb10, hl, X) _
  refine w_N 3 76 [.ref 95, .ref 85, .int (nI a0), .int (nI a1), .int (nI a2), .int (-1), lm_jk, lm_jk] [.int (-1), .int (-1)] rfl ?_
  refine w_icmp_ne_f (t := 83) rfl rfl (by decide) ?_
  refine w_N 5 94 [.ref 95, .ref 85, .int (nI a0), .int (nI a1), .int (nI a2), .int (-1), .int (-1), lm_jk] [.int (-1), .int (-1)] rfl ?_
  refine w_icmp_ne_f (t := 101) rfl rfl (by decide) ?_
  refine w_N 5 112 [.ref 95, .ref 85, .int (nI a0), .int (nI a1), .int (nI a2), .int (-1), .int (-1), .int (-1)] [.int (-1), .int (-1)] rfl ?_
  refine w_icmp_ne_f (t := 117) rfl rfl (by decide) ?_
  refine w_N 1 116 [.ref 95, .ref 85, .int (nI a0), .int (nI a1), .int (nI a2), .int (-1), .int (-1), .int (-1)] [.int 0] rfl ?_
  refine w_rz rfl rfl (by decide) ?_
  exact ⟨rfl, _, rfl, FF, HP.2.2.1⟩
theorem t_rActF5 {d : Nat} {hi : Nat → Nat → Int32} {hl : Nat → Nat → Int64} {X : lm_X} {hi0 : Nat → Nat → Int32} {T : lm_T} {n : Nat} {R : Nat → Int32} {tl : Nat → Int32} {ts p : Nat} (P : dP hi0 hi X T n R tl ts p) (hts : ts ≤ 250) (hp : p ≤ ts) {p1 p2 p3 p4 p5 : Nat} (q1 : tkE tl ts p = p1) (q2 : tkE tl ts p1 = p2) (q3 : tkE tl ts p2 = p3) (q4 : tkE tl ts p3 = p4) (q5 : tkE tl ts p4 = p5) (hn : n < 10) {a0 : Nat} (g0 : a0 ≤ 5) (n1 : nmO tl ts p1 0 5 = true) (v1 : fgI tl ts p1 = nI a0) {a1 : Nat} (g1 : a1 ≤ 7) (n2 : nmO tl ts p2 0 7 = true) (v2 : fgI tl ts p2 = nI a1) {a2 : Nat} (g2 : a2 ≤ 3) (n3 : nmO tl ts p3 0 3 = true) (v3 : fgI tl ts p3 = nI a2) {a3 : Nat} (g3 : 1 ≤ a3) (g3b : a3 ≤ 9) (n4 : nmO tl ts p4 1 9 = true) (v4 : fgI tl ts p4 = nI a3) (b1 : (mbS tl ts wL1 ts p5 0).1 = false) : lm_w (d + 20) 44 [.ref 95, .ref 85] (hi, hl, X) (dF hi0 hl X (tkF tl ts (mbS tl ts wL1 ts p5 0).2.2)) := by
  obtain ⟨S, O, H, HR, HP, FF⟩ := id P
  refine lm_w_in (Nat.le_of_ble_eq_true rfl) ?_
  show lm_wp (d + 20) 44 0 [.ref 95, .ref 85, lm_jk, lm_jk, lm_jk, lm_jk, lm_jk, lm_jk] [] (hi, hl, X) _
  refine w_N 1 1 [.ref 95, .ref 85, lm_jk, lm_jk, lm_jk, lm_jk, lm_jk, lm_jk] [.ref 85] rfl ?_
  refine w_cc (w_vst rfl rfl rfl (Nat.le_of_ble_eq_true rfl) (Nat.le_of_ble_eq_true rfl) (T_kd (A_T85 S))) (lm_c_v (c_X6_isFull (A_T85 S)) (c_eqz (by have q : nI n < 10 := nI_lt (b := 10) hn (by decide); rw [isTn H]; simp [q]))) ?_
  show lm_wp _ 44 4 [.ref 95, .ref 85, lm_jk, lm_jk, lm_jk, lm_jk, lm_jk, lm_jk] [.int 0] (hi, hl, X) _
  refine w_if_eq_t (t := 9) rfl rfl (by decide) ?_
  refine w_N 1 10 [.ref 95, .ref 85, lm_jk, lm_jk, lm_jk, lm_jk, lm_jk, lm_jk] [.ref 95] rfl ?_
  refine w_ca (w_vst rfl rfl rfl (Nat.le_of_ble_eq_true rfl) (Nat.le_of_ble_eq_true rfl) (A_k S 95 (by decide))) (t_adv (d := d + 18) S hts HP.1 HP.2.1 (tk_b (tl := tl) hp).2.2.2.1 HP.2.2.2.1) ?_
  rintro _ _ ⟨ha11, rfl, rfl, P_ha11, f_ha11⟩
  have hp := (tk_b (tl := tl) hp).2.2.2.1
  have P := dP_tp P P_ha11 f_ha11
  rw [q1] at P hp
  obtain ⟨S, O, H, HR, HP, FF⟩ := id P
  show lm_wp _ 44 13 [.ref 95, .ref 85, lm_jk, lm_jk, lm_jk, lm_jk, lm_jk, lm_jk] [] (ha11, hl, X) _
  refine w_N 3 16 [.ref 95, .ref 85, lm_jk, lm_jk, lm_jk, lm_jk, lm_jk, lm_jk] [.int 5, .int 0, .ref 95] rfl ?_
  refine w_ca (w_vst rfl rfl rfl (Nat.le_of_ble_eq_true rfl) (Nat.le_of_ble_eq_true rfl) (A_k S 95 (by decide))) (t_numT (d := d + 17) S O.2 hts hp HP n1 (by decide)) ?_
  rintro _ _ ⟨hb12, rfl, rfl, P_hb12, f_hb12⟩
  rw [v1]
  have hp := (tk_b (tl := tl) hp).2.2.2.1
  have P := dP_tp P P_hb12 f_hb12
  rw [q2] at P hp
  obtain ⟨S, O, H, HR, HP, FF⟩ := id P
  show lm_wp _ 44 19 [.ref 95, .ref 85, lm_jk, lm_jk, lm_jk, lm_jk, lm_jk, lm_jk] [.int (nI a0)] (hb12, hl, X) _
  refine w_N 3 22 [.ref 95, .ref 85, .int (nI a0), lm_jk, lm_jk, lm_jk, lm_jk, lm_jk] [.int (-1), .int (nI a0)] rfl ?_
  refine w_icmp_ne_t (t := 29) rfl rfl (nI_n1 (by omega)) ?_
  refine w_N 3 33 [.ref 95, .ref 85, .int (nI a0), lm_jk, lm_jk, lm_jk, lm_jk, lm_jk] [.int 7, .int 0, .ref 95] rfl ?_
  refine w_ca (w_vst rfl rfl rfl (Nat.le_of_ble_eq_true rfl) (Nat.le_of_ble_eq_true rfl) (A_k S 95 (by decide))) (t_numT (d := d + 17) S O.2 hts hp HP n2 (by decide)) ?_
  rintro _ _ ⟨hb13, rfl, rfl, P_hb13, f_hb13⟩
  rw [v2]
  have hp := (tk_b (tl := tl) hp).2.2.2.1
  have P := dP_tp P P_hb13 f_hb13
  rw [q3] at P hp
  obtain ⟨S, O, H, HR, HP, FF⟩ := id P
  show lm_wp _ 44 36 [.ref 95, .ref 85, .int (nI a0), lm_jk, lm_jk, lm_jk, lm_jk, lm_jk] [.int (nI a1)] (hb13, hl, X) _
  refine w_N 3 39 [.ref 95, .ref 85, .int (nI a0), .int (nI a1), lm_jk, lm_jk, lm_jk, lm_jk] [.int (-1), .int (nI a1)] rfl ?_
  refine w_icmp_ne_t (t := 46) rfl rfl (nI_n1 (by omega)) ?_
  refine w_N 3 49 [.ref 95, .ref 85, .int (nI a0), .int (nI a1), lm_jk, lm_jk, lm_jk, lm_jk] [.int 3, .int 0, .ref 95] rfl ?_
  refine w_ca (w_vst rfl rfl rfl (Nat.le_of_ble_eq_true rfl) (Nat.le_of_ble_eq_true rfl) (A_k S 95 (by decide))) (t_numT (d := d + 17) S O.2 hts hp HP n3 (by decide)) ?_
  rintro _ _ ⟨hb14, rfl, rfl, P_hb14, f_hb14⟩
  rw [v3]
  have hp := (tk_b (tl := tl) hp).2.2.2.1
  have P := dP_tp P P_hb14 f_hb14
  rw [q4] at P hp
  obtain ⟨S, O, H, HR, HP, FF⟩ := id P
  show lm_wp _ 44 52 [.ref 95, .ref 85, .int (nI a0), .int (nI a1), lm_jk, lm_jk, lm_jk, lm_jk] [.int (nI a2)] (hb14, hl, X) _
  refine w_N 3 57 [.ref 95, .ref 85, .int (nI a0), .int (nI a1), .int (nI a2), lm_jk, lm_jk, lm_jk] [.int (-1), .int (nI a2)] rfl ?_
  refine w_icmp_ne_t (t := 64) rfl rfl (nI_n1 (by omega)) ?_
  refine w_N 3 68 [.ref 95, .ref 85, .int (nI a0), .int (nI a1), .int (nI a2), lm_jk, lm_jk, lm_jk] [.int 9, .int 1, .ref 95] rfl ?_
  refine w_ca (w_vst rfl rfl rfl (Nat.le_of_ble_eq_true rfl) (Nat.le_of_ble_eq_true rfl) (A_k S 95 (by decide))) (t_numT (d := d + 17) S O.2 hts hp HP n4 (by decide)) ?_
  rintro _ _ ⟨hb15, rfl, rfl, P_hb15, f_hb15⟩
  rw [v4]
  have hp := (tk_b (tl := tl) hp).2.2.2.1
  have P := dP_tp P P_hb15 f_hb15
  rw [q5] at P hp
  obtain ⟨S, O, H, HR, HP, FF⟩ := id P
  show lm_wp _ 44 71 [.ref 95, .ref 85, .int (nI a0), .int (nI a1), .int (nI a2), lm_jk, lm_jk, lm_jk] [.int (nI a3)] (hb15, hl, X) _
  refine w_N 3 76 [.ref 95, .ref 85, .int (nI a0), .int (nI a1), .int (nI a2), .int (nI a3), lm_jk, lm_jk] [.int (-1), .int (nI a3)] rfl ?_
  refine w_icmp_ne_t (t := 83) rfl rfl (nI_n1 (by omega)) ?_
  refine w_N 2 86 [.ref 95, .ref 85, .int (nI a0), .int (nI a1), .int (nI a2), .int (nI a3), lm_jk, lm_jk] [.ref 2, .ref 95] rfl ?_
  refine w_ca (w_vst rfl rfl rfl (Nat.le_of_ble_eq_true rfl) (Nat.le_of_ble_eq_true rfl) (A_k S 95 (by decide))) (t_marks1 (d := d + 9) P hts hp) ?_
  rintro _ _ ⟨hm16, rfl, rfl, P⟩
  rw [if_neg (by rw [b1]; decide)]
  obtain ⟨S, O, H, HR, HP, FF⟩ := id P
  show lm_wp _ 44 89 [.ref 95, .ref 85, .int (nI a0), .int (nI a1), .int (nI a2), .int (nI a3), lm_jk, lm_jk] [.int (-1)] (hm16, hl, X) _
  refine w_N 3 94 [.ref 95, .ref 85, .int (nI a0), .int (nI a1), .int (nI a2), .int (nI a3), .int (-1), lm_jk] [.int (-1), .int (-1)] rfl ?_
  refine w_icmp_ne_f (t := 101) rfl rfl (by decide) ?_
  refine w_N 5 112 [.ref 95, .ref 85, .int (nI a0), .int (nI a1), .int (nI a2), .int (nI a3), .int (-1), .int (-1)] [.int (-1), .int (-1)] rfl ?_
  refine w_icmp_ne_f (t := 117) rfl rfl (by decide) ?_
  refine w_N 1 116 [.ref 95, .ref 85, .int (nI a0), .int (nI a1), .int (nI a2), .int (nI a3), .int (-1), .int (-1)] [.int 0] rfl ?_
  refine w_rz rfl rfl (by decide) ?_
  exact ⟨rfl, _, rfl, FF, HP.2.2.1⟩
theorem t_rActF6 {d : Nat} {hi : Nat → Nat → Int32} {hl : Nat → Nat → Int64} {X : lm_X} {hi0 : Nat → Nat → Int32} {T : lm_T} {n : Nat} {R : Nat → Int32} {tl : Nat → Int32} {ts p : Nat} (P : dP hi0 hi X T n R tl ts p) (hts : ts ≤ 250) (hp : p ≤ ts) {p1 p2 p3 p4 p5 : Nat} (q1 : tkE tl ts p = p1) (q2 : tkE tl ts p1 = p2) (q3 : tkE tl ts p2 = p3) (q4 : tkE tl ts p3 = p4) (q5 : tkE tl ts p4 = p5) (hn : n < 10) {a0 : Nat} (g0 : a0 ≤ 5) (n1 : nmO tl ts p1 0 5 = true) (v1 : fgI tl ts p1 = nI a0) {a1 : Nat} (g1 : a1 ≤ 7) (n2 : nmO tl ts p2 0 7 = true) (v2 : fgI tl ts p2 = nI a1) {a2 : Nat} (g2 : a2 ≤ 3) (n3 : nmO tl ts p3 0 3 = true) (v3 : fgI tl ts p3 = nI a2) {a3 : Nat} (g3 : 1 ≤ a3) (g3b : a3 ≤ 9) (n4 : nmO tl ts p4 1 9 = true) (v4 : fgI tl ts p4 = nI a3) {p6 e1 : Nat} (w1 : e1 < 256) (b1 : (mbS tl ts wL1 ts p5 0).1 = true) (d1 : (mbS tl ts wL1 ts p5 0).2.1 = nI e1) (q6 : (mbS tl ts wL1 ts p5 0).2.2 = p6) (b2 : (mbS tl ts wL2 ts p6 0).1 = false) : lm_w (d + 20) 44 [.ref 95, .ref 85] (hi, hl, X) (dF hi0 hl X (tkF tl ts (mbS tl ts wL2 ts p6 0).2.2)) := by
  obtain ⟨S, O, H, HR, HP, FF⟩ := id P
  refine lm_w_in (Nat.le_of_ble_eq_true rfl) ?_
  show lm_wp (d + 20) 44 0 [.ref 95, .ref 85, lm_jk, lm_jk, lm_jk, lm_jk, lm_jk, lm_jk] [] (hi, hl, X) _
  refine w_N 1 1 [.ref 95, .ref 85, lm_jk, lm_jk, lm_jk, lm_jk, lm_jk, lm_jk] [.ref 85] rfl ?_
  refine w_cc (w_vst rfl rfl rfl (Nat.le_of_ble_eq_true rfl) (Nat.le_of_ble_eq_true rfl) (T_kd (A_T85 S))) (lm_c_v (c_X6_isFull (A_T85 S)) (c_eqz (by have q : nI n < 10 := nI_lt (b := 10) hn (by decide); rw [isTn H]; simp [q]))) ?_
  show lm_wp _ 44 4 [.ref 95, .ref 85, lm_jk, lm_jk, lm_jk, lm_jk, lm_jk, lm_jk] [.int 0] (hi, hl, X) _
  refine w_if_eq_t (t := 9) rfl rfl (by decide) ?_
  refine w_N 1 10 [.ref 95, .ref 85, lm_jk, lm_jk, lm_jk, lm_jk, lm_jk, lm_jk] [.ref 95] rfl ?_
  refine w_ca (w_vst rfl rfl rfl (Nat.le_of_ble_eq_true rfl) (Nat.le_of_ble_eq_true rfl) (A_k S 95 (by decide))) (t_adv (d := d + 18) S hts HP.1 HP.2.1 (tk_b (tl := tl) hp).2.2.2.1 HP.2.2.2.1) ?_
  rintro _ _ ⟨ha17, rfl, rfl, P_ha17, f_ha17⟩
  have hp := (tk_b (tl := tl) hp).2.2.2.1
  have P := dP_tp P P_ha17 f_ha17
  rw [q1] at P hp
  obtain ⟨S, O, H, HR, HP, FF⟩ := id P
  show lm_wp _ 44 13 [.ref 95, .ref 85, lm_jk, lm_jk, lm_jk, lm_jk, lm_jk, lm_jk] [] (ha17, hl, X) _
  refine w_N 3 16 [.ref 95, .ref 85, lm_jk, lm_jk, lm_jk, lm_jk, lm_jk, lm_jk] [.int 5, .int 0, .ref 95] rfl ?_
  refine w_ca (w_vst rfl rfl rfl (Nat.le_of_ble_eq_true rfl) (Nat.le_of_ble_eq_true rfl) (A_k S 95 (by decide))) (t_numT (d := d + 17) S O.2 hts hp HP n1 (by decide)) ?_
  rintro _ _ ⟨hb18, rfl, rfl, P_hb18, f_hb18⟩
  rw [v1]
  have hp := (tk_b (tl := tl) hp).2.2.2.1
  have P := dP_tp P P_hb18 f_hb18
  rw [q2] at P hp
  obtain ⟨S, O, H, HR, HP, FF⟩ := id P
  show lm_wp _ 44 19 [.ref 95, .ref 85, lm_jk, lm_jk, lm_jk, lm_jk, lm_jk, lm_jk] [.int (nI a0)] (hb18, hl, X) _
  refine w_N 3 22 [.ref 95, .ref 85, .int (nI a0), lm_jk, lm_jk, lm_jk, lm_jk, lm_jk] [.int (-1), .int (nI a0)] rfl ?_
  refine w_icmp_ne_t (t := 29) rfl rfl (nI_n1 (by omega)) ?_
  refine w_N 3 33 [.ref 95, .ref 85, .int (nI a0), lm_jk, lm_jk, lm_jk, lm_jk, lm_jk] [.int 7, .int 0, .ref 95] rfl ?_
  refine w_ca (w_vst rfl rfl rfl (Nat.le_of_ble_eq_true rfl) (Nat.le_of_ble_eq_true rfl) (A_k S 95 (by decide))) (t_numT (d := d + 17) S O.2 hts hp HP n2 (by decide)) ?_
  rintro _ _ ⟨hb19, rfl, rfl, P_hb19, f_hb19⟩
  rw [v2]
  have hp := (tk_b (tl := tl) hp).2.2.2.1
  have P := dP_tp P P_hb19 f_hb19
  rw [q3] at P hp
  obtain ⟨S, O, H, HR, HP, FF⟩ := id P
  show lm_wp _ 44 36 [.ref 95, .ref 85, .int (nI a0), lm_jk, lm_jk, lm_jk, lm_jk, lm_jk] [.int (nI a1)] (hb19, hl, X) _
  refine w_N 3 39 [.ref 95, .ref 85, .int (nI a0), .int (nI a1), lm_jk, lm_jk, lm_jk, lm_jk] [.int (-1), .int (nI a1)] rfl ?_
  refine w_icmp_ne_t (t := 46) rfl rfl (nI_n1 (by omega)) ?_
  refine w_N 3 49 [.ref 95, .ref 85, .int (nI a0), .int (nI a1), lm_jk, lm_jk, lm_jk, lm_jk] [.int 3, .int 0, .ref 95] rfl ?_
  refine w_ca (w_vst rfl rfl rfl (Nat.le_of_ble_eq_true rfl) (Nat.le_of_ble_eq_true rfl) (A_k S 95 (by decide))) (t_numT (d := d + 17) S O.2 hts hp HP n3 (by decide)) ?_
  rintro _ _ ⟨hb20, rfl, rfl, P_hb20, f_hb20⟩
  rw [v3]
  have hp := (tk_b (tl := tl) hp).2.2.2.1
  have P := dP_tp P P_hb20 f_hb20
  rw [q4] at P hp
  obtain ⟨S, O, H, HR, HP, FF⟩ := id P
  show lm_wp _ 44 52 [.ref 95, .ref 85, .int (nI a0), .int (nI a1), lm_jk, lm_jk, lm_jk, lm_jk] [.int (nI a2)] (hb20, hl, X) _
  refine w_N 3 57 [.ref 95, .ref 85, .int (nI a0), .int (nI a1), .int (nI a2), lm_jk, lm_jk, lm_jk] [.int (-1), .int (nI a2)] rfl ?_
  refine w_icmp_ne_t (t := 64) rfl rfl (nI_n1 (by omega)) ?_
  refine w_N 3 68 [.ref 95, .ref 85, .int (nI a0), .int (nI a1), .int (nI a2), lm_jk, lm_jk, lm_jk] [.int 9, .int 1, .ref 95] rfl ?_
  refine w_ca (w_vst rfl rfl rfl (Nat.le_of_ble_eq_true rfl) (Nat.le_of_ble_eq_true rfl) (A_k S 95 (by decide))) (t_numT (d := d + 17) S O.2 hts hp HP n4 (by decide)) ?_
  rintro _ _ ⟨hb21, rfl, rfl, P_hb21, f_hb21⟩
  rw [v4]
  have hp := (tk_b (tl := tl) hp).2.2.2.1
  have P := dP_tp P P_hb21 f_hb21
  rw [q5] at P hp
  obtain ⟨S, O, H, HR, HP, FF⟩ := id P
  show lm_wp _ 44 71 [.ref 95, .ref 85, .int (nI a0), .int (nI a1), .int (nI a2), lm_jk, lm_jk, lm_jk] [.int (nI a3)] (hb21, hl, X) _
  refine w_N 3 76 [.ref 95, .ref 85, .int (nI a0), .int (nI a1), .int (nI a2), .int (nI a3), lm_jk, lm_jk] [.int (-1), .int (nI a3)] rfl ?_
  refine w_icmp_ne_t (t := 83) rfl rfl (nI_n1 (by omega)) ?_
  refine w_N 2 86 [.ref 95, .ref 85, .int (nI a0), .int (nI a1), .int (nI a2), .int (nI a3), lm_jk, lm_jk] [.ref 2, .ref 95] rfl ?_
  refine w_ca (w_vst rfl rfl rfl (Nat.le_of_ble_eq_true rfl) (Nat.le_of_ble_eq_true rfl) (A_k S 95 (by decide))) (t_marks1 (d := d + 9) P hts hp) ?_
  rintro _ _ ⟨hm22, rfl, rfl, P⟩
  rw [if_pos b1, d1]
  have hp := mb_le (tl := tl) (wL := wL1) p5 hp
  rw [q6] at hp
  rw [q6] at P
  obtain ⟨S, O, H, HR, HP, FF⟩ := id P
  show lm_wp _ 44 89 [.ref 95, .ref 85, .int (nI a0), .int (nI a1), .int (nI a2), .int (nI a3), lm_jk, lm_jk] [.int (nI e1)] (hm22, hl, X) _
  refine w_N 3 94 [.ref 95, .ref 85, .int (nI a0), .int (nI a1), .int (nI a2), .int (nI a3), .int (nI e1), lm_jk] [.int (-1), .int (nI e1)] rfl ?_
  refine w_icmp_ne_t (t := 101) rfl rfl (nI_n1 (by omega)) ?_
  refine w_N 2 104 [.ref 95, .ref 85, .int (nI a0), .int (nI a1), .int (nI a2), .int (nI a3), .int (nI e1), lm_jk] [.ref 3, .ref 95] rfl ?_
  refine w_ca (w_vst rfl rfl rfl (Nat.le_of_ble_eq_true rfl) (Nat.le_of_ble_eq_true rfl) (A_k S 95 (by decide))) (t_marks2 (d := d + 9) P hts hp) ?_
  rintro _ _ ⟨hm23, rfl, rfl, P⟩
  rw [if_neg (by rw [b2]; decide)]
  obtain ⟨S, O, H, HR, HP, FF⟩ := id P
  show lm_wp _ 44 107 [.ref 95, .ref 85, .int (nI a0), .int (nI a1), .int (nI a2), .int (nI a3), .int (nI e1), lm_jk] [.int (-1)] (hm23, hl, X) _
  refine w_N 3 112 [.ref 95, .ref 85, .int (nI a0), .int (nI a1), .int (nI a2), .int (nI a3), .int (nI e1), .int (-1)] [.int (-1), .int (-1)] rfl ?_
  refine w_icmp_ne_f (t := 117) rfl rfl (by decide) ?_
  refine w_N 1 116 [.ref 95, .ref 85, .int (nI a0), .int (nI a1), .int (nI a2), .int (nI a3), .int (nI e1), .int (-1)] [.int 0] rfl ?_
  refine w_rz rfl rfl (by decide) ?_
  exact ⟨rfl, _, rfl, FF, HP.2.2.1⟩
theorem t_rActT {d : Nat} {hi : Nat → Nat → Int32} {hl : Nat → Nat → Int64} {X : lm_X} {hi0 : Nat → Nat → Int32} {T : lm_T} {n : Nat} {R : Nat → Int32} {tl : Nat → Int32} {ts p : Nat} (P : dP hi0 hi X T n R tl ts p) (hts : ts ≤ 250) (hp : p ≤ ts) {p1 p2 p3 p4 p5 : Nat} (q1 : tkE tl ts p = p1) (q2 : tkE tl ts p1 = p2) (q3 : tkE tl ts p2 = p3) (q4 : tkE tl ts p3 = p4) (q5 : tkE tl ts p4 = p5) (hn : n < 10) {a0 : Nat} (g0 : a0 ≤ 5) (n1 : nmO tl ts p1 0 5 = true) (v1 : fgI tl ts p1 = nI a0) {a1 : Nat} (g1 : a1 ≤ 7) (n2 : nmO tl ts p2 0 7 = true) (v2 : fgI tl ts p2 = nI a1) {a2 : Nat} (g2 : a2 ≤ 3) (n3 : nmO tl ts p3 0 3 = true) (v3 : fgI tl ts p3 = nI a2) {a3 : Nat} (g3 : 1 ≤ a3) (g3b : a3 ≤ 9) (n4 : nmO tl ts p4 1 9 = true) (v4 : fgI tl ts p4 = nI a3) {p6 e1 : Nat} (w1 : e1 < 256) (b1 : (mbS tl ts wL1 ts p5 0).1 = true) (d1 : (mbS tl ts wL1 ts p5 0).2.1 = nI e1) (q6 : (mbS tl ts wL1 ts p5 0).2.2 = p6) {p7 e2 : Nat} (w2 : e2 < 256) (b2 : (mbS tl ts wL2 ts p6 0).1 = true) (d2 : (mbS tl ts wL2 ts p6 0).2.1 = nI e2) (q7 : (mbS tl ts wL2 ts p6 0).2.2 = p7) : lm_w (d + 20) 44 [.ref 95, .ref 85] (hi, hl, X) (dT hi0 hl X (adT T n (nI a0) (nI a1) (nI a2) (nI a3) (nI e1) (nI e2)) (n + 1) R tl ts p7) := by
  obtain ⟨S, O, H, HR, HP, FF⟩ := id P
  refine lm_w_in (Nat.le_of_ble_eq_true rfl) ?_
  show lm_wp (d + 20) 44 0 [.ref 95, .ref 85, lm_jk, lm_jk, lm_jk, lm_jk, lm_jk, lm_jk] [] (hi, hl, X) _
  refine w_N 1 1 [.ref 95, .ref 85, lm_jk, lm_jk, lm_jk, lm_jk, lm_jk, lm_jk] [.ref 85] rfl ?_
  refine w_cc (w_vst rfl rfl rfl (Nat.le_of_ble_eq_true rfl) (Nat.le_of_ble_eq_true rfl) (T_kd (A_T85 S))) (lm_c_v (c_X6_isFull (A_T85 S)) (c_eqz (by have q : nI n < 10 := nI_lt (b := 10) hn (by decide); rw [isTn H]; simp [q]))) ?_
  show lm_wp _ 44 4 [.ref 95, .ref 85, lm_jk, lm_jk, lm_jk, lm_jk, lm_jk, lm_jk] [.int 0] (hi, hl, X) _
  refine w_if_eq_t (t := 9) rfl rfl (by decide) ?_
  refine w_N 1 10 [.ref 95, .ref 85, lm_jk, lm_jk, lm_jk, lm_jk, lm_jk, lm_jk] [.ref 95] rfl ?_
  refine w_ca (w_vst rfl rfl rfl (Nat.le_of_ble_eq_true rfl) (Nat.le_of_ble_eq_true rfl) (A_k S 95 (by decide))) (t_adv (d := d + 18) S hts HP.1 HP.2.1 (tk_b (tl := tl) hp).2.2.2.1 HP.2.2.2.1) ?_
  rintro _ _ ⟨ha24, rfl, rfl, P_ha24, f_ha24⟩
  have hp := (tk_b (tl := tl) hp).2.2.2.1
  have P := dP_tp P P_ha24 f_ha24
  rw [q1] at P hp
  obtain ⟨S, O, H, HR, HP, FF⟩ := id P
  show lm_wp _ 44 13 [.ref 95, .ref 85, lm_jk, lm_jk, lm_jk, lm_jk, lm_jk, lm_jk] [] (ha24, hl, X) _
  refine w_N 3 16 [.ref 95, .ref 85, lm_jk, lm_jk, lm_jk, lm_jk, lm_jk, lm_jk] [.int 5, .int 0, .ref 95] rfl ?_
  refine w_ca (w_vst rfl rfl rfl (Nat.le_of_ble_eq_true rfl) (Nat.le_of_ble_eq_true rfl) (A_k S 95 (by decide))) (t_numT (d := d + 17) S O.2 hts hp HP n1 (by decide)) ?_
  rintro _ _ ⟨hb25, rfl, rfl, P_hb25, f_hb25⟩
  rw [v1]
  have hp := (tk_b (tl := tl) hp).2.2.2.1
  have P := dP_tp P P_hb25 f_hb25
  rw [q2] at P hp
  obtain ⟨S, O, H, HR, HP, FF⟩ := id P
  show lm_wp _ 44 19 [.ref 95, .ref 85, lm_jk, lm_jk, lm_jk, lm_jk, lm_jk, lm_jk] [.int (nI a0)] (hb25, hl, X) _
  refine w_N 3 22 [.ref 95, .ref 85, .int (nI a0), lm_jk, lm_jk, lm_jk, lm_jk, lm_jk] [.int (-1), .int (nI a0)] rfl ?_
  refine w_icmp_ne_t (t := 29) rfl rfl (nI_n1 (by omega)) ?_
  refine w_N 3 33 [.ref 95, .ref 85, .int (nI a0), lm_jk, lm_jk, lm_jk, lm_jk, lm_jk] [.int 7, .int 0, .ref 95] rfl ?_
  refine w_ca (w_vst rfl rfl rfl (Nat.le_of_ble_eq_true rfl) (Nat.le_of_ble_eq_true rfl) (A_k S 95 (by decide))) (t_numT (d := d + 17) S O.2 hts hp HP n2 (by decide)) ?_
  rintro _ _ ⟨hb26, rfl, rfl, P_hb26, f_hb26⟩
  rw [v2]
  have hp := (tk_b (tl := tl) hp).2.2.2.1
  have P := dP_tp P P_hb26 f_hb26
  rw [q3] at P hp
  obtain ⟨S, O, H, HR, HP, FF⟩ := id P
  show lm_wp _ 44 36 [.ref 95, .ref 85, .int (nI a0), lm_jk, lm_jk, lm_jk, lm_jk, lm_jk] [.int (nI a1)] (hb26, hl, X) _
  refine w_N 3 39 [.ref 95, .ref 85, .int (nI a0), .int (nI a1), lm_jk, lm_jk, lm_jk, lm_jk] [.int (-1), .int (nI a1)] rfl ?_
  refine w_icmp_ne_t (t := 46) rfl rfl (nI_n1 (by omega)) ?_
  refine w_N 3 49 [.ref 95, .ref 85, .int (nI a0), .int (nI a1), lm_jk, lm_jk, lm_jk, lm_jk] [.int 3, .int 0, .ref 95] rfl ?_
  refine w_ca (w_vst rfl rfl rfl (Nat.le_of_ble_eq_true rfl) (Nat.le_of_ble_eq_true rfl) (A_k S 95 (by decide))) (t_numT (d := d + 17) S O.2 hts hp HP n3 (by decide)) ?_
  rintro _ _ ⟨hb27, rfl, rfl, P_hb27, f_hb27⟩
  rw [v3]
  have hp := (tk_b (tl := tl) hp).2.2.2.1
  have P := dP_tp P P_hb27 f_hb27
  rw [q4] at P hp
  obtain ⟨S, O, H, HR, HP, FF⟩ := id P
  show lm_wp _ 44 52 [.ref 95, .ref 85, .int (nI a0), .int (nI a1), lm_jk, lm_jk, lm_jk, lm_jk] [.int (nI a2)] (hb27, hl, X) _
  refine w_N 3 57 [.ref 95, .ref 85, .int (nI a0), .int (nI a1), .int (nI a2), lm_jk, lm_jk, lm_jk] [.int (-1), .int (nI a2)] rfl ?_
  refine w_icmp_ne_t (t := 64) rfl rfl (nI_n1 (by omega)) ?_
  refine w_N 3 68 [.ref 95, .ref 85, .int (nI a0), .int (nI a1), .int (nI a2), lm_jk, lm_jk, lm_jk] [.int 9, .int 1, .ref 95] rfl ?_
  refine w_ca (w_vst rfl rfl rfl (Nat.le_of_ble_eq_true rfl) (Nat.le_of_ble_eq_true rfl) (A_k S 95 (by decide))) (t_numT (d := d + 17) S O.2 hts hp HP n4 (by decide)) ?_
  rintro _ _ ⟨hb28, rfl, rfl, P_hb28, f_hb28⟩
  rw [v4]
  have hp := (tk_b (tl := tl) hp).2.2.2.1
  have P := dP_tp P P_hb28 f_hb28
  rw [q5] at P hp
  obtain ⟨S, O, H, HR, HP, FF⟩ := id P
  show lm_wp _ 44 71 [.ref 95, .ref 85, .int (nI a0), .int (nI a1), .int (nI a2), lm_jk, lm_jk, lm_jk] [.int (nI a3)] (hb28, hl, X) _
  refine w_N 3 76 [.ref 95, .ref 85, .int (nI a0), .int (nI a1), .int (nI a2), .int (nI a3), lm_jk, lm_jk] [.int (-1), .int (nI a3)] rfl ?_
  refine w_icmp_ne_t (t := 83) rfl rfl (nI_n1 (by omega)) ?_
  refine w_N 2 86 [.ref 95, .ref 85, .int (nI a0), .int (nI a1), .int (nI a2), .int (nI a3), lm_jk, lm_jk] [.ref 2, .ref 95] rfl ?_
  refine w_ca (w_vst rfl rfl rfl (Nat.le_of_ble_eq_true rfl) (Nat.le_of_ble_eq_true rfl) (A_k S 95 (by decide))) (t_marks1 (d := d + 9) P hts hp) ?_
  rintro _ _ ⟨hm29, rfl, rfl, P⟩
  rw [if_pos b1, d1]
  have hp := mb_le (tl := tl) (wL := wL1) p5 hp
  rw [q6] at hp
  rw [q6] at P
  obtain ⟨S, O, H, HR, HP, FF⟩ := id P
  show lm_wp _ 44 89 [.ref 95, .ref 85, .int (nI a0), .int (nI a1), .int (nI a2), .int (nI a3), lm_jk, lm_jk] [.int (nI e1)] (hm29, hl, X) _
  refine w_N 3 94 [.ref 95, .ref 85, .int (nI a0), .int (nI a1), .int (nI a2), .int (nI a3), .int (nI e1), lm_jk] [.int (-1), .int (nI e1)] rfl ?_
  refine w_icmp_ne_t (t := 101) rfl rfl (nI_n1 (by omega)) ?_
  refine w_N 2 104 [.ref 95, .ref 85, .int (nI a0), .int (nI a1), .int (nI a2), .int (nI a3), .int (nI e1), lm_jk] [.ref 3, .ref 95] rfl ?_
  refine w_ca (w_vst rfl rfl rfl (Nat.le_of_ble_eq_true rfl) (Nat.le_of_ble_eq_true rfl) (A_k S 95 (by decide))) (t_marks2 (d := d + 9) P hts hp) ?_
  rintro _ _ ⟨hm30, rfl, rfl, P⟩
  rw [if_pos b2, d2]
  have hp := mb_le (tl := tl) (wL := wL2) p6 hp
  rw [q7] at hp
  rw [q7] at P
  obtain ⟨S, O, H, HR, HP, FF⟩ := id P
  show lm_wp _ 44 107 [.ref 95, .ref 85, .int (nI a0), .int (nI a1), .int (nI a2), .int (nI a3), .int (nI e1), lm_jk] [.int (nI e2)] (hm30, hl, X) _
  refine w_N 3 112 [.ref 95, .ref 85, .int (nI a0), .int (nI a1), .int (nI a2), .int (nI a3), .int (nI e1), .int (nI e2)] [.int (-1), .int (nI e2)] rfl ?_
  refine w_icmp_ne_t (t := 117) rfl rfl (nI_n1 (by omega)) ?_
  refine w_N 7 128 [.ref 95, .ref 85, .int (nI a0), .int (nI a1), .int (nI a2), .int (nI a3), .int (nI e1), .int (nI e2)] [.int (nI e2), .int (nI e1), .int (nI a3), .int (nI a2), .int (nI a1), .int (nI a0), .ref 85] rfl ?_
  refine w_ca (w_vst rfl rfl rfl (Nat.le_of_ble_eq_true rfl) (Nat.le_of_ble_eq_true rfl) (T_kd (A_T85 S))) (t_addAct (d := d + 19) (A_T85 S) H HR hn) ?_
  rintro _ _ ⟨h9x, rfl, rfl, H9, R9, c9, f9⟩
  have P := dP_town P f9 H9 R9
  show lm_wp _ 44 131 [.ref 95, .ref 85, .int (nI a0), .int (nI a1), .int (nI a2), .int (nI a3), .int (nI e1), .int (nI e2)] [.int (nI n)] (h9x, hl, X) _
  refine w_N 2 133 [.ref 95, .ref 85, .int (nI a0), .int (nI a1), .int (nI a2), .int (nI a3), .int (nI e1), .int (nI e2)] [.int 1] rfl ?_
  refine w_rz rfl rfl (by decide) ?_
  exact ⟨rfl, _, rfl, P⟩
theorem t_rs0 {d : Nat} {hi : Nat → Nat → Int32} {hl : Nat → Nat → Int64} {X : lm_X} {hi0 : Nat → Nat → Int32} {T : lm_T} {n : Nat} {R : Nat → Int32} {tl : Nat → Int32} {ts p : Nat} (P : dP hi0 hi X T n R tl ts p) (hts : ts ≤ 250) (hp : p ≤ ts)  (w0 : wdq tl ts p wL0 = true) {Po : Bool → lm_H → Prop} (hs : lm_w (d + 29) 44 [.ref 95, .ref 85] (hi, hl, X) (fun v h1 => ∃ b, v = some (.int (bz b)) ∧ Po b h1)) : lm_w (d + 30) 43 [.ref 95, .ref 85] (hi, hl, X) (fun v h1 => ∃ b, v = some (.int (bz b)) ∧ Po b h1) := by
  obtain ⟨S, O, H, HR, HP, FF⟩ := id P
  refine lm_w_in (Nat.le_of_ble_eq_true rfl) ?_
  show lm_wp (d + 30) 43 0 [.ref 95, .ref 85] [] (hi, hl, X) _
  refine w_N 2 3 [.ref 95, .ref 85] [.ref 1, .ref 95] rfl ?_
  refine w_cc (w_vst rfl rfl rfl (Nat.le_of_ble_eq_true rfl) (Nat.le_of_ble_eq_true rfl) (A_k S 95 (by decide))) (lm_c_1 (t_isWord0 (d := d + 27) S O.2 hts hp HP) w0) ?_
  show lm_wp _ 43 6 [.ref 95, .ref 85] [.int 1] (hi, hl, X) _
  refine w_if_eq_f (t := 15) rfl rfl (by decide) ?_
  refine w_N 2 11 [.ref 95, .ref 85] [.ref 85, .ref 95] rfl ?_
  refine w_ca (w_vst rfl rfl rfl (Nat.le_of_ble_eq_true rfl) (Nat.le_of_ble_eq_true rfl) (A_k S 95 (by decide))) hs ?_
  rintro _ h1 ⟨b, rfl, q⟩
  show lm_wp _ 43 14 [.ref 95, .ref 85] [.int (bz b)] h1 _
  refine w_rz rfl rfl (bz_or _) ?_
  exact ⟨b, rfl, q⟩
theorem t_rs3 {d : Nat} {hi : Nat → Nat → Int32} {hl : Nat → Nat → Int64} {X : lm_X} {hi0 : Nat → Nat → Int32} {T : lm_T} {n : Nat} {R : Nat → Int32} {tl : Nat → Int32} {ts p : Nat} (P : dP hi0 hi X T n R tl ts p) (hts : ts ≤ 250) (hp : p ≤ ts) (w0 : wdq tl ts p wL0 = false) (w3 : wdq tl ts p wL3 = true) {Po : Bool → lm_H → Prop} (hs : lm_w (d + 29) 46 [.ref 95, .ref 85] (hi, hl, X) (fun v h1 => ∃ b, v = some (.int (bz b)) ∧ Po b h1)) : lm_w (d + 30) 43 [.ref 95, .ref 85] (hi, hl, X) (fun v h1 => ∃ b, v = some (.int (bz b)) ∧ Po b h1) := by
  obtain ⟨S, O, H, HR, HP, FF⟩ := id P
  refine lm_w_in (Nat.le_of_ble_eq_true rfl) ?_
  show lm_wp (d + 30) 43 0 [.ref 95, .ref 85] [] (hi, hl, X) _
  refine w_N 2 3 [.ref 95, .ref 85] [.ref 1, .ref 95] rfl ?_
  refine w_cc (w_vst rfl rfl rfl (Nat.le_of_ble_eq_true rfl) (Nat.le_of_ble_eq_true rfl) (A_k S 95 (by decide))) (lm_c_v (t_isWord0 (d := d + 27) S O.2 hts hp HP) (c_eqz w0)) ?_
  show lm_wp _ 43 6 [.ref 95, .ref 85] [.int 0] (hi, hl, X) _
  refine w_if_eq_t (t := 15) rfl rfl (by decide) ?_
  refine w_N 2 18 [.ref 95, .ref 85] [.ref 4, .ref 95] rfl ?_
  refine w_cc (w_vst rfl rfl rfl (Nat.le_of_ble_eq_true rfl) (Nat.le_of_ble_eq_true rfl) (A_k S 95 (by decide))) (lm_c_1 (t_isWord3 (d := d + 27) S O.2 hts hp HP) w3) ?_
  show lm_wp _ 43 21 [.ref 95, .ref 85] [.int 1] (hi, hl, X) _
  refine w_if_eq_f (t := 30) rfl rfl (by decide) ?_
  refine w_N 2 26 [.ref 95, .ref 85] [.ref 85, .ref 95] rfl ?_
  refine w_ca (w_vst rfl rfl rfl (Nat.le_of_ble_eq_true rfl) (Nat.le_of_ble_eq_true rfl) (A_k S 95 (by decide))) hs ?_
  rintro _ h1 ⟨b, rfl, q⟩
  show lm_wp _ 43 29 [.ref 95, .ref 85] [.int (bz b)] h1 _
  refine w_rz rfl rfl (bz_or _) ?_
  exact ⟨b, rfl, q⟩
theorem t_rs4 {d : Nat} {hi : Nat → Nat → Int32} {hl : Nat → Nat → Int64} {X : lm_X} {hi0 : Nat → Nat → Int32} {T : lm_T} {n : Nat} {R : Nat → Int32} {tl : Nat → Int32} {ts p : Nat} (P : dP hi0 hi X T n R tl ts p) (hts : ts ≤ 250) (hp : p ≤ ts) (w0 : wdq tl ts p wL0 = false) (w3 : wdq tl ts p wL3 = false) (w4 : wdq tl ts p wL4 = true) {Po : Bool → lm_H → Prop} (hs : lm_w (d + 29) 47 [.ref 95, .ref 85] (hi, hl, X) (fun v h1 => ∃ b, v = some (.int (bz b)) ∧ Po b h1)) : lm_w (d + 30) 43 [.ref 95, .ref 85] (hi, hl, X) (fun v h1 => ∃ b, v = some (.int (bz b)) ∧ Po b h1) := by
  obtain ⟨S, O, H, HR, HP, FF⟩ := id P
  refine lm_w_in (Nat.le_of_ble_eq_true rfl) ?_
  show lm_wp (d + 30) 43 0 [.ref 95, .ref 85] [] (hi, hl, X) _
  refine w_N 2 3 [.ref 95, .ref 85] [.ref 1, .ref 95] rfl ?_
  refine w_cc (w_vst rfl rfl rfl (Nat.le_of_ble_eq_true rfl) (Nat.le_of_ble_eq_true rfl) (A_k S 95 (by decide))) (lm_c_v (t_isWord0 (d := d + 27) S O.2 hts hp HP) (c_eqz w0)) ?_
  show lm_wp _ 43 6 [.ref 95, .ref 85] [.int 0] (hi, hl, X) _
  refine w_if_eq_t (t := 15) rfl rfl (by decide) ?_
  refine w_N 2 18 [.ref 95, .ref 85] [.ref 4, .ref 95] rfl ?_
  refine w_cc (w_vst rfl rfl rfl (Nat.le_of_ble_eq_true rfl) (Nat.le_of_ble_eq_true rfl) (A_k S 95 (by decide))) (lm_c_v (t_isWord3 (d := d + 27) S O.2 hts hp HP) (c_eqz w3)) ?_
  show lm_wp _ 43 21 [.ref 95, .ref 85] [.int 0] (hi, hl, X) _
  refine w_if_eq_t (t := 30) rfl rfl (by decide) ?_
  refine w_N 2 33 [.ref 95, .ref 85] [.ref 5, .ref 95] rfl ?_
  refine w_cc (w_vst rfl rfl rfl (Nat.le_of_ble_eq_true rfl) (Nat.le_of_ble_eq_true rfl) (A_k S 95 (by decide))) (lm_c_1 (t_isWord4 (d := d + 27) S O.2 hts hp HP) w4) ?_
  show lm_wp _ 43 36 [.ref 95, .ref 85] [.int 1] (hi, hl, X) _
  refine w_if_eq_f (t := 45) rfl rfl (by decide) ?_
  refine w_N 2 41 [.ref 95, .ref 85] [.ref 85, .ref 95] rfl ?_
  refine w_ca (w_vst rfl rfl rfl (Nat.le_of_ble_eq_true rfl) (Nat.le_of_ble_eq_true rfl) (A_k S 95 (by decide))) hs ?_
  rintro _ h1 ⟨b, rfl, q⟩
  show lm_wp _ 43 44 [.ref 95, .ref 85] [.int (bz b)] h1 _
  refine w_rz rfl rfl (bz_or _) ?_
  exact ⟨b, rfl, q⟩
theorem t_rs5 {d : Nat} {hi : Nat → Nat → Int32} {hl : Nat → Nat → Int64} {X : lm_X} {hi0 : Nat → Nat → Int32} {T : lm_T} {n : Nat} {R : Nat → Int32} {tl : Nat → Int32} {ts p : Nat} (P : dP hi0 hi X T n R tl ts p) (hts : ts ≤ 250) (hp : p ≤ ts) (w0 : wdq tl ts p wL0 = false) (w3 : wdq tl ts p wL3 = false) (w4 : wdq tl ts p wL4 = false) (w5 : wdq tl ts p wL5 = true) {Po : Bool → lm_H → Prop} (hs : lm_w (d + 29) 48 [.ref 95, .ref 85, .int 1] (hi, hl, X) (fun v h1 => ∃ b, v = some (.int (bz b)) ∧ Po b h1)) : lm_w (d + 30) 43 [.ref 95, .ref 85] (hi, hl, X) (fun v h1 => ∃ b, v = some (.int (bz b)) ∧ Po b h1) := by
  obtain ⟨S, O, H, HR, HP, FF⟩ := id P
  refine lm_w_in (Nat.le_of_ble_eq_true rfl) ?_
  show lm_wp (d + 30) 43 0 [.ref 95, .ref 85] [] (hi, hl, X) _
  refine w_N 2 3 [.ref 95, .ref 85] [.ref 1, .ref 95] rfl ?_
  refine w_cc (w_vst rfl rfl rfl (Nat.le_of_ble_eq_true rfl) (Nat.le_of_ble_eq_true rfl) (A_k S 95 (by decide))) (lm_c_v (t_isWord0 (d := d + 27) S O.2 hts hp HP) (c_eqz w0)) ?_
  show lm_wp _ 43 6 [.ref 95, .ref 85] [.int 0] (hi, hl, X) _
  refine w_if_eq_t (t := 15) rfl rfl (by decide) ?_
  refine w_N 2 18 [.ref 95, .ref 85] [.ref 4, .ref 95] rfl ?_
  refine w_cc (w_vst rfl rfl rfl (Nat.le_of_ble_eq_true rfl) (Nat.le_of_ble_eq_true rfl) (A_k S 95 (by decide))) (lm_c_v (t_isWord3 (d := d + 27) S O.2 hts hp HP) (c_eqz w3)) ?_
  show lm_wp _ 43 21 [.ref 95, .ref 85] [.int 0] (hi, hl, X) _
  refine w_if_eq_t (t := 30) rfl rfl (by decide) ?_
  refine w_N 2 33 [.ref 95, .ref 85] [.ref 5, .ref 95] rfl ?_
  refine w_cc (w_vst rfl rfl rfl (Nat.le_of_ble_eq_true rfl) (Nat.le_of_ble_eq_true rfl) (A_k S 95 (by decide))) (lm_c_v (t_isWord4 (d := d + 27) S O.2 hts hp HP) (c_eqz w4)) ?_
  show lm_wp _ 43 36 [.ref 95, .ref 85] [.int 0] (hi, hl, X) _
  refine w_if_eq_t (t := 45) rfl rfl (by decide) ?_
  refine w_N 2 48 [.ref 95, .ref 85] [.ref 6, .ref 95] rfl ?_
  refine w_cc (w_vst rfl rfl rfl (Nat.le_of_ble_eq_true rfl) (Nat.le_of_ble_eq_true rfl) (A_k S 95 (by decide))) (lm_c_1 (t_isWord5 (d := d + 27) S O.2 hts hp HP) w5) ?_
  show lm_wp _ 43 51 [.ref 95, .ref 85] [.int 1] (hi, hl, X) _
  refine w_if_eq_f (t := 61) rfl rfl (by decide) ?_
  refine w_N 3 57 [.ref 95, .ref 85] [.int 1, .ref 85, .ref 95] rfl ?_
  refine w_ca (w_vst rfl rfl rfl (Nat.le_of_ble_eq_true rfl) (Nat.le_of_ble_eq_true rfl) (A_k S 95 (by decide))) hs ?_
  rintro _ h1 ⟨b, rfl, q⟩
  show lm_wp _ 43 60 [.ref 95, .ref 85] [.int (bz b)] h1 _
  refine w_rz rfl rfl (bz_or _) ?_
  exact ⟨b, rfl, q⟩
theorem t_rs6 {d : Nat} {hi : Nat → Nat → Int32} {hl : Nat → Nat → Int64} {X : lm_X} {hi0 : Nat → Nat → Int32} {T : lm_T} {n : Nat} {R : Nat → Int32} {tl : Nat → Int32} {ts p : Nat} (P : dP hi0 hi X T n R tl ts p) (hts : ts ≤ 250) (hp : p ≤ ts) (w0 : wdq tl ts p wL0 = false) (w3 : wdq tl ts p wL3 = false) (w4 : wdq tl ts p wL4 = false) (w5 : wdq tl ts p wL5 = false) (w6 : wdq tl ts p wL6 = true) {Po : Bool → lm_H → Prop} (hs : lm_w (d + 29) 48 [.ref 95, .ref 85, .int (-1)] (hi, hl, X) (fun v h1 => ∃ b, v = some (.int (bz b)) ∧ Po b h1)) : lm_w (d + 30) 43 [.ref 95, .ref 85] (hi, hl, X) (fun v h1 => ∃ b, v = some (.int (bz b)) ∧ Po b h1) := by
  obtain ⟨S, O, H, HR, HP, FF⟩ := id P
  refine lm_w_in (Nat.le_of_ble_eq_true rfl) ?_
  show lm_wp (d + 30) 43 0 [.ref 95, .ref 85] [] (hi, hl, X) _
  refine w_N 2 3 [.ref 95, .ref 85] [.ref 1, .ref 95] rfl ?_
  refine w_cc (w_vst rfl rfl rfl (Nat.le_of_ble_eq_true rfl) (Nat.le_of_ble_eq_true rfl) (A_k S 95 (by decide))) (lm_c_v (t_isWord0 (d := d + 27) S O.2 hts hp HP) (c_eqz w0)) ?_
  show lm_wp _ 43 6 [.ref 95, .ref 85] [.int 0] (hi, hl, X) _
  refine w_if_eq_t (t := 15) rfl rfl (by decide) ?_
  refine w_N 2 18 [.ref 95, .ref 85] [.ref 4, .ref 95] rfl ?_
  refine w_cc (w_vst rfl rfl rfl (Nat.le_of_ble_eq_true rfl) (Nat.le_of_ble_eq_true rfl) (A_k S 95 (by decide))) (lm_c_v (t_isWord3 (d := d + 27) S O.2 hts hp HP) (c_eqz w3)) ?_
  show lm_wp _ 43 21 [.ref 95, .ref 85] [.int 0] (hi, hl, X) _
  refine w_if_eq_t (t := 30) rfl rfl (by decide) ?_
  refine w_N 2 33 [.ref 95, .ref 85] [.ref 5, .ref 95] rfl ?_
  refine w_cc (w_vst rfl rfl rfl (Nat.le_of_ble_eq_true rfl) (Nat.le_of_ble_eq_true rfl) (A_k S 95 (by decide))) (lm_c_v (t_isWord4 (d := d + 27) S O.2 hts hp HP) (c_eqz w4)) ?_
  show lm_wp _ 43 36 [.ref 95, .ref 85] [.int 0] (hi, hl, X) _
  refine w_if_eq_t (t := 45) rfl rfl (by decide) ?_
  refine w_N 2 48 [.ref 95, .ref 85] [.ref 6, .ref 95] rfl ?_
  refine w_cc (w_vst rfl rfl rfl (Nat.le_of_ble_eq_true rfl) (Nat.le_of_ble_eq_true rfl) (A_k S 95 (by decide))) (lm_c_v (t_isWord5 (d := d + 27) S O.2 hts hp HP) (c_eqz w5)) ?_
  show lm_wp _ 43 51 [.ref 95, .ref 85] [.int 0] (hi, hl, X) _
  refine w_if_eq_t (t := 61) rfl rfl (by decide) ?_
  refine w_N 2 64 [.ref 95, .ref 85] [.ref 7, .ref 95] rfl ?_
  refine w_cc (w_vst rfl rfl rfl (Nat.le_of_ble_eq_true rfl) (Nat.le_of_ble_eq_true rfl) (A_k S 95 (by decide))) (lm_c_1 (t_isWord6 (d := d + 27) S O.2 hts hp HP) w6) ?_
  show lm_wp _ 43 67 [.ref 95, .ref 85] [.int 1] (hi, hl, X) _
  refine w_if_eq_f (t := 77) rfl rfl (by decide) ?_
  refine w_N 3 73 [.ref 95, .ref 85] [.int (-1), .ref 85, .ref 95] rfl ?_
  refine w_ca (w_vst rfl rfl rfl (Nat.le_of_ble_eq_true rfl) (Nat.le_of_ble_eq_true rfl) (A_k S 95 (by decide))) hs ?_
  rintro _ h1 ⟨b, rfl, q⟩
  show lm_wp _ 43 76 [.ref 95, .ref 85] [.int (bz b)] h1 _
  refine w_rz rfl rfl (bz_or _) ?_
  exact ⟨b, rfl, q⟩
theorem t_rs7 {d : Nat} {hi : Nat → Nat → Int32} {hl : Nat → Nat → Int64} {X : lm_X} {hi0 : Nat → Nat → Int32} {T : lm_T} {n : Nat} {R : Nat → Int32} {tl : Nat → Int32} {ts p : Nat} (P : dP hi0 hi X T n R tl ts p) (hts : ts ≤ 250) (hp : p ≤ ts) (w0 : wdq tl ts p wL0 = false) (w3 : wdq tl ts p wL3 = false) (w4 : wdq tl ts p wL4 = false) (w5 : wdq tl ts p wL5 = false) (w6 : wdq tl ts p wL6 = false) (w7 : wdq tl ts p wL7 = true) {Po : Bool → lm_H → Prop} (hs : lm_w (d + 29) 49 [.ref 95, .ref 85, .int 1] (hi, hl, X) (fun v h1 => ∃ b, v = some (.int (bz b)) ∧ Po b h1)) : lm_w (d + 30) 43 [.ref 95, .ref 85] (hi, hl, X) (fun v h1 => ∃ b, v = some (.int (bz b)) ∧ Po b h1) := by
  obtain ⟨S, O, H, HR, HP, FF⟩ := id P
  refine lm_w_in (Nat.le_of_ble_eq_true rfl) ?_
  show lm_wp (d + 30) 43 0 [.ref 95, .ref 85] [] (hi, hl, X) _
  refine w_N 2 3 [.ref 95, .ref 85] [.ref 1, .ref 95] rfl ?_
  refine w_cc (w_vst rfl rfl rfl (Nat.le_of_ble_eq_true rfl) (Nat.le_of_ble_eq_true rfl) (A_k S 95 (by decide))) (lm_c_v (t_isWord0 (d := d + 27) S O.2 hts hp HP) (c_eqz w0)) ?_
  show lm_wp _ 43 6 [.ref 95, .ref 85] [.int 0] (hi, hl, X) _
  refine w_if_eq_t (t := 15) rfl rfl (by decide) ?_
  refine w_N 2 18 [.ref 95, .ref 85] [.ref 4, .ref 95] rfl ?_
  refine w_cc (w_vst rfl rfl rfl (Nat.le_of_ble_eq_true rfl) (Nat.le_of_ble_eq_true rfl) (A_k S 95 (by decide))) (lm_c_v (t_isWord3 (d := d + 27) S O.2 hts hp HP) (c_eqz w3)) ?_
  show lm_wp _ 43 21 [.ref 95, .ref 85] [.int 0] (hi, hl, X) _
  refine w_if_eq_t (t := 30) rfl rfl (by decide) ?_
  refine w_N 2 33 [.ref 95, .ref 85] [.ref 5, .ref 95] rfl ?_
  refine w_cc (w_vst rfl rfl rfl (Nat.le_of_ble_eq_true rfl) (Nat.le_of_ble_eq_true rfl) (A_k S 95 (by decide))) (lm_c_v (t_isWord4 (d := d + 27) S O.2 hts hp HP) (c_eqz w4)) ?_
  show lm_wp _ 43 36 [.ref 95, .ref 85] [.int 0] (hi, hl, X) _
  refine w_if_eq_t (t := 45) rfl rfl (by decide) ?_
  refine w_N 2 48 [.ref 95, .ref 85] [.ref 6, .ref 95] rfl ?_
  refine w_cc (w_vst rfl rfl rfl (Nat.le_of_ble_eq_true rfl) (Nat.le_of_ble_eq_true rfl) (A_k S 95 (by decide))) (lm_c_v (t_isWord5 (d := d + 27) S O.2 hts hp HP) (c_eqz w5)) ?_
  show lm_wp _ 43 51 [.ref 95, .ref 85] [.int 0] (hi, hl, X) _
  refine w_if_eq_t (t := 61) rfl rfl (by decide) ?_
  refine w_N 2 64 [.ref 95, .ref 85] [.ref 7, .ref 95] rfl ?_
  refine w_cc (w_vst rfl rfl rfl (Nat.le_of_ble_eq_true rfl) (Nat.le_of_ble_eq_true rfl) (A_k S 95 (by decide))) (lm_c_v (t_isWord6 (d := d + 27) S O.2 hts hp HP) (c_eqz w6)) ?_
  show lm_wp _ 43 67 [.ref 95, .ref 85] [.int 0] (hi, hl, X) _
  refine w_if_eq_t (t := 77) rfl rfl (by decide) ?_
  refine w_N 2 80 [.ref 95, .ref 85] [.ref 8, .ref 95] rfl ?_
  refine w_cc (w_vst rfl rfl rfl (Nat.le_of_ble_eq_true rfl) (Nat.le_of_ble_eq_true rfl) (A_k S 95 (by decide))) (lm_c_1 (t_isWord7 (d := d + 27) S O.2 hts hp HP) w7) ?_
  show lm_wp _ 43 83 [.ref 95, .ref 85] [.int 1] (hi, hl, X) _
  refine w_if_eq_f (t := 93) rfl rfl (by decide) ?_
  refine w_N 3 89 [.ref 95, .ref 85] [.int 1, .ref 85, .ref 95] rfl ?_
  refine w_ca (w_vst rfl rfl rfl (Nat.le_of_ble_eq_true rfl) (Nat.le_of_ble_eq_true rfl) (A_k S 95 (by decide))) hs ?_
  rintro _ h1 ⟨b, rfl, q⟩
  show lm_wp _ 43 92 [.ref 95, .ref 85] [.int (bz b)] h1 _
  refine w_rz rfl rfl (bz_or _) ?_
  exact ⟨b, rfl, q⟩
theorem t_rs8 {d : Nat} {hi : Nat → Nat → Int32} {hl : Nat → Nat → Int64} {X : lm_X} {hi0 : Nat → Nat → Int32} {T : lm_T} {n : Nat} {R : Nat → Int32} {tl : Nat → Int32} {ts p : Nat} (P : dP hi0 hi X T n R tl ts p) (hts : ts ≤ 250) (hp : p ≤ ts) (w0 : wdq tl ts p wL0 = false) (w3 : wdq tl ts p wL3 = false) (w4 : wdq tl ts p wL4 = false) (w5 : wdq tl ts p wL5 = false) (w6 : wdq tl ts p wL6 = false) (w7 : wdq tl ts p wL7 = false) (w8 : wdq tl ts p wL8 = true) {Po : Bool → lm_H → Prop} (hs : lm_w (d + 29) 49 [.ref 95, .ref 85, .int (-1)] (hi, hl, X) (fun v h1 => ∃ b, v = some (.int (bz b)) ∧ Po b h1)) : lm_w (d + 30) 43 [.ref 95, .ref 85] (hi, hl, X) (fun v h1 => ∃ b, v = some (.int (bz b)) ∧ Po b h1) := by
  obtain ⟨S, O, H, HR, HP, FF⟩ := id P
  refine lm_w_in (Nat.le_of_ble_eq_true rfl) ?_
  show lm_wp (d + 30) 43 0 [.ref 95, .ref 85] [] (hi, hl, X) _
  refine w_N 2 3 [.ref 95, .ref 85] [.ref 1, .ref 95] rfl ?_
  refine w_cc (w_vst rfl rfl rfl (Nat.le_of_ble_eq_true rfl) (Nat.le_of_ble_eq_true rfl) (A_k S 95 (by decide))) (lm_c_v (t_isWord0 (d := d + 27) S O.2 hts hp HP) (c_eqz w0)) ?_
  show lm_wp _ 43 6 [.ref 95, .ref 85] [.int 0] (hi, hl, X) _
  refine w_if_eq_t (t := 15) rfl rfl (by decide) ?_
  refine w_N 2 18 [.ref 95, .ref 85] [.ref 4, .ref 95] rfl ?_
  refine w_cc (w_vst rfl rfl rfl (Nat.le_of_ble_eq_true rfl) (Nat.le_of_ble_eq_true rfl) (A_k S 95 (by decide))) (lm_c_v (t_isWord3 (d := d + 27) S O.2 hts hp HP) (c_eqz w3)) ?_
  show lm_wp _ 43 21 [.ref 95, .ref 85] [.int 0] (hi, hl, X) _
  refine w_if_eq_t (t := 30) rfl rfl (by decide) ?_
  refine w_N 2 33 [.ref 95, .ref 85] [.ref 5, .ref 95] rfl ?_
  refine w_cc (w_vst rfl rfl rfl (Nat.le_of_ble_eq_true rfl) (Nat.le_of_ble_eq_true rfl) (A_k S 95 (by decide))) (lm_c_v (t_isWord4 (d := d + 27) S O.2 hts hp HP) (c_eqz w4)) ?_
  show lm_wp _ 43 36 [.ref 95, .ref 85] [.int 0] (hi, hl, X) _
  refine w_if_eq_t (t := 45) rfl rfl (by decide) ?_
  refine w_N 2 48 [.ref 95, .ref 85] [.ref 6, .ref 95] rfl ?_
  refine w_cc (w_vst rfl rfl rfl (Nat.le_of_ble_eq_true rfl) (Nat.le_of_ble_eq_true rfl) (A_k S 95 (by decide))) (lm_c_v (t_isWord5 (d := d + 27) S O.2 hts hp HP) (c_eqz w5)) ?_
  show lm_wp _ 43 51 [.ref 95, .ref 85] [.int 0] (hi, hl, X) _
  refine w_if_eq_t (t := 61) rfl rfl (by decide) ?_
  refine w_N 2 64 [.ref 95, .ref 85] [.ref 7, .ref 95] rfl ?_
  refine w_cc (w_vst rfl rfl rfl (Nat.le_of_ble_eq_true rfl) (Nat.le_of_ble_eq_true rfl) (A_k S 95 (by decide))) (lm_c_v (t_isWord6 (d := d + 27) S O.2 hts hp HP) (c_eqz w6)) ?_
  show lm_wp _ 43 67 [.ref 95, .ref 85] [.int 0] (hi, hl, X) _
  refine w_if_eq_t (t := 77) rfl rfl (by decide) ?_
  refine w_N 2 80 [.ref 95, .ref 85] [.ref 8, .ref 95] rfl ?_
  refine w_cc (w_vst rfl rfl rfl (Nat.le_of_ble_eq_true rfl) (Nat.le_of_ble_eq_true rfl) (A_k S 95 (by decide))) (lm_c_v (t_isWord7 (d := d + 27) S O.2 hts hp HP) (c_eqz w7)) ?_
  show lm_wp _ 43 83 [.ref 95, .ref 85] [.int 0] (hi, hl, X) _
  refine w_if_eq_t (t := 93) rfl rfl (by decide) ?_
  refine w_N 2 96 [.ref 95, .ref 85] [.ref 9, .ref 95] rfl ?_
  refine w_cc (w_vst rfl rfl rfl (Nat.le_of_ble_eq_true rfl) (Nat.le_of_ble_eq_true rfl) (A_k S 95 (by decide))) (lm_c_1 (t_isWord8 (d := d + 27) S O.2 hts hp HP) w8) ?_
  show lm_wp _ 43 99 [.ref 95, .ref 85] [.int 1] (hi, hl, X) _
  refine w_if_eq_f (t := 109) rfl rfl (by decide) ?_
  refine w_N 3 105 [.ref 95, .ref 85] [.int (-1), .ref 85, .ref 95] rfl ?_
  refine w_ca (w_vst rfl rfl rfl (Nat.le_of_ble_eq_true rfl) (Nat.le_of_ble_eq_true rfl) (A_k S 95 (by decide))) hs ?_
  rintro _ h1 ⟨b, rfl, q⟩
  show lm_wp _ 43 108 [.ref 95, .ref 85] [.int (bz b)] h1 _
  refine w_rz rfl rfl (bz_or _) ?_
  exact ⟨b, rfl, q⟩
theorem t_rs9 {d : Nat} {hi : Nat → Nat → Int32} {hl : Nat → Nat → Int64} {X : lm_X} {hi0 : Nat → Nat → Int32} {T : lm_T} {n : Nat} {R : Nat → Int32} {tl : Nat → Int32} {ts p : Nat} (P : dP hi0 hi X T n R tl ts p) (hts : ts ≤ 250) (hp : p ≤ ts) (w0 : wdq tl ts p wL0 = false) (w3 : wdq tl ts p wL3 = false) (w4 : wdq tl ts p wL4 = false) (w5 : wdq tl ts p wL5 = false) (w6 : wdq tl ts p wL6 = false) (w7 : wdq tl ts p wL7 = false) (w8 : wdq tl ts p wL8 = false) (w9 : wdq tl ts p wL9 = true) {Po : Bool → lm_H → Prop} (hs : lm_w (d + 29) 50 [.ref 95, .ref 85] (hi, hl, X) (fun v h1 => ∃ b, v = some (.int (bz b)) ∧ Po b h1)) : lm_w (d + 30) 43 [.ref 95, .ref 85] (hi, hl, X) (fun v h1 => ∃ b, v = some (.int (bz b)) ∧ Po b h1) := by
  obtain ⟨S, O, H, HR, HP, FF⟩ := id P
  refine lm_w_in (Nat.le_of_ble_eq_true rfl) ?_
  show lm_wp (d + 30) 43 0 [.ref 95, .ref 85] [] (hi, hl, X) _
  refine w_N 2 3 [.ref 95, .ref 85] [.ref 1, .ref 95] rfl ?_
  refine w_cc (w_vst rfl rfl rfl (Nat.le_of_ble_eq_true rfl) (Nat.le_of_ble_eq_true rfl) (A_k S 95 (by decide))) (lm_c_v (t_isWord0 (d := d + 27) S O.2 hts hp HP) (c_eqz w0)) ?_
  show lm_wp _ 43 6 [.ref 95, .ref 85] [.int 0] (hi, hl, X) _
  refine w_if_eq_t (t := 15) rfl rfl (by decide) ?_
  refine w_N 2 18 [.ref 95, .ref 85] [.ref 4, .ref 95] rfl ?_
  refine w_cc (w_vst rfl rfl rfl (Nat.le_of_ble_eq_true rfl) (Nat.le_of_ble_eq_true rfl) (A_k S 95 (by decide))) (lm_c_v (t_isWord3 (d := d + 27) S O.2 hts hp HP) (c_eqz w3)) ?_
  show lm_wp _ 43 21 [.ref 95, .ref 85] [.int 0] (hi, hl, X) _
  refine w_if_eq_t (t := 30) rfl rfl (by decide) ?_
  refine w_N 2 33 [.ref 95, .ref 85] [.ref 5, .ref 95] rfl ?_
  refine w_cc (w_vst rfl rfl rfl (Nat.le_of_ble_eq_true rfl) (Nat.le_of_ble_eq_true rfl) (A_k S 95 (by decide))) (lm_c_v (t_isWord4 (d := d + 27) S O.2 hts hp HP) (c_eqz w4)) ?_
  show lm_wp _ 43 36 [.ref 95, .ref 85] [.int 0] (hi, hl, X) _
  refine w_if_eq_t (t := 45) rfl rfl (by decide) ?_
  refine w_N 2 48 [.ref 95, .ref 85] [.ref 6, .ref 95] rfl ?_
  refine w_cc (w_vst rfl rfl rfl (Nat.le_of_ble_eq_true rfl) (Nat.le_of_ble_eq_true rfl) (A_k S 95 (by decide))) (lm_c_v (t_isWord5 (d := d + 27) S O.2 hts hp HP) (c_eqz w5)) ?_
  show lm_wp _ 43 51 [.ref 95, .ref 85] [.int 0] (hi, hl, X) _
  refine w_if_eq_t (t := 61) rfl rfl (by decide) ?_
  refine w_N 2 64 [.ref 95, .ref 85] [.ref 7, .ref 95] rfl ?_
  refine w_cc (w_vst rfl rfl rfl (Nat.le_of_ble_eq_true rfl) (Nat.le_of_ble_eq_true rfl) (A_k S 95 (by decide))) (lm_c_v (t_isWord6 (d := d + 27) S O.2 hts hp HP) (c_eqz w6)) ?_
  show lm_wp _ 43 67 [.ref 95, .ref 85] [.int 0] (hi, hl, X) _
  refine w_if_eq_t (t := 77) rfl rfl (by decide) ?_
  refine w_N 2 80 [.ref 95, .ref 85] [.ref 8, .ref 95] rfl ?_
  refine w_cc (w_vst rfl rfl rfl (Nat.le_of_ble_eq_true rfl) (Nat.le_of_ble_eq_true rfl) (A_k S 95 (by decide))) (lm_c_v (t_isWord7 (d := d + 27) S O.2 hts hp HP) (c_eqz w7)) ?_
  show lm_wp _ 43 83 [.ref 95, .ref 85] [.int 0] (hi, hl, X) _
  refine w_if_eq_t (t := 93) rfl rfl (by decide) ?_
  refine w_N 2 96 [.ref 95, .ref 85] [.ref 9, .ref 95] rfl ?_
  refine w_cc (w_vst rfl rfl rfl (Nat.le_of_ble_eq_true rfl) (Nat.le_of_ble_eq_true rfl) (A_k S 95 (by decide))) (lm_c_v (t_isWord8 (d := d + 27) S O.2 hts hp HP) (c_eqz w8)) ?_
  show lm_wp _ 43 99 [.ref 95, .ref 85] [.int 0] (hi, hl, X) _
  refine w_if_eq_t (t := 109) rfl rfl (by decide) ?_
  refine w_N 2 112 [.ref 95, .ref 85] [.ref 10, .ref 95] rfl ?_
  refine w_cc (w_vst rfl rfl rfl (Nat.le_of_ble_eq_true rfl) (Nat.le_of_ble_eq_true rfl) (A_k S 95 (by decide))) (lm_c_1 (t_isWord9 (d := d + 27) S O.2 hts hp HP) w9) ?_
  show lm_wp _ 43 115 [.ref 95, .ref 85] [.int 1] (hi, hl, X) _
  refine w_if_eq_f (t := 124) rfl rfl (by decide) ?_
  refine w_N 2 120 [.ref 95, .ref 85] [.ref 85, .ref 95] rfl ?_
  refine w_ca (w_vst rfl rfl rfl (Nat.le_of_ble_eq_true rfl) (Nat.le_of_ble_eq_true rfl) (A_k S 95 (by decide))) hs ?_
  rintro _ h1 ⟨b, rfl, q⟩
  show lm_wp _ 43 123 [.ref 95, .ref 85] [.int (bz b)] h1 _
  refine w_rz rfl rfl (bz_or _) ?_
  exact ⟨b, rfl, q⟩
theorem t_rs10 {d : Nat} {hi : Nat → Nat → Int32} {hl : Nat → Nat → Int64} {X : lm_X} {hi0 : Nat → Nat → Int32} {T : lm_T} {n : Nat} {R : Nat → Int32} {tl : Nat → Int32} {ts p : Nat} (P : dP hi0 hi X T n R tl ts p) (hts : ts ≤ 250) (hp : p ≤ ts) (w0 : wdq tl ts p wL0 = false) (w3 : wdq tl ts p wL3 = false) (w4 : wdq tl ts p wL4 = false) (w5 : wdq tl ts p wL5 = false) (w6 : wdq tl ts p wL6 = false) (w7 : wdq tl ts p wL7 = false) (w8 : wdq tl ts p wL8 = false) (w9 : wdq tl ts p wL9 = false) (w10 : wdq tl ts p wL10 = true) {Po : Bool → lm_H → Prop} (hs : lm_w (d + 29) 51 [.ref 95, .ref 85] (hi, hl, X) (fun v h1 => ∃ b, v = some (.int (bz b)) ∧ Po b h1)) : lm_w (d + 30) 43 [.ref 95, .ref 85] (hi, hl, X) (fun v h1 => ∃ b, v = some (.int (bz b)) ∧ Po b h1) := by
  obtain ⟨S, O, H, HR, HP, FF⟩ := id P
  refine lm_w_in (Nat.le_of_ble_eq_true rfl) ?_
  show lm_wp (d + 30) 43 0 [.ref 95, .ref 85] [] (hi, hl, X) _
  refine w_N 2 3 [.ref 95, .ref 85] [.ref 1, .ref 95] rfl ?_
  refine w_cc (w_vst rfl rfl rfl (Nat.le_of_ble_eq_true rfl) (Nat.le_of_ble_eq_true rfl) (A_k S 95 (by decide))) (lm_c_v (t_isWord0 (d := d + 27) S O.2 hts hp HP) (c_eqz w0)) ?_
  show lm_wp _ 43 6 [.ref 95, .ref 85] [.int 0] (hi, hl, X) _
  refine w_if_eq_t (t := 15) rfl rfl (by decide) ?_
  refine w_N 2 18 [.ref 95, .ref 85] [.ref 4, .ref 95] rfl ?_
  refine w_cc (w_vst rfl rfl rfl (Nat.le_of_ble_eq_true rfl) (Nat.le_of_ble_eq_true rfl) (A_k S 95 (by decide))) (lm_c_v (t_isWord3 (d := d + 27) S O.2 hts hp HP) (c_eqz w3)) ?_
  show lm_wp _ 43 21 [.ref 95, .ref 85] [.int 0] (hi, hl, X) _
  refine w_if_eq_t (t := 30) rfl rfl (by decide) ?_
  refine w_N 2 33 [.ref 95, .ref 85] [.ref 5, .ref 95] rfl ?_
  refine w_cc (w_vst rfl rfl rfl (Nat.le_of_ble_eq_true rfl) (Nat.le_of_ble_eq_true rfl) (A_k S 95 (by decide))) (lm_c_v (t_isWord4 (d := d + 27) S O.2 hts hp HP) (c_eqz w4)) ?_
  show lm_wp _ 43 36 [.ref 95, .ref 85] [.int 0] (hi, hl, X) _
  refine w_if_eq_t (t := 45) rfl rfl (by decide) ?_
  refine w_N 2 48 [.ref 95, .ref 85] [.ref 6, .ref 95] rfl ?_
  refine w_cc (w_vst rfl rfl rfl (Nat.le_of_ble_eq_true rfl) (Nat.le_of_ble_eq_true rfl) (A_k S 95 (by decide))) (lm_c_v (t_isWord5 (d := d + 27) S O.2 hts hp HP) (c_eqz w5)) ?_
  show lm_wp _ 43 51 [.ref 95, .ref 85] [.int 0] (hi, hl, X) _
  refine w_if_eq_t (t := 61) rfl rfl (by decide) ?_
  refine w_N 2 64 [.ref 95, .ref 85] [.ref 7, .ref 95] rfl ?_
  refine w_cc (w_vst rfl rfl rfl (Nat.le_of_ble_eq_true rfl) (Nat.le_of_ble_eq_true rfl) (A_k S 95 (by decide))) (lm_c_v (t_isWord6 (d := d + 27) S O.2 hts hp HP) (c_eqz w6)) ?_
  show lm_wp _ 43 67 [.ref 95, .ref 85] [.int 0] (hi, hl, X) _
  refine w_if_eq_t (t := 77) rfl rfl (by decide) ?_
  refine w_N 2 80 [.ref 95, .ref 85] [.ref 8, .ref 95] rfl ?_
  refine w_cc (w_vst rfl rfl rfl (Nat.le_of_ble_eq_true rfl) (Nat.le_of_ble_eq_true rfl) (A_k S 95 (by decide))) (lm_c_v (t_isWord7 (d := d + 27) S O.2 hts hp HP) (c_eqz w7)) ?_
  show lm_wp _ 43 83 [.ref 95, .ref 85] [.int 0] (hi, hl, X) _
  refine w_if_eq_t (t := 93) rfl rfl (by decide) ?_
  refine w_N 2 96 [.ref 95, .ref 85] [.ref 9, .ref 95] rfl ?_
  refine w_cc (w_vst rfl rfl rfl (Nat.le_of_ble_eq_true rfl) (Nat.le_of_ble_eq_true rfl) (A_k S 95 (by decide))) (lm_c_v (t_isWord8 (d := d + 27) S O.2 hts hp HP) (c_eqz w8)) ?_
  show lm_wp _ 43 99 [.ref 95, .ref 85] [.int 0] (hi, hl, X) _
  refine w_if_eq_t (t := 109) rfl rfl (by decide) ?_
  refine w_N 2 112 [.ref 95, .ref 85] [.ref 10, .ref 95] rfl ?_
  refine w_cc (w_vst rfl rfl rfl (Nat.le_of_ble_eq_true rfl) (Nat.le_of_ble_eq_true rfl) (A_k S 95 (by decide))) (lm_c_v (t_isWord9 (d := d + 27) S O.2 hts hp HP) (c_eqz w9)) ?_
  show lm_wp _ 43 115 [.ref 95, .ref 85] [.int 0] (hi, hl, X) _
  refine w_if_eq_t (t := 124) rfl rfl (by decide) ?_
  refine w_N 2 127 [.ref 95, .ref 85] [.ref 11, .ref 95] rfl ?_
  refine w_cc (w_vst rfl rfl rfl (Nat.le_of_ble_eq_true rfl) (Nat.le_of_ble_eq_true rfl) (A_k S 95 (by decide))) (lm_c_1 (t_isWord10 (d := d + 27) S O.2 hts hp HP) w10) ?_
  show lm_wp _ 43 130 [.ref 95, .ref 85] [.int 1] (hi, hl, X) _
  refine w_if_eq_f (t := 145) rfl rfl (by decide) ?_
  refine w_N 2 135 [.ref 95, .ref 85] [.ref 85, .ref 95] rfl ?_
  refine w_ca (w_vst rfl rfl rfl (Nat.le_of_ble_eq_true rfl) (Nat.le_of_ble_eq_true rfl) (A_k S 95 (by decide))) hs ?_
  rintro _ h1 ⟨b, rfl, q⟩
  show lm_wp _ 43 138 [.ref 95, .ref 85] [.int (bz b)] h1 _
  refine w_zeq (t := 145) rfl rfl (fun c1 => ?_) (fun c1 => ?_)
  · refine w_N 1 146 [.ref 95, .ref 85] [.int 0] rfl ?_
    refine w_rz rfl rfl (by decide) ?_
    exact ⟨false, rfl, c1 ▸ q⟩
  · refine w_N 2 146 [.ref 95, .ref 85] [.int 1] rfl ?_
    refine w_rz rfl rfl (by decide) ?_
    exact ⟨true, rfl, c1 ▸ q⟩
theorem t_rsN {d : Nat} {hi : Nat → Nat → Int32} {hl : Nat → Nat → Int64} {X : lm_X} {hi0 : Nat → Nat → Int32} {T : lm_T} {n : Nat} {R : Nat → Int32} {tl : Nat → Int32} {ts p : Nat} (P : dP hi0 hi X T n R tl ts p) (hts : ts ≤ 250) (hp : p ≤ ts) (w0 : wdq tl ts p wL0 = false) (w3 : wdq tl ts p wL3 = false) (w4 : wdq tl ts p wL4 = false) (w5 : wdq tl ts p wL5 = false) (w6 : wdq tl ts p wL6 = false) (w7 : wdq tl ts p wL7 = false) (w8 : wdq tl ts p wL8 = false) (w9 : wdq tl ts p wL9 = false) (w10 : wdq tl ts p wL10 = false)  : lm_w (d + 30) 43 [.ref 95, .ref 85] (hi, hl, X) (dF hi0 hl X (tkF tl ts p)) := by
  obtain ⟨S, O, H, HR, HP, FF⟩ := id P
  refine lm_w_in (Nat.le_of_ble_eq_true rfl) ?_
  show lm_wp (d + 30) 43 0 [.ref 95, .ref 85] [] (hi, hl, X) _
  refine w_N 2 3 [.ref 95, .ref 85] [.ref 1, .ref 95] rfl ?_
  refine w_cc (w_vst rfl rfl rfl (Nat.le_of_ble_eq_true rfl) (Nat.le_of_ble_eq_true rfl) (A_k S 95 (by decide))) (lm_c_v (t_isWord0 (d := d + 27) S O.2 hts hp HP) (c_eqz w0)) ?_
  show lm_wp _ 43 6 [.ref 95, .ref 85] [.int 0] (hi, hl, X) _
  refine w_if_eq_t (t := 15) rfl rfl (by decide) ?_
  refine w_N 2 18 [.ref 95, .ref 85] [.ref 4, .ref 95] rfl ?_
  refine w_cc (w_vst rfl rfl rfl (Nat.le_of_ble_eq_true rfl) (Nat.le_of_ble_eq_true rfl) (A_k S 95 (by decide))) (lm_c_v (t_isWord3 (d := d + 27) S O.2 hts hp HP) (c_eqz w3)) ?_
  show lm_wp _ 43 21 [.ref 95, .ref 85] [.int 0] (hi, hl, X) _
  refine w_if_eq_t (t := 30) rfl rfl (by decide) ?_
  refine w_N 2 33 [.ref 95, .ref 85] [.ref 5, .ref 95] rfl ?_
  refine w_cc (w_vst rfl rfl rfl (Nat.le_of_ble_eq_true rfl) (Nat.le_of_ble_eq_true rfl) (A_k S 95 (by decide))) (lm_c_v (t_isWord4 (d := d + 27) S O.2 hts hp HP) (c_eqz w4)) ?_
  show lm_wp _ 43 36 [.ref 95, .ref 85] [.int 0] (hi, hl, X) _
  refine w_if_eq_t (t := 45) rfl rfl (by decide) ?_
  refine w_N 2 48 [.ref 95, .ref 85] [.ref 6, .ref 95] rfl ?_
  refine w_cc (w_vst rfl rfl rfl (Nat.le_of_ble_eq_true rfl) (Nat.le_of_ble_eq_true rfl) (A_k S 95 (by decide))) (lm_c_v (t_isWord5 (d := d + 27) S O.2 hts hp HP) (c_eqz w5)) ?_
  show lm_wp _ 43 51 [.ref 95, .ref 85] [.int 0] (hi, hl, X) _
  refine w_if_eq_t (t := 61) rfl rfl (by decide) ?_
  refine w_N 2 64 [.ref 95, .ref 85] [.ref 7, .ref 95] rfl ?_
  refine w_cc (w_vst rfl rfl rfl (Nat.le_of_ble_eq_true rfl) (Nat.le_of_ble_eq_true rfl) (A_k S 95 (by decide))) (lm_c_v (t_isWord6 (d := d + 27) S O.2 hts hp HP) (c_eqz w6)) ?_
  show lm_wp _ 43 67 [.ref 95, .ref 85] [.int 0] (hi, hl, X) _
  refine w_if_eq_t (t := 77) rfl rfl (by decide) ?_
  refine w_N 2 80 [.ref 95, .ref 85] [.ref 8, .ref 95] rfl ?_
  refine w_cc (w_vst rfl rfl rfl (Nat.le_of_ble_eq_true rfl) (Nat.le_of_ble_eq_true rfl) (A_k S 95 (by decide))) (lm_c_v (t_isWord7 (d := d + 27) S O.2 hts hp HP) (c_eqz w7)) ?_
  show lm_wp _ 43 83 [.ref 95, .ref 85] [.int 0] (hi, hl, X) _
  refine w_if_eq_t (t := 93) rfl rfl (by decide) ?_
  refine w_N 2 96 [.ref 95, .ref 85] [.ref 9, .ref 95] rfl ?_
  refine w_cc (w_vst rfl rfl rfl (Nat.le_of_ble_eq_true rfl) (Nat.le_of_ble_eq_true rfl) (A_k S 95 (by decide))) (lm_c_v (t_isWord8 (d := d + 27) S O.2 hts hp HP) (c_eqz w8)) ?_
  show lm_wp _ 43 99 [.ref 95, .ref 85] [.int 0] (hi, hl, X) _
  refine w_if_eq_t (t := 109) rfl rfl (by decide) ?_
  refine w_N 2 112 [.ref 95, .ref 85] [.ref 10, .ref 95] rfl ?_
  refine w_cc (w_vst rfl rfl rfl (Nat.le_of_ble_eq_true rfl) (Nat.le_of_ble_eq_true rfl) (A_k S 95 (by decide))) (lm_c_v (t_isWord9 (d := d + 27) S O.2 hts hp HP) (c_eqz w9)) ?_
  show lm_wp _ 43 115 [.ref 95, .ref 85] [.int 0] (hi, hl, X) _
  refine w_if_eq_t (t := 124) rfl rfl (by decide) ?_
  refine w_N 2 127 [.ref 95, .ref 85] [.ref 11, .ref 95] rfl ?_
  refine w_cc (w_vst rfl rfl rfl (Nat.le_of_ble_eq_true rfl) (Nat.le_of_ble_eq_true rfl) (A_k S 95 (by decide))) (lm_c_v (t_isWord10 (d := d + 27) S O.2 hts hp HP) (c_eqz w10)) ?_
  show lm_wp _ 43 130 [.ref 95, .ref 85] [.int 0] (hi, hl, X) _
  refine w_if_eq_t (t := 145) rfl rfl (by decide) ?_
  refine w_N 1 146 [.ref 95, .ref 85] [.int 0] rfl ?_
  refine w_rz rfl rfl (by decide) ?_
  exact ⟨rfl, _, rfl, FF, HP.2.2.1⟩
