set_option maxRecDepth 16384
/-! statements, read by the class into its draft -/
def dP (hi0 hi : Nat → Nat → Int32) (X : lm_X) (T : lm_T) (n : Nat) (R : Nat → Int32) (tl : Nat → Int32) (ts p : Nat) : Prop := sh_A X ∧ olP hi X ∧ isT hi 85 T n ∧ isR hi 85 R ∧ tpC tl ts hi p ∧ fr 85 96 hi0 hi
def dF (hi0 : Nat → Nat → Int32) (hl : Nat → Nat → Int64) (X : lm_X) (f : Nat) : Option Value → lm_H → Prop := fun v h1 => v = some (.int 0) ∧ ∃ hi', h1 = (hi', hl, X) ∧ fr 85 96 hi0 hi' ∧ hi' 95 2 = nI f
def dT (hi0 : Nat → Nat → Int32) (hl : Nat → Nat → Int64) (X : lm_X) (T : lm_T) (n : Nat) (R : Nat → Int32) (tl : Nat → Int32) (ts p : Nat) : Option Value → lm_H → Prop := fun v h1 => v = some (.int 1) ∧ ∃ hi', h1 = (hi', hl, X) ∧ dP hi0 hi' X T n R tl ts p
section
variable {hi0 hi hi' : Nat → Nat → Int32} {X : lm_X} {T : lm_T} {n : Nat} {R : Nat → Int32} {tl : Nat → Int32} {ts p p' : Nat}
theorem dP_tp (P : dP hi0 hi X T n R tl ts p) (H : tpC tl ts hi' p') (f : ∀ a, a ≠ 95 → hi' a = hi a) : dP hi0 hi' X T n R tl ts p' := by
  obtain ⟨S, O, HT, HR, HP, F⟩ := P
  have g : fr 95 96 hi hi' := fun a ha => f a (by omega)
  exact ⟨S, olP_fr g (by decide) O, isT_fr g (by decide) HT, isR_fr g (by decide) HR, H, fr_trans F (fr_mono g (by decide))⟩
theorem dP_town {T' : lm_T} {n' : Nat} {R' : Nat → Int32} (P : dP hi0 hi X T n R tl ts p) (f : fr 85 95 hi hi') (HT' : isT hi' 85 T' n') (HR' : isR hi' 85 R') : dP hi0 hi' X T' n' R' tl ts p := by
  obtain ⟨S, O, HT, HR, HP, F⟩ := P
  exact ⟨S, olP_fr f (by decide) O, HT', HR', tpC_f (f 95 (by decide)) (f 96 (by decide)) HP, fr_trans F (fr_mono f (by decide))⟩
theorem dP_R {k : Nat} {v : Int32} (hk : 10 ≤ k ∧ k ≤ 15) (P : dP hi0 hi X T n R tl ts p) : dP hi0 (lm_up hi 85 k v) X T n (lm_u1 R k v) tl ts p := dP_town P (fr_up fr_rfl (by decide)) (isT_f (by omega) P.2.2.1) (isR_u hk P.2.2.2.1)
end
theorem t_rMarkF {d : Nat} {hi : Nat → Nat → Int32} {hl : Nat → Nat → Int64} {X : lm_X} {hi0 : Nat → Nat → Int32} {T : lm_T} {n : Nat} {R : Nat → Int32} {tl : Nat → Int32} {ts p : Nat} (P : dP hi0 hi X T n R tl ts p) (hts : ts ≤ 250) (hp : p ≤ ts) {p1 : Nat} (q1 : tkE tl ts p = p1) (nF : nmO tl ts p1 0 7 = false) : lm_w (d + 10) 46 [.ref 95, .ref 85] (hi, hl, X) (dF hi0 hl X (tkF tl ts p1)) := by
  obtain ⟨S, O, H, HR, HP, FF⟩ := id P
  refine lm_w_in (Nat.le_of_ble_eq_true rfl) ?_
  show lm_wp (d + 10) 46 0 [.ref 95, .ref 85, lm_jk] [] (hi, hl, X) _
  refine w_N 1 1 [.ref 95, .ref 85, lm_jk] [.ref 95] rfl ?_
  refine w_ca (w_vst rfl rfl rfl (Nat.le_of_ble_eq_true rfl) (Nat.le_of_ble_eq_true rfl) (A_k S 95 (by decide))) (t_adv (d := d + 8) S hts HP.1 HP.2.1 (tk_b (tl := tl) hp).2.2.2.1 HP.2.2.2.1) ?_
  rintro _ _ ⟨ha1, rfl, rfl, P_ha1, f_ha1⟩
  have hp := (tk_b (tl := tl) hp).2.2.2.1
  have P := dP_tp P P_ha1 f_ha1
  rw [q1] at P hp
  obtain ⟨S, O, H, HR, HP, FF⟩ := id P
  show lm_wp _ 46 4 [.ref 95, .ref 85, lm_jk] [] (ha1, hl, X) _
  refine w_N 3 8 [.ref 95, .ref 85, lm_jk] [.int 7, .int 0, .ref 95] rfl ?_
  refine w_cc (w_vst rfl rfl rfl (Nat.le_of_ble_eq_true rfl) (Nat.le_of_ble_eq_true rfl) (A_k S 95 (by decide))) (t_numF (d := d + 7) S O.2 hts hp HP nF) ?_
  show lm_wp _ 46 11 [.ref 95, .ref 85, lm_jk] [.int (-1)] (ha1, hl, X) _
  refine w_N 3 14 [.ref 95, .ref 85, .int (-1)] [.int (-1), .int (-1)] rfl ?_
  refine w_icmp_ne_f (t := 19) rfl rfl (by decide) ?_
  refine w_N 1 18 [.ref 95, .ref 85, .int (-1)] [.int 0] rfl ?_
  refine w_rz rfl rfl (by decide) ?_
  exact ⟨rfl, _, rfl, FF, HP.2.2.1⟩
theorem t_rMarkT {d : Nat} {hi : Nat → Nat → Int32} {hl : Nat → Nat → Int64} {X : lm_X} {hi0 : Nat → Nat → Int32} {T : lm_T} {n : Nat} {R : Nat → Int32} {tl : Nat → Int32} {ts p : Nat} (P : dP hi0 hi X T n R tl ts p) (hts : ts ≤ 250) (hp : p ≤ ts) {p1 p2 : Nat} (q1 : tkE tl ts p = p1) (q2 : tkE tl ts p1 = p2) {m : Nat} (hm : m ≤ 7) (n1 : nmO tl ts p1 0 7 = true) (v1 : fgI tl ts p1 = nI m) : lm_w (d + 10) 46 [.ref 95, .ref 85] (hi, hl, X) (dT hi0 hl X T n (lm_u1 R 10 (R 10 ||| (1 <<< (nI m &&& 31)))) tl ts p2) := by
  obtain ⟨S, O, H, HR, HP, FF⟩ := id P
  refine lm_w_in (Nat.le_of_ble_eq_true rfl) ?_
  show lm_wp (d + 10) 46 0 [.ref 95, .ref 85, lm_jk] [] (hi, hl, X) _
  refine w_N 1 1 [.ref 95, .ref 85, lm_jk] [.ref 95] rfl ?_
  refine w_ca (w_vst rfl rfl rfl (Nat.le_of_ble_eq_true rfl) (Nat.le_of_ble_eq_true rfl) (A_k S 95 (by decide))) (t_adv (d := d + 8) S hts HP.1 HP.2.1 (tk_b (tl := tl) hp).2.2.2.1 HP.2.2.2.1) ?_
  rintro _ _ ⟨ha2, rfl, rfl, P_ha2, f_ha2⟩
  have hp := (tk_b (tl := tl) hp).2.2.2.1
  have P := dP_tp P P_ha2 f_ha2
  rw [q1] at P hp
  obtain ⟨S, O, H, HR, HP, FF⟩ := id P
  show lm_wp _ 46 4 [.ref 95, .ref 85, lm_jk] [] (ha2, hl, X) _
  refine w_N 3 8 [.ref 95, .ref 85, lm_jk] [.int 7, .int 0, .ref 95] rfl ?_
  refine w_ca (w_vst rfl rfl rfl (Nat.le_of_ble_eq_true rfl) (Nat.le_of_ble_eq_true rfl) (A_k S 95 (by decide))) (t_numT (d := d + 7) S O.2 hts hp HP n1 (by decide)) ?_
  rintro _ _ ⟨hb3, rfl, rfl, P_hb3, f_hb3⟩
  rw [v1]
  have hp := (tk_b (tl := tl) hp).2.2.2.1
  have P := dP_tp P P_hb3 f_hb3
  rw [q2] at P hp
  obtain ⟨S, O, H, HR, HP, FF⟩ := id P
  show lm_wp _ 46 11 [.ref 95, .ref 85, lm_jk] [.int (nI m)] (hb3, hl, X) _
  refine w_N 3 14 [.ref 95, .ref 85, .int (nI m)] [.int (-1), .int (nI m)] rfl ?_
  refine w_icmp_ne_t (t := 19) rfl rfl (nI_n1 (by omega)) ?_
  refine w_N 2 21 [.ref 95, .ref 85, .int (nI m)] [.ref 85, .ref 85] rfl ?_
  refine w_gi (v := R 10) rfl rfl rfl (T_kd (A_T85 S)) (HR.1) ?_
  refine w_N 4 28 [.ref 95, .ref 85, .int (nI m)] [.int ((R 10) ||| (1 <<< ((nI m) &&& 31))), .ref 85] rfl ?_
  refine w_pi rfl rfl rfl rfl (T_kd (A_T85 S)) (T_64 (A_T85 S)) ?_
  refine w_N 1 32 [.ref 95, .ref 85, .int (nI m)] [.int 1] rfl ?_
  refine w_rz rfl rfl (by decide) ?_
  exact ⟨rfl, _, rfl, dP_R (by decide) P⟩
theorem t_rCountF1 {d : Nat} {hi : Nat → Nat → Int32} {hl : Nat → Nat → Int64} {X : lm_X} {hi0 : Nat → Nat → Int32} {T : lm_T} {n : Nat} {R : Nat → Int32} {tl : Nat → Int32} {ts p : Nat} (P : dP hi0 hi X T n R tl ts p) (hts : ts ≤ 250) (hp : p ≤ ts) {p1 : Nat} (q1 : tkE tl ts p = p1) (nF : nmO tl ts p1 0 3 = false) : lm_w (d + 10) 47 [.ref 95, .ref 85] (hi, hl, X) (dF hi0 hl X (tkF tl ts p1)) := by
  obtain ⟨S, O, H, HR, HP, FF⟩ := id P
  refine lm_w_in (Nat.le_of_ble_eq_true rfl) ?_
  show lm_wp (d + 10) 47 0 [.ref 95, .ref 85, lm_jk, lm_jk] [] (hi, hl, X) _
  refine w_N 1 1 [.ref 95, .ref 85, lm_jk, lm_jk] [.ref 95] rfl ?_
  refine w_ca (w_vst rfl rfl rfl (Nat.le_of_ble_eq_true rfl) (Nat.le_of_ble_eq_true rfl) (A_k S 95 (by decide))) (t_adv (d := d + 8) S hts HP.1 HP.2.1 (tk_b (tl := tl) hp).2.2.2.1 HP.2.2.2.1) ?_
  rintro _ _ ⟨ha4, rfl, rfl, P_ha4, f_ha4⟩
  have hp := (tk_b (tl := tl) hp).2.2.2.1
  have P := dP_tp P P_ha4 f_ha4
  rw [q1] at P hp
  obtain ⟨S, O, H, HR, HP, FF⟩ := id P
  show lm_wp _ 47 4 [.ref 95, .ref 85, lm_jk, lm_jk] [] (ha4, hl, X) _
  refine w_N 3 7 [.ref 95, .ref 85, lm_jk, lm_jk] [.int 3, .int 0, .ref 95] rfl ?_
  refine w_cc (w_vst rfl rfl rfl (Nat.le_of_ble_eq_true rfl) (Nat.le_of_ble_eq_true rfl) (A_k S 95 (by decide))) (t_numF (d := d + 7) S O.2 hts hp HP nF) ?_
  show lm_wp _ 47 10 [.ref 95, .ref 85, lm_jk, lm_jk] [.int (-1)] (ha4, hl, X) _
  refine w_N 3 13 [.ref 95, .ref 85, .int (-1), lm_jk] [.int (-1), .int (-1)] rfl ?_
  refine w_icmp_ne_f (t := 20) rfl rfl (by decide) ?_
  refine w_N 5 30 [.ref 95, .ref 85, .int (-1), .int (-1)] [.int (-1), .int (-1)] rfl ?_
  refine w_icmp_ne_f (t := 35) rfl rfl (by decide) ?_
  refine w_N 1 34 [.ref 95, .ref 85, .int (-1), .int (-1)] [.int 0] rfl ?_
  refine w_rz rfl rfl (by decide) ?_
  exact ⟨rfl, _, rfl, FF, HP.2.2.1⟩
theorem t_rCountF2 {d : Nat} {hi : Nat → Nat → Int32} {hl : Nat → Nat → Int64} {X : lm_X} {hi0 : Nat → Nat → Int32} {T : lm_T} {n : Nat} {R : Nat → Int32} {tl : Nat → Int32} {ts p : Nat} (P : dP hi0 hi X T n R tl ts p) (hts : ts ≤ 250) (hp : p ≤ ts) {p1 p2 : Nat} (q1 : tkE tl ts p = p1) (q2 : tkE tl ts p1 = p2) {c : Nat} (hc : c ≤ 3) (n1 : nmO tl ts p1 0 3 = true) (v1 : fgI tl ts p1 = nI c) (nF : nmO tl ts p2 0 23 = false) : lm_w (d + 10) 47 [.ref 95, .ref 85] (hi, hl, X) (dF hi0 hl X (tkF tl ts p2)) := by
  obtain ⟨S, O, H, HR, HP, FF⟩ := id P
  refine lm_w_in (Nat.le_of_ble_eq_true rfl) ?_
  show lm_wp (d + 10) 47 0 [.ref 95, .ref 85, lm_jk, lm_jk] [] (hi, hl, X) _
  refine w_N 1 1 [.ref 95, .ref 85, lm_jk, lm_jk] [.ref 95] rfl ?_
  refine w_ca (w_vst rfl rfl rfl (Nat.le_of_ble_eq_true rfl) (Nat.le_of_ble_eq_true rfl) (A_k S 95 (by decide))) (t_adv (d := d + 8) S hts HP.1 HP.2.1 (tk_b (tl := tl) hp).2.2.2.1 HP.2.2.2.1) ?_
  rintro _ _ ⟨ha5, rfl, rfl, P_ha5, f_ha5⟩
  have hp := (tk_b (tl := tl) hp).2.2.2.1
  have P := dP_tp P P_ha5 f_ha5
  rw [q1] at P hp
  obtain ⟨S, O, H, HR, HP, FF⟩ := id P
  show lm_wp _ 47 4 [.ref 95, .ref 85, lm_jk, lm_jk] [] (ha5, hl, X) _
  refine w_N 3 7 [.ref 95, .ref 85, lm_jk, lm_jk] [.int 3, .int 0, .ref 95] rfl ?_
  refine w_ca (w_vst rfl rfl rfl (Nat.le_of_ble_eq_true rfl) (Nat.le_of_ble_eq_true rfl) (A_k S 95 (by decide))) (t_numT (d := d + 7) S O.2 hts hp HP n1 (by decide)) ?_
  rintro _ _ ⟨hb6, rfl, rfl, P_hb6, f_hb6⟩
  rw [v1]
  have hp := (tk_b (tl := tl) hp).2.2.2.1
  have P := dP_tp P P_hb6 f_hb6
  rw [q2] at P hp
  obtain ⟨S, O, H, HR, HP, FF⟩ := id P
  show lm_wp _ 47 10 [.ref 95, .ref 85, lm_jk, lm_jk] [.int (nI c)] (hb6, hl, X) _
  refine w_N 3 13 [.ref 95, .ref 85, .int (nI c), lm_jk] [.int (-1), .int (nI c)] rfl ?_
  refine w_icmp_ne_t (t := 20) rfl rfl (nI_n1 (by omega)) ?_
  refine w_N 3 24 [.ref 95, .ref 85, .int (nI c), lm_jk] [.int 23, .int 0, .ref 95] rfl ?_
  refine w_cc (w_vst rfl rfl rfl (Nat.le_of_ble_eq_true rfl) (Nat.le_of_ble_eq_true rfl) (A_k S 95 (by decide))) (t_numF (d := d + 7) S O.2 hts hp HP nF) ?_
  show lm_wp _ 47 27 [.ref 95, .ref 85, .int (nI c), lm_jk] [.int (-1)] (hb6, hl, X) _
  refine w_N 3 30 [.ref 95, .ref 85, .int (nI c), .int (-1)] [.int (-1), .int (-1)] rfl ?_
  refine w_icmp_ne_f (t := 35) rfl rfl (by decide) ?_
  refine w_N 1 34 [.ref 95, .ref 85, .int (nI c), .int (-1)] [.int 0] rfl ?_
  refine w_rz rfl rfl (by decide) ?_
  exact ⟨rfl, _, rfl, FF, HP.2.2.1⟩
theorem t_rCountT {d : Nat} {hi : Nat → Nat → Int32} {hl : Nat → Nat → Int64} {X : lm_X} {hi0 : Nat → Nat → Int32} {T : lm_T} {n : Nat} {R : Nat → Int32} {tl : Nat → Int32} {ts p : Nat} (P : dP hi0 hi X T n R tl ts p) (hts : ts ≤ 250) (hp : p ≤ ts) {p1 p2 p3 : Nat} (q1 : tkE tl ts p = p1) (q2 : tkE tl ts p1 = p2) (q3 : tkE tl ts p2 = p3) {c v : Nat} (hc : c ≤ 3) (hv : v ≤ 23) (n1 : nmO tl ts p1 0 3 = true) (v1 : fgI tl ts p1 = nI c) (n2 : nmO tl ts p2 0 23 = true) (v2 : fgI tl ts p2 = nI v) : lm_w (d + 10) 47 [.ref 95, .ref 85] (hi, hl, X) (dT hi0 hl X T n (lm_u1 R 10 (s_with (R 10) (nI c) (nI v))) tl ts p3) := by
  obtain ⟨S, O, H, HR, HP, FF⟩ := id P
  refine lm_w_in (Nat.le_of_ble_eq_true rfl) ?_
  show lm_wp (d + 10) 47 0 [.ref 95, .ref 85, lm_jk, lm_jk] [] (hi, hl, X) _
  refine w_N 1 1 [.ref 95, .ref 85, lm_jk, lm_jk] [.ref 95] rfl ?_
  refine w_ca (w_vst rfl rfl rfl (Nat.le_of_ble_eq_true rfl) (Nat.le_of_ble_eq_true rfl) (A_k S 95 (by decide))) (t_adv (d := d + 8) S hts HP.1 HP.2.1 (tk_b (tl := tl) hp).2.2.2.1 HP.2.2.2.1) ?_
  rintro _ _ ⟨ha7, rfl, rfl, P_ha7, f_ha7⟩
  have hp := (tk_b (tl := tl) hp).2.2.2.1
  have P := dP_tp P P_ha7 f_ha7
  rw [q1] at P hp
  obtain ⟨S, O, H, HR, HP, FF⟩ := id P
  show lm_wp _ 47 4 [.ref 95, .ref 85, lm_jk, lm_jk] [] (ha7, hl, X) _
  refine w_N 3 7 [.ref 95, .ref 85, lm_jk, lm_jk] [.int 3, .int 0, .ref 95] rfl ?_
  refine w_ca (w_vst rfl rfl rfl (Nat.le_of_ble_eq_true rfl) (Nat.le_of_ble_eq_true rfl) (A_k S 95 (by decide))) (t_numT (d := d + 7) S O.2 hts hp HP n1 (by decide)) ?_
  rintro _ _ ⟨hb8, rfl, rfl, P_hb8, f_hb8⟩
  rw [v1]
  have hp := (tk_b (tl := tl) hp).2.2.2.1
  have P := dP_tp P P_hb8 f_hb8
  rw [q2] at P hp
  obtain ⟨S, O, H, HR, HP, FF⟩ := id P
  show lm_wp _ 47 10 [.ref 95, .ref 85, lm_jk, lm_jk] [.int (nI c)] (hb8, hl, X) _
  refine w_N 3 13 [.ref 95, .ref 85, .int (nI c), lm_jk] [.int (-1), .int (nI c)] rfl ?_
  refine w_icmp_ne_t (t := 20) rfl rfl (nI_n1 (by omega)) ?_
  refine w_N 3 24 [.ref 95, .ref 85, .int (nI c), lm_jk] [.int 23, .int 0, .ref 95] rfl ?_
  refine w_ca (w_vst rfl rfl rfl (Nat.le_of_ble_eq_true rfl) (Nat.le_of_ble_eq_true rfl) (A_k S 95 (by decide))) (t_numT (d := d + 7) S O.2 hts hp HP n2 (by decide)) ?_
  rintro _ _ ⟨hb9, rfl, rfl, P_hb9, f_hb9⟩
  rw [v2]
  have hp := (tk_b (tl := tl) hp).2.2.2.1
  have P := dP_tp P P_hb9 f_hb9
  rw [q3] at P hp
  obtain ⟨S, O, H, HR, HP, FF⟩ := id P
  show lm_wp _ 47 27 [.ref 95, .ref 85, .int (nI c), lm_jk] [.int (nI v)] (hb9, hl, X) _
  refine w_N 3 30 [.ref 95, .ref 85, .int (nI c), .int (nI v)] [.int (-1), .int (nI v)] rfl ?_
  refine w_icmp_ne_t (t := 35) rfl rfl (nI_n1 (by omega)) ?_
  refine w_N 2 37 [.ref 95, .ref 85, .int (nI c), .int (nI v)] [.ref 85, .ref 85] rfl ?_
  refine w_gi (v := R 10) rfl rfl rfl (T_kd (A_T85 S)) (HR.1) ?_
  refine w_N 2 42 [.ref 95, .ref 85, .int (nI c), .int (nI v)] [.int (nI v), .int (nI c), .int (R 10), .ref 85] rfl ?_
  refine w_cc rfl c_X4_withCount ?_
  show lm_wp _ 47 45 [.ref 95, .ref 85, .int (nI c), .int (nI v)] [.int (s_with (R 10) (nI c) (nI v)), .ref 85] (hb9, hl, X) _
  refine w_pi rfl rfl rfl rfl (T_kd (A_T85 S)) (T_64 (A_T85 S)) ?_
  refine w_N 1 49 [.ref 95, .ref 85, .int (nI c), .int (nI v)] [.int 1] rfl ?_
  refine w_rz rfl rfl (by decide) ?_
  exact ⟨rfl, _, rfl, dP_R (by decide) P⟩
theorem t_rMWpF1 {d : Nat} {hi : Nat → Nat → Int32} {hl : Nat → Nat → Int64} {X : lm_X} {hi0 : Nat → Nat → Int32} {T : lm_T} {n : Nat} {R : Nat → Int32} {tl : Nat → Int32} {ts p : Nat} (P : dP hi0 hi X T n R tl ts p) (hts : ts ≤ 250) (hp : p ≤ ts) {p1 : Nat} (q1 : tkE tl ts p = p1) (nF : nmO tl ts p1 0 1 = false) : lm_w (d + 10) 48 [.ref 95, .ref 85, .int 1] (hi, hl, X) (dF hi0 hl X (tkF tl ts p1)) := by
  obtain ⟨S, O, H, HR, HP, FF⟩ := id P
  refine lm_w_in (Nat.le_of_ble_eq_true rfl) ?_
  show lm_wp (d + 10) 48 0 [.ref 95, .ref 85, .int 1, lm_jk, lm_jk, lm_jk] [] (hi, hl, X) _
  refine w_N 1 1 [.ref 95, .ref 85, .int 1, lm_jk, lm_jk, lm_jk] [.ref 95] rfl ?_
  refine w_ca (w_vst rfl rfl rfl (Nat.le_of_ble_eq_true rfl) (Nat.le_of_ble_eq_true rfl) (A_k S 95 (by decide))) (t_adv (d := d + 8) S hts HP.1 HP.2.1 (tk_b (tl := tl) hp).2.2.2.1 HP.2.2.2.1) ?_
  rintro _ _ ⟨ha10, rfl, rfl, P_ha10, f_ha10⟩
  have hp := (tk_b (tl := tl) hp).2.2.2.1
  have P := dP_tp P P_ha10 f_ha10
  rw [q1] at P hp
  obtain ⟨S, O, H, HR, HP, FF⟩ := id P
  show lm_wp _ 48 4 [.ref 95, .ref 85, .int 1, lm_jk, lm_jk, lm_jk] [] (ha10, hl, X) _
  refine w_N 3 7 [.ref 95, .ref 85, .int 1, lm_jk, lm_jk, lm_jk] [.int 1, .int 0, .ref 95] rfl ?_
  refine w_cc (w_vst rfl rfl rfl (Nat.le_of_ble_eq_true rfl) (Nat.le_of_ble_eq_true rfl) (A_k S 95 (by decide))) (t_numF (d := d + 7) S O.2 hts hp HP nF) ?_
  show lm_wp _ 48 10 [.ref 95, .ref 85, .int 1, lm_jk, lm_jk, lm_jk] [.int (-1)] (ha10, hl, X) _
  refine w_N 3 13 [.ref 95, .ref 85, .int 1, .int (-1), lm_jk, lm_jk] [.int (-1), .int (-1)] rfl ?_
  refine w_icmp_ne_f (t := 20) rfl rfl (by decide) ?_
  refine w_N 5 32 [.ref 95, .ref 85, .int 1, .int (-1), .int (-1), lm_jk] [.int (-1), .int (-1)] rfl ?_
  refine w_icmp_ne_f (t := 39) rfl rfl (by decide) ?_
  refine w_N 5 51 [.ref 95, .ref 85, .int 1, .int (-1), .int (-1), .int (-1)] [.int (-1), .int (-1)] rfl ?_
  refine w_icmp_ne_f (t := 56) rfl rfl (by decide) ?_
  refine w_N 1 55 [.ref 95, .ref 85, .int 1, .int (-1), .int (-1), .int (-1)] [.int 0] rfl ?_
  refine w_rz rfl rfl (by decide) ?_
  exact ⟨rfl, _, rfl, FF, HP.2.2.1⟩
theorem t_rMWpF2 {d : Nat} {hi : Nat → Nat → Int32} {hl : Nat → Nat → Int64} {X : lm_X} {hi0 : Nat → Nat → Int32} {T : lm_T} {n : Nat} {R : Nat → Int32} {tl : Nat → Int32} {ts p : Nat} (P : dP hi0 hi X T n R tl ts p) (hts : ts ≤ 250) (hp : p ≤ ts) {p1 p2 : Nat} (q1 : tkE tl ts p = p1) (q2 : tkE tl ts p1 = p2) {h : Nat} (hh : h ≤ 1) (n1 : nmO tl ts p1 0 1 = true) (v1 : fgI tl ts p1 = nI h) (nF : nmO tl ts p2 0 7 = false) : lm_w (d + 10) 48 [.ref 95, .ref 85, .int 1] (hi, hl, X) (dF hi0 hl X (tkF tl ts p2)) := by
  obtain ⟨S, O, H, HR, HP, FF⟩ := id P
  refine lm_w_in (Nat.le_of_ble_eq_true rfl) ?_
  show lm_wp (d + 10) 48 0 [.ref 95, .ref 85, .int 1, lm_jk, lm_jk, lm_jk] [] (hi, hl, X) _
  refine w_N 1 1 [.ref 95, .ref 85, .int 1, lm_jk, lm_jk, lm_jk] [.ref 95] rfl ?_
  refine w_ca (w_vst rfl rfl rfl (Nat.le_of_ble_eq_true rfl) (Nat.le_of_ble_eq_true rfl) (A_k S 95 (by decide))) (t_adv (d := d + 8) S hts HP.1 HP.2.1 (tk_b (tl := tl) hp).2.2.2.1 HP.2.2.2.1) ?_
  rintro _ _ ⟨ha11, rfl, rfl, P_ha11, f_ha11⟩
  have hp := (tk_b (tl := tl) hp).2.2.2.1
  have P := dP_tp P P_ha11 f_ha11
  rw [q1] at P hp
  obtain ⟨S, O, H, HR, HP, FF⟩ := id P
  show lm_wp _ 48 4 [.ref 95, .ref 85, .int 1, lm_jk, lm_jk, lm_jk] [] (ha11, hl, X) _
  refine w_N 3 7 [.ref 95, .ref 85, .int 1, lm_jk, lm_jk, lm_jk] [.int 1, .int 0, .ref 95] rfl ?_
  refine w_ca (w_vst rfl rfl rfl (Nat.le_of_ble_eq_true rfl) (Nat.le_of_ble_eq_true rfl) (A_k S 95 (by decide))) (t_numT (d := d + 7) S O.2 hts hp HP n1 (by decide)) ?_
  rintro _ _ ⟨hb12, rfl, rfl, P_hb12, f_hb12⟩
  rw [v1]
  have hp := (tk_b (tl := tl) hp).2.2.2.1
  have P := dP_tp P P_hb12 f_hb12
  rw [q2] at P hp
  obtain ⟨S, O, H, HR, HP, FF⟩ := id P
  show lm_wp _ 48 10 [.ref 95, .ref 85, .int 1, lm_jk, lm_jk, lm_jk] [.int (nI h)] (hb12, hl, X) _
  refine w_N 3 13 [.ref 95, .ref 85, .int 1, .int (nI h), lm_jk, lm_jk] [.int (-1), .int (nI h)] rfl ?_
  refine w_icmp_ne_t (t := 20) rfl rfl (nI_n1 (by omega)) ?_
  refine w_N 3 24 [.ref 95, .ref 85, .int 1, .int (nI h), lm_jk, lm_jk] [.int 7, .int 0, .ref 95] rfl ?_
  refine w_cc (w_vst rfl rfl rfl (Nat.le_of_ble_eq_true rfl) (Nat.le_of_ble_eq_true rfl) (A_k S 95 (by decide))) (t_numF (d := d + 7) S O.2 hts hp HP nF) ?_
  show lm_wp _ 48 27 [.ref 95, .ref 85, .int 1, .int (nI h), lm_jk, lm_jk] [.int (-1)] (hb12, hl, X) _
  refine w_N 3 32 [.ref 95, .ref 85, .int 1, .int (nI h), .int (-1), lm_jk] [.int (-1), .int (-1)] rfl ?_
  refine w_icmp_ne_f (t := 39) rfl rfl (by decide) ?_
  refine w_N 5 51 [.ref 95, .ref 85, .int 1, .int (nI h), .int (-1), .int (-1)] [.int (-1), .int (-1)] rfl ?_
  refine w_icmp_ne_f (t := 56) rfl rfl (by decide) ?_
  refine w_N 1 55 [.ref 95, .ref 85, .int 1, .int (nI h), .int (-1), .int (-1)] [.int 0] rfl ?_
  refine w_rz rfl rfl (by decide) ?_
  exact ⟨rfl, _, rfl, FF, HP.2.2.1⟩
theorem t_rMWpF3 {d : Nat} {hi : Nat → Nat → Int32} {hl : Nat → Nat → Int64} {X : lm_X} {hi0 : Nat → Nat → Int32} {T : lm_T} {n : Nat} {R : Nat → Int32} {tl : Nat → Int32} {ts p : Nat} (P : dP hi0 hi X T n R tl ts p) (hts : ts ≤ 250) (hp : p ≤ ts) {p1 p2 p3 : Nat} (q1 : tkE tl ts p = p1) (q2 : tkE tl ts p1 = p2) (q3 : tkE tl ts p2 = p3) {h : Nat} (hh : h ≤ 1) (n1 : nmO tl ts p1 0 1 = true) (v1 : fgI tl ts p1 = nI h) {w : Nat} (hw : w ≤ 7) (n2 : nmO tl ts p2 0 7 = true) (v2 : fgI tl ts p2 = nI w) (nF : nmO tl ts p3 0 99 = false) : lm_w (d + 10) 48 [.ref 95, .ref 85, .int 1] (hi, hl, X) (dF hi0 hl X (tkF tl ts p3)) := by
  obtain ⟨S, O, H, HR, HP, FF⟩ := id P
  refine lm_w_in (Nat.le_of_ble_eq_true rfl) ?_
  show lm_wp (d + 10) 48 0 [.ref 95, .ref 85, .int 1, lm_jk, lm_jk, lm_jk] [] (hi, hl, X) _
  refine w_N 1 1 [.ref 95, .ref 85, .int 1, lm_jk, lm_jk, lm_jk] [.ref 95] rfl ?_
  refine w_ca (w_vst rfl rfl rfl (Nat.le_of_ble_eq_true rfl) (Nat.le_of_ble_eq_true rfl) (A_k S 95 (by decide))) (t_adv (d := d + 8) S hts HP.1 HP.2.1 (tk_b (tl := tl) hp).2.2.2.1 HP.2.2.2.1) ?_
  rintro _ _ ⟨ha13, rfl, rfl, P_ha13, f_ha13⟩
  have hp := (tk_b (tl := tl) hp).2.2.2.1
  have P := dP_tp P P_ha13 f_ha13
  rw [q1] at P hp
  obtain ⟨S, O, H, HR, HP, FF⟩ := id P
  show lm_wp _ 48 4 [.ref 95, .ref 85, .int 1, lm_jk, lm_jk, lm_jk] [] (ha13, hl, X) _
  refine w_N 3 7 [.ref 95, .ref 85, .int 1, lm_jk, lm_jk, lm_jk] [.int 1, .int 0, .ref 95] rfl ?_
  refine w_ca (w_vst rfl rfl rfl (Nat.le_of_ble_eq_true rfl) (Nat.le_of_ble_eq_true rfl) (A_k S 95 (by decide))) (t_numT (d := d + 7) S O.2 hts hp HP n1 (by decide)) ?_
  rintro _ _ ⟨hb14, rfl, rfl, P_hb14, f_hb14⟩
  rw [v1]
  have hp := (tk_b (tl := tl) hp).2.2.2.1
  have P := dP_tp P P_hb14 f_hb14
  rw [q2] at P hp
  obtain ⟨S, O, H, HR, HP, FF⟩ := id P
  show lm_wp _ 48 10 [.ref 95, .ref 85, .int 1, lm_jk, lm_jk, lm_jk] [.int (nI h)] (hb14, hl, X) _
  refine w_N 3 13 [.ref 95, .ref 85, .int 1, .int (nI h), lm_jk, lm_jk] [.int (-1), .int (nI h)] rfl ?_
  refine w_icmp_ne_t (t := 20) rfl rfl (nI_n1 (by omega)) ?_
  refine w_N 3 24 [.ref 95, .ref 85, .int 1, .int (nI h), lm_jk, lm_jk] [.int 7, .int 0, .ref 95] rfl ?_
  refine w_ca (w_vst rfl rfl rfl (Nat.le_of_ble_eq_true rfl) (Nat.le_of_ble_eq_true rfl) (A_k S 95 (by decide))) (t_numT (d := d + 7) S O.2 hts hp HP n2 (by decide)) ?_
  rintro _ _ ⟨hb15, rfl, rfl, P_hb15, f_hb15⟩
  rw [v2]
  have hp := (tk_b (tl := tl) hp).2.2.2.1
  have P := dP_tp P P_hb15 f_hb15
  rw [q3] at P hp
  obtain ⟨S, O, H, HR, HP, FF⟩ := id P
  show lm_wp _ 48 27 [.ref 95, .ref 85, .int 1, .int (nI h), lm_jk, lm_jk] [.int (nI w)] (hb15, hl, X) _
  refine w_N 3 32 [.ref 95, .ref 85, .int 1, .int (nI h), .int (nI w), lm_jk] [.int (-1), .int (nI w)] rfl ?_
  refine w_icmp_ne_t (t := 39) rfl rfl (nI_n1 (by omega)) ?_
  refine w_N 3 43 [.ref 95, .ref 85, .int 1, .int (nI h), .int (nI w), lm_jk] [.int 99, .int 0, .ref 95] rfl ?_
  refine w_cc (w_vst rfl rfl rfl (Nat.le_of_ble_eq_true rfl) (Nat.le_of_ble_eq_true rfl) (A_k S 95 (by decide))) (t_numF (d := d + 7) S O.2 hts hp HP nF) ?_
  show lm_wp _ 48 46 [.ref 95, .ref 85, .int 1, .int (nI h), .int (nI w), lm_jk] [.int (-1)] (hb15, hl, X) _
  refine w_N 3 51 [.ref 95, .ref 85, .int 1, .int (nI h), .int (nI w), .int (-1)] [.int (-1), .int (-1)] rfl ?_
  refine w_icmp_ne_f (t := 56) rfl rfl (by decide) ?_
  refine w_N 1 55 [.ref 95, .ref 85, .int 1, .int (nI h), .int (nI w), .int (-1)] [.int 0] rfl ?_
  refine w_rz rfl rfl (by decide) ?_
  exact ⟨rfl, _, rfl, FF, HP.2.2.1⟩
theorem t_rMWpT {d : Nat} {hi : Nat → Nat → Int32} {hl : Nat → Nat → Int64} {X : lm_X} {hi0 : Nat → Nat → Int32} {T : lm_T} {n : Nat} {R : Nat → Int32} {tl : Nat → Int32} {ts p : Nat} (P : dP hi0 hi X T n R tl ts p) (hts : ts ≤ 250) (hp : p ≤ ts) {p1 p2 p3 p4 : Nat} (q1 : tkE tl ts p = p1) (q2 : tkE tl ts p1 = p2) (q3 : tkE tl ts p2 = p3) (q4 : tkE tl ts p3 = p4) {h : Nat} (hh : h ≤ 1) (n1 : nmO tl ts p1 0 1 = true) (v1 : fgI tl ts p1 = nI h) {w : Nat} (hw : w ≤ 7) (n2 : nmO tl ts p2 0 7 = true) (v2 : fgI tl ts p2 = nI w) {v : Nat} (hv : v ≤ 99) (n3 : nmO tl ts p3 0 99 = true) (v3 : fgI tl ts p3 = nI v) : lm_w (d + 10) 48 [.ref 95, .ref 85, .int 1] (hi, hl, X) (dT hi0 hl X (lm_up T 7 (12 * h + w) (1 * nI v)) n R tl ts p4) := by
  obtain ⟨S, O, H, HR, HP, FF⟩ := id P
  refine lm_w_in (Nat.le_of_ble_eq_true rfl) ?_
  show lm_wp (d + 10) 48 0 [.ref 95, .ref 85, .int 1, lm_jk, lm_jk, lm_jk] [] (hi, hl, X) _
  refine w_N 1 1 [.ref 95, .ref 85, .int 1, lm_jk, lm_jk, lm_jk] [.ref 95] rfl ?_
  refine w_ca (w_vst rfl rfl rfl (Nat.le_of_ble_eq_true rfl) (Nat.le_of_ble_eq_true rfl) (A_k S 95 (by decide))) (t_adv (d := d + 8) S hts HP.1 HP.2.1 (tk_b (tl := tl) hp).2.2.2.1 HP.2.2.2.1) ?_
  rintro _ _ ⟨ha16, rfl, rfl, P_ha16, f_ha16⟩
  have hp := (tk_b (tl := tl) hp).2.2.2.1
  have P := dP_tp P P_ha16 f_ha16
  rw [q1] at P hp
  obtain ⟨S, O, H, HR, HP, FF⟩ := id P
  show lm_wp _ 48 4 [.ref 95, .ref 85, .int 1, lm_jk, lm_jk, lm_jk] [] (ha16, hl, X) _
  refine w_N 3 7 [.ref 95, .ref 85, .int 1, lm_jk, lm_jk, lm_jk] [.int 1, .int 0, .ref 95] rfl ?_
  refine w_ca (w_vst rfl rfl rfl (Nat.le_of_ble_eq_true rfl) (Nat.le_of_ble_eq_true rfl) (A_k S 95 (by decide))) (t_numT (d := d + 7) S O.2 hts hp HP n1 (by decide)) ?_
  rintro _ _ ⟨hb17, rfl, rfl, P_hb17, f_hb17⟩
  rw [v1]
  have hp := (tk_b (tl := tl) hp).2.2.2.1
  have P := dP_tp P P_hb17 f_hb17
  rw [q2] at P hp
  obtain ⟨S, O, H, HR, HP, FF⟩ := id P
  show lm_wp _ 48 10 [.ref 95, .ref 85, .int 1, lm_jk, lm_jk, lm_jk] [.int (nI h)] (hb17, hl, X) _
  refine w_N 3 13 [.ref 95, .ref 85, .int 1, .int (nI h), lm_jk, lm_jk] [.int (-1), .int (nI h)] rfl ?_
  refine w_icmp_ne_t (t := 20) rfl rfl (nI_n1 (by omega)) ?_
  refine w_N 3 24 [.ref 95, .ref 85, .int 1, .int (nI h), lm_jk, lm_jk] [.int 7, .int 0, .ref 95] rfl ?_
  refine w_ca (w_vst rfl rfl rfl (Nat.le_of_ble_eq_true rfl) (Nat.le_of_ble_eq_true rfl) (A_k S 95 (by decide))) (t_numT (d := d + 7) S O.2 hts hp HP n2 (by decide)) ?_
  rintro _ _ ⟨hb18, rfl, rfl, P_hb18, f_hb18⟩
  rw [v2]
  have hp := (tk_b (tl := tl) hp).2.2.2.1
  have P := dP_tp P P_hb18 f_hb18
  rw [q3] at P hp
  obtain ⟨S, O, H, HR, HP, FF⟩ := id P
  show lm_wp _ 48 27 [.ref 95, .ref 85, .int 1, .int (nI h), lm_jk, lm_jk] [.int (nI w)] (hb18, hl, X) _
  refine w_N 3 32 [.ref 95, .ref 85, .int 1, .int (nI h), .int (nI w), lm_jk] [.int (-1), .int (nI w)] rfl ?_
  refine w_icmp_ne_t (t := 39) rfl rfl (nI_n1 (by omega)) ?_
  refine w_N 3 43 [.ref 95, .ref 85, .int 1, .int (nI h), .int (nI w), lm_jk] [.int 99, .int 0, .ref 95] rfl ?_
  refine w_ca (w_vst rfl rfl rfl (Nat.le_of_ble_eq_true rfl) (Nat.le_of_ble_eq_true rfl) (A_k S 95 (by decide))) (t_numT (d := d + 7) S O.2 hts hp HP n3 (by decide)) ?_
  rintro _ _ ⟨hb19, rfl, rfl, P_hb19, f_hb19⟩
  rw [v3]
  have hp := (tk_b (tl := tl) hp).2.2.2.1
  have P := dP_tp P P_hb19 f_hb19
  rw [q4] at P hp
  obtain ⟨S, O, H, HR, HP, FF⟩ := id P
  show lm_wp _ 48 46 [.ref 95, .ref 85, .int 1, .int (nI h), .int (nI w), lm_jk] [.int (nI v)] (hb19, hl, X) _
  refine w_N 3 51 [.ref 95, .ref 85, .int 1, .int (nI h), .int (nI w), .int (nI v)] [.int (-1), .int (nI v)] rfl ?_
  refine w_icmp_ne_t (t := 56) rfl rfl (nI_n1 (by omega)) ?_
  refine w_N 6 64 [.ref 95, .ref 85, .int 1, .int (nI h), .int (nI w), .int (nI v)] [.int (1 * (nI v)), .int (nI w), .int (nI h), .ref 85] rfl ?_
  refine w_ca (w_vst rfl rfl rfl (Nat.le_of_ble_eq_true rfl) (Nat.le_of_ble_eq_true rfl) (T_kd (A_T85 S))) (t_setWorth (d := d + 9) (hf := h) (w := w) (A_T85 S) H HR (by omega) (by omega)) ?_
  rintro _ _ ⟨h9x, rfl, rfl, H9, R9, c9, f9⟩
  have P := dP_town P f9 H9 R9
  show lm_wp _ 48 67 [.ref 95, .ref 85, .int 1, .int (nI h), .int (nI w), .int (nI v)] [] (h9x, hl, X) _
  refine w_N 1 68 [.ref 95, .ref 85, .int 1, .int (nI h), .int (nI w), .int (nI v)] [.int 1] rfl ?_
  refine w_rz rfl rfl (by decide) ?_
  exact ⟨rfl, _, rfl, P⟩
theorem t_rMWmF1 {d : Nat} {hi : Nat → Nat → Int32} {hl : Nat → Nat → Int64} {X : lm_X} {hi0 : Nat → Nat → Int32} {T : lm_T} {n : Nat} {R : Nat → Int32} {tl : Nat → Int32} {ts p : Nat} (P : dP hi0 hi X T n R tl ts p) (hts : ts ≤ 250) (hp : p ≤ ts) {p1 : Nat} (q1 : tkE tl ts p = p1) (nF : nmO tl ts p1 0 1 = false) : lm_w (d + 10) 48 [.ref 95, .ref 85, .int (-1)] (hi, hl, X) (dF hi0 hl X (tkF tl ts p1)) := by
  obtain ⟨S, O, H, HR, HP, FF⟩ := id P
  refine lm_w_in (Nat.le_of_ble_eq_true rfl) ?_
  show lm_wp (d + 10) 48 0 [.ref 95, .ref 85, .int (-1), lm_jk, lm_jk, lm_jk] [] (hi, hl, X) _
  refine w_N 1 1 [.ref 95, .ref 85, .int (-1), lm_jk, lm_jk, lm_jk] [.ref 95] rfl ?_
  refine w_ca (w_vst rfl rfl rfl (Nat.le_of_ble_eq_true rfl) (Nat.le_of_ble_eq_true rfl) (A_k S 95 (by decide))) (t_adv (d := d + 8) S hts HP.1 HP.2.1 (tk_b (tl := tl) hp).2.2.2.1 HP.2.2.2.1) ?_
  rintro _ _ ⟨ha20, rfl, rfl, P_ha20, f_ha20⟩
  have hp := (tk_b (tl := tl) hp).2.2.2.1
  have P := dP_tp P P_ha20 f_ha20
  rw [q1] at P hp
  obtain ⟨S, O, H, HR, HP, FF⟩ := id P
  show lm_wp _ 48 4 [.ref 95, .ref 85, .int (-1), lm_jk, lm_jk, lm_jk] [] (ha20, hl, X) _
  refine w_N 3 7 [.ref 95, .ref 85, .int (-1), lm_jk, lm_jk, lm_jk] [.int 1, .int 0, .ref 95] rfl ?_
  refine w_cc (w_vst rfl rfl rfl (Nat.le_of_ble_eq_true rfl) (Nat.le_of_ble_eq_true rfl) (A_k S 95 (by decide))) (t_numF (d := d + 7) S O.2 hts hp HP nF) ?_
  show lm_wp _ 48 10 [.ref 95, .ref 85, .int (-1), lm_jk, lm_jk, lm_jk] [.int (-1)] (ha20, hl, X) _
  refine w_N 3 13 [.ref 95, .ref 85, .int (-1), .int (-1), lm_jk, lm_jk] [.int (-1), .int (-1)] rfl ?_
  refine w_icmp_ne_f (t := 20) rfl rfl (by decide) ?_
  refine w_N 5 32 [.ref 95, .ref 85, .int (-1), .int (-1), .int (-1), lm_jk] [.int (-1), .int (-1)] rfl ?_
  refine w_icmp_ne_f (t := 39) rfl rfl (by decide) ?_
  refine w_N 5 51 [.ref 95, .ref 85, .int (-1), .int (-1), .int (-1), .int (-1)] [.int (-1), .int (-1)] rfl ?_
  refine w_icmp_ne_f (t := 56) rfl rfl (by decide) ?_
  refine w_N 1 55 [.ref 95, .ref 85, .int (-1), .int (-1), .int (-1), .int (-1)] [.int 0] rfl ?_
  refine w_rz rfl rfl (by decide) ?_
  exact ⟨rfl, _, rfl, FF, HP.2.2.1⟩
theorem t_rMWmF2 {d : Nat} {hi : Nat → Nat → Int32} {hl : Nat → Nat → Int64} {X : lm_X} {hi0 : Nat → Nat → Int32} {T : lm_T} {n : Nat} {R : Nat → Int32} {tl : Nat → Int32} {ts p : Nat} (P : dP hi0 hi X T n R tl ts p) (hts : ts ≤ 250) (hp : p ≤ ts) {p1 p2 : Nat} (q1 : tkE tl ts p = p1) (q2 : tkE tl ts p1 = p2) {h : Nat} (hh : h ≤ 1) (n1 : nmO tl ts p1 0 1 = true) (v1 : fgI tl ts p1 = nI h) (nF : nmO tl ts p2 0 7 = false) : lm_w (d + 10) 48 [.ref 95, .ref 85, .int (-1)] (hi, hl, X) (dF hi0 hl X (tkF tl ts p2)) := by
  obtain ⟨S, O, H, HR, HP, FF⟩ := id P
  refine lm_w_in (Nat.le_of_ble_eq_true rfl) ?_
  show lm_wp (d + 10) 48 0 [.ref 95, .ref 85, .int (-1), lm_jk, lm_jk, lm_jk] [] (hi, hl, X) _
  refine w_N 1 1 [.ref 95, .ref 85, .int (-1), lm_jk, lm_jk, lm_jk] [.ref 95] rfl ?_
  refine w_ca (w_vst rfl rfl rfl (Nat.le_of_ble_eq_true rfl) (Nat.le_of_ble_eq_true rfl) (A_k S 95 (by decide))) (t_adv (d := d + 8) S hts HP.1 HP.2.1 (tk_b (tl := tl) hp).2.2.2.1 HP.2.2.2.1) ?_
  rintro _ _ ⟨ha21, rfl, rfl, P_ha21, f_ha21⟩
  have hp := (tk_b (tl := tl) hp).2.2.2.1
  have P := dP_tp P P_ha21 f_ha21
  rw [q1] at P hp
  obtain ⟨S, O, H, HR, HP, FF⟩ := id P
  show lm_wp _ 48 4 [.ref 95, .ref 85, .int (-1), lm_jk, lm_jk, lm_jk] [] (ha21, hl, X) _
  refine w_N 3 7 [.ref 95, .ref 85, .int (-1), lm_jk, lm_jk, lm_jk] [.int 1, .int 0, .ref 95] rfl ?_
  refine w_ca (w_vst rfl rfl rfl (Nat.le_of_ble_eq_true rfl) (Nat.le_of_ble_eq_true rfl) (A_k S 95 (by decide))) (t_numT (d := d + 7) S O.2 hts hp HP n1 (by decide)) ?_
  rintro _ _ ⟨hb22, rfl, rfl, P_hb22, f_hb22⟩
  rw [v1]
  have hp := (tk_b (tl := tl) hp).2.2.2.1
  have P := dP_tp P P_hb22 f_hb22
  rw [q2] at P hp
  obtain ⟨S, O, H, HR, HP, FF⟩ := id P
  show lm_wp _ 48 10 [.ref 95, .ref 85, .int (-1), lm_jk, lm_jk, lm_jk] [.int (nI h)] (hb22, hl, X) _
  refine w_N 3 13 [.ref 95, .ref 85, .int (-1), .int (nI h), lm_jk, lm_jk] [.int (-1), .int (nI h)] rfl ?_
  refine w_icmp_ne_t (t := 20) rfl rfl (nI_n1 (by omega)) ?_
  refine w_N 3 24 [.ref 95, .ref 85, .int (-1), .int (nI h), lm_jk, lm_jk] [.int 7, .int 0, .ref 95] rfl ?_
  refine w_cc (w_vst rfl rfl rfl (Nat.le_of_ble_eq_true rfl) (Nat.le_of_ble_eq_true rfl) (A_k S 95 (by decide))) (t_numF (d := d + 7) S O.2 hts hp HP nF) ?_
  show lm_wp _ 48 27 [.ref 95, .ref 85, .int (-1), .int (nI h), lm_jk, lm_jk] [.int (-1)] (hb22, hl, X) _
  refine w_N 3 32 [.ref 95, .ref 85, .int (-1), .int (nI h), .int (-1), lm_jk] [.int (-1), .int (-1)] rfl ?_
  refine w_icmp_ne_f (t := 39) rfl rfl (by decide) ?_
  refine w_N 5 51 [.ref 95, .ref 85, .int (-1), .int (nI h), .int (-1), .int (-1)] [.int (-1), .int (-1)] rfl ?_
  refine w_icmp_ne_f (t := 56) rfl rfl (by decide) ?_
  refine w_N 1 55 [.ref 95, .ref 85, .int (-1), .int (nI h), .int (-1), .int (-1)] [.int 0] rfl ?_
  refine w_rz rfl rfl (by decide) ?_
  exact ⟨rfl, _, rfl, FF, HP.2.2.1⟩
theorem t_rMWmF3 {d : Nat} {hi : Nat → Nat → Int32} {hl : Nat → Nat → Int64} {X : lm_X} {hi0 : Nat → Nat → Int32} {T : lm_T} {n : Nat} {R : Nat → Int32} {tl : Nat → Int32} {ts p : Nat} (P : dP hi0 hi X T n R tl ts p) (hts : ts ≤ 250) (hp : p ≤ ts) {p1 p2 p3 : Nat} (q1 : tkE tl ts p = p1) (q2 : tkE tl ts p1 = p2) (q3 : tkE tl ts p2 = p3) {h : Nat} (hh : h ≤ 1) (n1 : nmO tl ts p1 0 1 = true) (v1 : fgI tl ts p1 = nI h) {w : Nat} (hw : w ≤ 7) (n2 : nmO tl ts p2 0 7 = true) (v2 : fgI tl ts p2 = nI w) (nF : nmO tl ts p3 0 99 = false) : lm_w (d + 10) 48 [.ref 95, .ref 85, .int (-1)] (hi, hl, X) (dF hi0 hl X (tkF tl ts p3)) := by
  obtain ⟨S, O, H, HR, HP, FF⟩ := id P
  refine lm_w_in (Nat.le_of_ble_eq_true rfl) ?_
  show lm_wp (d + 10) 48 0 [.ref 95, .ref 85, .int (-1), lm_jk, lm_jk, lm_jk] [] (hi, hl, X) _
  refine w_N 1 1 [.ref 95, .ref 85, .int (-1), lm_jk, lm_jk, lm_jk] [.ref 95] rfl ?_
  refine w_ca (w_vst rfl rfl rfl (Nat.le_of_ble_eq_true rfl) (Nat.le_of_ble_eq_true rfl) (A_k S 95 (by decide))) (t_adv (d := d + 8) S hts HP.1 HP.2.1 (tk_b (tl := tl) hp).2.2.2.1 HP.2.2.2.1) ?_
  rintro _ _ ⟨ha23, rfl, rfl, P_ha23, f_ha23⟩
  have hp := (tk_b (tl := tl) hp).2.2.2.1
  have P := dP_tp P P_ha23 f_ha23
  rw [q1] at P hp
  obtain ⟨S, O, H, HR, HP, FF⟩ := id P
  show lm_wp _ 48 4 [.ref 95, .ref 85, .int (-1), lm_jk, lm_jk, lm_jk] [] (ha23, hl, X) _
  refine w_N 3 7 [.ref 95, .ref 85, .int (-1), lm_jk, lm_jk, lm_jk] [.int 1, .int 0, .ref 95] rfl ?_
  refine w_ca (w_vst rfl rfl rfl (Nat.le_of_ble_eq_true rfl) (Nat.le_of_ble_eq_true rfl) (A_k S 95 (by decide))) (t_numT (d := d + 7) S O.2 hts hp HP n1 (by decide)) ?_
  rintro _ _ ⟨hb24, rfl, rfl, P_hb24, f_hb24⟩
  rw [v1]
  have hp := (tk_b (tl := tl) hp).2.2.2.1
  have P := dP_tp P P_hb24 f_hb24
  rw [q2] at P hp
  obtain ⟨S, O, H, HR, HP, FF⟩ := id P
  show lm_wp _ 48 10 [.ref 95, .ref 85, .int (-1), lm_jk, lm_jk, lm_jk] [.int (nI h)] (hb24, hl, X) _
  refine w_N 3 13 [.ref 95, .ref 85, .int (-1), .int (nI h), lm_jk, lm_jk] [.int (-1), .int (nI h)] rfl ?_
  refine w_icmp_ne_t (t := 20) rfl rfl (nI_n1 (by omega)) ?_
  refine w_N 3 24 [.ref 95, .ref 85, .int (-1), .int (nI h), lm_jk, lm_jk] [.int 7, .int 0, .ref 95] rfl ?_
  refine w_ca (w_vst rfl rfl rfl (Nat.le_of_ble_eq_true rfl) (Nat.le_of_ble_eq_true rfl) (A_k S 95 (by decide))) (t_numT (d := d + 7) S O.2 hts hp HP n2 (by decide)) ?_
  rintro _ _ ⟨hb25, rfl, rfl, P_hb25, f_hb25⟩
  rw [v2]
  have hp := (tk_b (tl := tl) hp).2.2.2.1
  have P := dP_tp P P_hb25 f_hb25
  rw [q3] at P hp
  obtain ⟨S, O, H, HR, HP, FF⟩ := id P
  show lm_wp _ 48 27 [.ref 95, .ref 85, .int (-1), .int (nI h), lm_jk, lm_jk] [.int (nI w)] (hb25, hl, X) _
  refine w_N 3 32 [.ref 95, .ref 85, .int (-1), .int (nI h), .int (nI w), lm_jk] [.int (-1), .int (nI w)] rfl ?_
  refine w_icmp_ne_t (t := 39) rfl rfl (nI_n1 (by omega)) ?_
  refine w_N 3 43 [.ref 95, .ref 85, .int (-1), .int (nI h), .int (nI w), lm_jk] [.int 99, .int 0, .ref 95] rfl ?_
  refine w_cc (w_vst rfl rfl rfl (Nat.le_of_ble_eq_true rfl) (Nat.le_of_ble_eq_true rfl) (A_k S 95 (by decide))) (t_numF (d := d + 7) S O.2 hts hp HP nF) ?_
  show lm_wp _ 48 46 [.ref 95, .ref 85, .int (-1), .int (nI h), .int (nI w), lm_jk] [.int (-1)] (hb25, hl, X) _
  refine w_N 3 51 [.ref 95, .ref 85, .int (-1), .int (nI h), .int (nI w), .int (-1)] [.int (-1), .int (-1)] rfl ?_
  refine w_icmp_ne_f (t := 56) rfl rfl (by decide) ?_
  refine w_N 1 55 [.ref 95, .ref 85, .int (-1), .int (nI h), .int (nI w), .int (-1)] [.int 0] rfl ?_
  refine w_rz rfl rfl (by decide) ?_
  exact ⟨rfl, _, rfl, FF, HP.2.2.1⟩
theorem t_rMWmT {d : Nat} {hi : Nat → Nat → Int32} {hl : Nat → Nat → Int64} {X : lm_X} {hi0 : Nat → Nat → Int32} {T : lm_T} {n : Nat} {R : Nat → Int32} {tl : Nat → Int32} {ts p : Nat} (P : dP hi0 hi X T n R tl ts p) (hts : ts ≤ 250) (hp : p ≤ ts) {p1 p2 p3 p4 : Nat} (q1 : tkE tl ts p = p1) (q2 : tkE tl ts p1 = p2) (q3 : tkE tl ts p2 = p3) (q4 : tkE tl ts p3 = p4) {h : Nat} (hh : h ≤ 1) (n1 : nmO tl ts p1 0 1 = true) (v1 : fgI tl ts p1 = nI h) {w : Nat} (hw : w ≤ 7) (n2 : nmO tl ts p2 0 7 = true) (v2 : fgI tl ts p2 = nI w) {v : Nat} (hv : v ≤ 99) (n3 : nmO tl ts p3 0 99 = true) (v3 : fgI tl ts p3 = nI v) : lm_w (d + 10) 48 [.ref 95, .ref 85, .int (-1)] (hi, hl, X) (dT hi0 hl X (lm_up T 7 (12 * h + w) ((-1) * nI v)) n R tl ts p4) := by
  obtain ⟨S, O, H, HR, HP, FF⟩ := id P
  refine lm_w_in (Nat.le_of_ble_eq_true rfl) ?_
  show lm_wp (d + 10) 48 0 [.ref 95, .ref 85, .int (-1), lm_jk, lm_jk, lm_jk] [] (hi, hl, X) _
  refine w_N 1 1 [.ref 95, .ref 85, .int (-1), lm_jk, lm_jk, lm_jk] [.ref 95] rfl ?_
  refine w_ca (w_vst rfl rfl rfl (Nat.le_of_ble_eq_true rfl) (Nat.le_of_ble_eq_true rfl) (A_k S 95 (by decide))) (t_adv (d := d + 8) S hts HP.1 HP.2.1 (tk_b (tl := tl) hp).2.2.2.1 HP.2.2.2.1) ?_
  rintro _ _ ⟨ha26, rfl, rfl, P_ha26, f_ha26⟩
  have hp := (tk_b (tl := tl) hp).2.2.2.1
  have P := dP_tp P P_ha26 f_ha26
  rw [q1] at P hp
  obtain ⟨S, O, H, HR, HP, FF⟩ := id P
  show lm_wp _ 48 4 [.ref 95, .ref 85, .int (-1), lm_jk, lm_jk, lm_jk] [] (ha26, hl, X) _
  refine w_N 3 7 [.ref 95, .ref 85, .int (-1), lm_jk, lm_jk, lm_jk] [.int 1, .int 0, .ref 95] rfl ?_
  refine w_ca (w_vst rfl rfl rfl (Nat.le_of_ble_eq_true rfl) (Nat.le_of_ble_eq_true rfl) (A_k S 95 (by decide))) (t_numT (d := d + 7) S O.2 hts hp HP n1 (by decide)) ?_
  rintro _ _ ⟨hb27, rfl, rfl, P_hb27, f_hb27⟩
  rw [v1]
  have hp := (tk_b (tl := tl) hp).2.2.2.1
  have P := dP_tp P P_hb27 f_hb27
  rw [q2] at P hp
  obtain ⟨S, O, H, HR, HP, FF⟩ := id P
  show lm_wp _ 48 10 [.ref 95, .ref 85, .int (-1), lm_jk, lm_jk, lm_jk] [.int (nI h)] (hb27, hl, X) _
  refine w_N 3 13 [.ref 95, .ref 85, .int (-1), .int (nI h), lm_jk, lm_jk] [.int (-1), .int (nI h)] rfl ?_
  refine w_icmp_ne_t (t := 20) rfl rfl (nI_n1 (by omega)) ?_
  refine w_N 3 24 [.ref 95, .ref 85, .int (-1), .int (nI h), lm_jk, lm_jk] [.int 7, .int 0, .ref 95] rfl ?_
  refine w_ca (w_vst rfl rfl rfl (Nat.le_of_ble_eq_true rfl) (Nat.le_of_ble_eq_true rfl) (A_k S 95 (by decide))) (t_numT (d := d + 7) S O.2 hts hp HP n2 (by decide)) ?_
  rintro _ _ ⟨hb28, rfl, rfl, P_hb28, f_hb28⟩
  rw [v2]
  have hp := (tk_b (tl := tl) hp).2.2.2.1
  have P := dP_tp P P_hb28 f_hb28
  rw [q3] at P hp
  obtain ⟨S, O, H, HR, HP, FF⟩ := id P
  show lm_wp _ 48 27 [.ref 95, .ref 85, .int (-1), .int (nI h), lm_jk, lm_jk] [.int (nI w)] (hb28, hl, X) _
  refine w_N 3 32 [.ref 95, .ref 85, .int (-1), .int (nI h), .int (nI w), lm_jk] [.int (-1), .int (nI w)] rfl ?_
  refine w_icmp_ne_t (t := 39) rfl rfl (nI_n1 (by omega)) ?_
  refine w_N 3 43 [.ref 95, .ref 85, .int (-1), .int (nI h), .int (nI w), lm_jk] [.int 99, .int 0, .ref 95] rfl ?_
  refine w_ca (w_vst rfl rfl rfl (Nat.le_of_ble_eq_true rfl) (Nat.le_of_ble_eq_true rfl) (A_k S 95 (by decide))) (t_numT (d := d + 7) S O.2 hts hp HP n3 (by decide)) ?_
  rintro _ _ ⟨hb29, rfl, rfl, P_hb29, f_hb29⟩
  rw [v3]
  have hp := (tk_b (tl := tl) hp).2.2.2.1
  have P := dP_tp P P_hb29 f_hb29
  rw [q4] at P hp
  obtain ⟨S, O, H, HR, HP, FF⟩ := id P
  show lm_wp _ 48 46 [.ref 95, .ref 85, .int (-1), .int (nI h), .int (nI w), lm_jk] [.int (nI v)] (hb29, hl, X) _
  refine w_N 3 51 [.ref 95, .ref 85, .int (-1), .int (nI h), .int (nI w), .int (nI v)] [.int (-1), .int (nI v)] rfl ?_
  refine w_icmp_ne_t (t := 56) rfl rfl (nI_n1 (by omega)) ?_
  refine w_N 6 64 [.ref 95, .ref 85, .int (-1), .int (nI h), .int (nI w), .int (nI v)] [.int ((-1) * (nI v)), .int (nI w), .int (nI h), .ref 85] rfl ?_
  refine w_ca (w_vst rfl rfl rfl (Nat.le_of_ble_eq_true rfl) (Nat.le_of_ble_eq_true rfl) (T_kd (A_T85 S))) (t_setWorth (d := d + 9) (hf := h) (w := w) (A_T85 S) H HR (by omega) (by omega)) ?_
  rintro _ _ ⟨h9x, rfl, rfl, H9, R9, c9, f9⟩
  have P := dP_town P f9 H9 R9
  show lm_wp _ 48 67 [.ref 95, .ref 85, .int (-1), .int (nI h), .int (nI w), .int (nI v)] [] (h9x, hl, X) _
  refine w_N 1 68 [.ref 95, .ref 85, .int (-1), .int (nI h), .int (nI w), .int (nI v)] [.int 1] rfl ?_
  refine w_rz rfl rfl (by decide) ?_
  exact ⟨rfl, _, rfl, P⟩
theorem t_rCWpF1 {d : Nat} {hi : Nat → Nat → Int32} {hl : Nat → Nat → Int64} {X : lm_X} {hi0 : Nat → Nat → Int32} {T : lm_T} {n : Nat} {R : Nat → Int32} {tl : Nat → Int32} {ts p : Nat} (P : dP hi0 hi X T n R tl ts p) (hts : ts ≤ 250) (hp : p ≤ ts) {p1 : Nat} (q1 : tkE tl ts p = p1) (nF : nmO tl ts p1 0 1 = false) : lm_w (d + 10) 49 [.ref 95, .ref 85, .int 1] (hi, hl, X) (dF hi0 hl X (tkF tl ts p1)) := by
  obtain ⟨S, O, H, HR, HP, FF⟩ := id P
  refine lm_w_in (Nat.le_of_ble_eq_true rfl) ?_
  show lm_wp (d + 10) 49 0 [.ref 95, .ref 85, .int 1, lm_jk, lm_jk, lm_jk] [] (hi, hl, X) _
  refine w_N 1 1 [.ref 95, .ref 85, .int 1, lm_jk, lm_jk, lm_jk] [.ref 95] rfl ?_
  refine w_ca (w_vst rfl rfl rfl (Nat.le_of_ble_eq_true rfl) (Nat.le_of_ble_eq_true rfl) (A_k S 95 (by decide))) (t_adv (d := d + 8) S hts HP.1 HP.2.1 (tk_b (tl := tl) hp).2.2.2.1 HP.2.2.2.1) ?_
  rintro _ _ ⟨ha30, rfl, rfl, P_ha30, f_ha30⟩
  have hp := (tk_b (tl := tl) hp).2.2.2.1
  have P := dP_tp P P_ha30 f_ha30
  rw [q1] at P hp
  obtain ⟨S, O, H, HR, HP, FF⟩ := id P
  show lm_wp _ 49 4 [.ref 95, .ref 85, .int 1, lm_jk, lm_jk, lm_jk] [] (ha30, hl, X) _
  refine w_N 3 7 [.ref 95, .ref 85, .int 1, lm_jk, lm_jk, lm_jk] [.int 1, .int 0, .ref 95] rfl ?_
  refine w_cc (w_vst rfl rfl rfl (Nat.le_of_ble_eq_true rfl) (Nat.le_of_ble_eq_true rfl) (A_k S 95 (by decide))) (t_numF (d := d + 7) S O.2 hts hp HP nF) ?_
  show lm_wp _ 49 10 [.ref 95, .ref 85, .int 1, lm_jk, lm_jk, lm_jk] [.int (-1)] (ha30, hl, X) _
  refine w_N 3 13 [.ref 95, .ref 85, .int 1, .int (-1), lm_jk, lm_jk] [.int (-1), .int (-1)] rfl ?_
  refine w_icmp_ne_f (t := 20) rfl rfl (by decide) ?_
  refine w_N 5 31 [.ref 95, .ref 85, .int 1, .int (-1), .int (-1), lm_jk] [.int (-1), .int (-1)] rfl ?_
  refine w_icmp_ne_f (t := 38) rfl rfl (by decide) ?_
  refine w_N 5 50 [.ref 95, .ref 85, .int 1, .int (-1), .int (-1), .int (-1)] [.int (-1), .int (-1)] rfl ?_
  refine w_icmp_ne_f (t := 55) rfl rfl (by decide) ?_
  refine w_N 1 54 [.ref 95, .ref 85, .int 1, .int (-1), .int (-1), .int (-1)] [.int 0] rfl ?_
  refine w_rz rfl rfl (by decide) ?_
  exact ⟨rfl, _, rfl, FF, HP.2.2.1⟩
theorem t_rCWpF2 {d : Nat} {hi : Nat → Nat → Int32} {hl : Nat → Nat → Int64} {X : lm_X} {hi0 : Nat → Nat → Int32} {T : lm_T} {n : Nat} {R : Nat → Int32} {tl : Nat → Int32} {ts p : Nat} (P : dP hi0 hi X T n R tl ts p) (hts : ts ≤ 250) (hp : p ≤ ts) {p1 p2 : Nat} (q1 : tkE tl ts p = p1) (q2 : tkE tl ts p1 = p2) {h : Nat} (hh : h ≤ 1) (n1 : nmO tl ts p1 0 1 = true) (v1 : fgI tl ts p1 = nI h) (nF : nmO tl ts p2 0 3 = false) : lm_w (d + 10) 49 [.ref 95, .ref 85, .int 1] (hi, hl, X) (dF hi0 hl X (tkF tl ts p2)) := by
  obtain ⟨S, O, H, HR, HP, FF⟩ := id P
  refine lm_w_in (Nat.le_of_ble_eq_true rfl) ?_
  show lm_wp (d + 10) 49 0 [.ref 95, .ref 85, .int 1, lm_jk, lm_jk, lm_jk] [] (hi, hl, X) _
  refine w_N 1 1 [.ref 95, .ref 85, .int 1, lm_jk, lm_jk, lm_jk] [.ref 95] rfl ?_
  refine w_ca (w_vst rfl rfl rfl (Nat.le_of_ble_eq_true rfl) (Nat.le_of_ble_eq_true rfl) (A_k S 95 (by decide))) (t_adv (d := d + 8) S hts HP.1 HP.2.1 (tk_b (tl := tl) hp).2.2.2.1 HP.2.2.2.1) ?_
  rintro _ _ ⟨ha31, rfl, rfl, P_ha31, f_ha31⟩
  have hp := (tk_b (tl := tl) hp).2.2.2.1
  have P := dP_tp P P_ha31 f_ha31
  rw [q1] at P hp
  obtain ⟨S, O, H, HR, HP, FF⟩ := id P
  show lm_wp _ 49 4 [.ref 95, .ref 85, .int 1, lm_jk, lm_jk, lm_jk] [] (ha31, hl, X) _
  refine w_N 3 7 [.ref 95, .ref 85, .int 1, lm_jk, lm_jk, lm_jk] [.int 1, .int 0, .ref 95] rfl ?_
  refine w_ca (w_vst rfl rfl rfl (Nat.le_of_ble_eq_true rfl) (Nat.le_of_ble_eq_true rfl) (A_k S 95 (by decide))) (t_numT (d := d + 7) S O.2 hts hp HP n1 (by decide)) ?_
  rintro _ _ ⟨hb32, rfl, rfl, P_hb32, f_hb32⟩
  rw [v1]
  have hp := (tk_b (tl := tl) hp).2.2.2.1
  have P := dP_tp P P_hb32 f_hb32
  rw [q2] at P hp
  obtain ⟨S, O, H, HR, HP, FF⟩ := id P
  show lm_wp _ 49 10 [.ref 95, .ref 85, .int 1, lm_jk, lm_jk, lm_jk] [.int (nI h)] (hb32, hl, X) _
  refine w_N 3 13 [.ref 95, .ref 85, .int 1, .int (nI h), lm_jk, lm_jk] [.int (-1), .int (nI h)] rfl ?_
  refine w_icmp_ne_t (t := 20) rfl rfl (nI_n1 (by omega)) ?_
  refine w_N 3 23 [.ref 95, .ref 85, .int 1, .int (nI h), lm_jk, lm_jk] [.int 3, .int 0, .ref 95] rfl ?_
  refine w_cc (w_vst rfl rfl rfl (Nat.le_of_ble_eq_true rfl) (Nat.le_of_ble_eq_true rfl) (A_k S 95 (by decide))) (t_numF (d := d + 7) S O.2 hts hp HP nF) ?_
  show lm_wp _ 49 26 [.ref 95, .ref 85, .int 1, .int (nI h), lm_jk, lm_jk] [.int (-1)] (hb32, hl, X) _
  refine w_N 3 31 [.ref 95, .ref 85, .int 1, .int (nI h), .int (-1), lm_jk] [.int (-1), .int (-1)] rfl ?_
  refine w_icmp_ne_f (t := 38) rfl rfl (by decide) ?_
  refine w_N 5 50 [.ref 95, .ref 85, .int 1, .int (nI h), .int (-1), .int (-1)] [.int (-1), .int (-1)] rfl ?_
  refine w_icmp_ne_f (t := 55) rfl rfl (by decide) ?_
  refine w_N 1 54 [.ref 95, .ref 85, .int 1, .int (nI h), .int (-1), .int (-1)] [.int 0] rfl ?_
  refine w_rz rfl rfl (by decide) ?_
  exact ⟨rfl, _, rfl, FF, HP.2.2.1⟩
theorem t_rCWpF3 {d : Nat} {hi : Nat → Nat → Int32} {hl : Nat → Nat → Int64} {X : lm_X} {hi0 : Nat → Nat → Int32} {T : lm_T} {n : Nat} {R : Nat → Int32} {tl : Nat → Int32} {ts p : Nat} (P : dP hi0 hi X T n R tl ts p) (hts : ts ≤ 250) (hp : p ≤ ts) {p1 p2 p3 : Nat} (q1 : tkE tl ts p = p1) (q2 : tkE tl ts p1 = p2) (q3 : tkE tl ts p2 = p3) {h : Nat} (hh : h ≤ 1) (n1 : nmO tl ts p1 0 1 = true) (v1 : fgI tl ts p1 = nI h) {w : Nat} (hw : w ≤ 3) (n2 : nmO tl ts p2 0 3 = true) (v2 : fgI tl ts p2 = nI w) (nF : nmO tl ts p3 0 9 = false) : lm_w (d + 10) 49 [.ref 95, .ref 85, .int 1] (hi, hl, X) (dF hi0 hl X (tkF tl ts p3)) := by
  obtain ⟨S, O, H, HR, HP, FF⟩ := id P
  refine lm_w_in (Nat.le_of_ble_eq_true rfl) ?_
  show lm_wp (d + 10) 49 0 [.ref 95, .ref 85, .int 1, lm_jk, lm_jk, lm_jk] [] (hi, hl, X) _
  refine w_N 1 1 [.ref 95, .ref 85, .int 1, lm_jk, lm_jk, lm_jk] [.ref 95] rfl ?_
  refine w_ca (w_vst rfl rfl rfl (Nat.le_of_ble_eq_true rfl) (Nat.le_of_ble_eq_true rfl) (A_k S 95 (by decide))) (t_adv (d := d + 8) S hts HP.1 HP.2.1 (tk_b (tl := tl) hp).2.2.2.1 HP.2.2.2.1) ?_
  rintro _ _ ⟨ha33, rfl, rfl, P_ha33, f_ha33⟩
  have hp := (tk_b (tl := tl) hp).2.2.2.1
  have P := dP_tp P P_ha33 f_ha33
  rw [q1] at P hp
  obtain ⟨S, O, H, HR, HP, FF⟩ := id P
  show lm_wp _ 49 4 [.ref 95, .ref 85, .int 1, lm_jk, lm_jk, lm_jk] [] (ha33, hl, X) _
  refine w_N 3 7 [.ref 95, .ref 85, .int 1, lm_jk, lm_jk, lm_jk] [.int 1, .int 0, .ref 95] rfl ?_
  refine w_ca (w_vst rfl rfl rfl (Nat.le_of_ble_eq_true rfl) (Nat.le_of_ble_eq_true rfl) (A_k S 95 (by decide))) (t_numT (d := d + 7) S O.2 hts hp HP n1 (by decide)) ?_
  rintro _ _ ⟨hb34, rfl, rfl, P_hb34, f_hb34⟩
  rw [v1]
  have hp := (tk_b (tl := tl) hp).2.2.2.1
  have P := dP_tp P P_hb34 f_hb34
  rw [q2] at P hp
  obtain ⟨S, O, H, HR, HP, FF⟩ := id P
  show lm_wp _ 49 10 [.ref 95, .ref 85, .int 1, lm_jk, lm_jk, lm_jk] [.int (nI h)] (hb34, hl, X) _
  refine w_N 3 13 [.ref 95, .ref 85, .int 1, .int (nI h), lm_jk, lm_jk] [.int (-1), .int (nI h)] rfl ?_
  refine w_icmp_ne_t (t := 20) rfl rfl (nI_n1 (by omega)) ?_
  refine w_N 3 23 [.ref 95, .ref 85, .int 1, .int (nI h), lm_jk, lm_jk] [.int 3, .int 0, .ref 95] rfl ?_
  refine w_ca (w_vst rfl rfl rfl (Nat.le_of_ble_eq_true rfl) (Nat.le_of_ble_eq_true rfl) (A_k S 95 (by decide))) (t_numT (d := d + 7) S O.2 hts hp HP n2 (by decide)) ?_
  rintro _ _ ⟨hb35, rfl, rfl, P_hb35, f_hb35⟩
  rw [v2]
  have hp := (tk_b (tl := tl) hp).2.2.2.1
  have P := dP_tp P P_hb35 f_hb35
  rw [q3] at P hp
  obtain ⟨S, O, H, HR, HP, FF⟩ := id P
  show lm_wp _ 49 26 [.ref 95, .ref 85, .int 1, .int (nI h), lm_jk, lm_jk] [.int (nI w)] (hb35, hl, X) _
  refine w_N 3 31 [.ref 95, .ref 85, .int 1, .int (nI h), .int (nI w), lm_jk] [.int (-1), .int (nI w)] rfl ?_
  refine w_icmp_ne_t (t := 38) rfl rfl (nI_n1 (by omega)) ?_
  refine w_N 3 42 [.ref 95, .ref 85, .int 1, .int (nI h), .int (nI w), lm_jk] [.int 9, .int 0, .ref 95] rfl ?_
  refine w_cc (w_vst rfl rfl rfl (Nat.le_of_ble_eq_true rfl) (Nat.le_of_ble_eq_true rfl) (A_k S 95 (by decide))) (t_numF (d := d + 7) S O.2 hts hp HP nF) ?_
  show lm_wp _ 49 45 [.ref 95, .ref 85, .int 1, .int (nI h), .int (nI w), lm_jk] [.int (-1)] (hb35, hl, X) _
  refine w_N 3 50 [.ref 95, .ref 85, .int 1, .int (nI h), .int (nI w), .int (-1)] [.int (-1), .int (-1)] rfl ?_
  refine w_icmp_ne_f (t := 55) rfl rfl (by decide) ?_
  refine w_N 1 54 [.ref 95, .ref 85, .int 1, .int (nI h), .int (nI w), .int (-1)] [.int 0] rfl ?_
  refine w_rz rfl rfl (by decide) ?_
  exact ⟨rfl, _, rfl, FF, HP.2.2.1⟩
theorem t_rCWpT {d : Nat} {hi : Nat → Nat → Int32} {hl : Nat → Nat → Int64} {X : lm_X} {hi0 : Nat → Nat → Int32} {T : lm_T} {n : Nat} {R : Nat → Int32} {tl : Nat → Int32} {ts p : Nat} (P : dP hi0 hi X T n R tl ts p) (hts : ts ≤ 250) (hp : p ≤ ts) {p1 p2 p3 p4 : Nat} (q1 : tkE tl ts p = p1) (q2 : tkE tl ts p1 = p2) (q3 : tkE tl ts p2 = p3) (q4 : tkE tl ts p3 = p4) {h : Nat} (hh : h ≤ 1) (n1 : nmO tl ts p1 0 1 = true) (v1 : fgI tl ts p1 = nI h) {w : Nat} (hw : w ≤ 3) (n2 : nmO tl ts p2 0 3 = true) (v2 : fgI tl ts p2 = nI w) {v : Nat} (hv : v ≤ 9) (n3 : nmO tl ts p3 0 9 = true) (v3 : fgI tl ts p3 = nI v) : lm_w (d + 10) 49 [.ref 95, .ref 85, .int 1] (hi, hl, X) (dT hi0 hl X (lm_up T 7 (12 * h + (8 + w)) (1 * nI v)) n R tl ts p4) := by
  obtain ⟨S, O, H, HR, HP, FF⟩ := id P
  refine lm_w_in (Nat.le_of_ble_eq_true rfl) ?_
  show lm_wp (d + 10) 49 0 [.ref 95, .ref 85, .int 1, lm_jk, lm_jk, lm_jk] [] (hi, hl, X) _
  refine w_N 1 1 [.ref 95, .ref 85, .int 1, lm_jk, lm_jk, lm_jk] [.ref 95] rfl ?_
  refine w_ca (w_vst rfl rfl rfl (Nat.le_of_ble_eq_true rfl) (Nat.le_of_ble_eq_true rfl) (A_k S 95 (by decide))) (t_adv (d := d + 8) S hts HP.1 HP.2.1 (tk_b (tl := tl) hp).2.2.2.1 HP.2.2.2.1) ?_
  rintro _ _ ⟨ha36, rfl, rfl, P_ha36, f_ha36⟩
  have hp := (tk_b (tl := tl) hp).2.2.2.1
  have P := dP_tp P P_ha36 f_ha36
  rw [q1] at P hp
  obtain ⟨S, O, H, HR, HP, FF⟩ := id P
  show lm_wp _ 49 4 [.ref 95, .ref 85, .int 1, lm_jk, lm_jk, lm_jk] [] (ha36, hl, X) _
  refine w_N 3 7 [.ref 95, .ref 85, .int 1, lm_jk, lm_jk, lm_jk] [.int 1, .int 0, .ref 95] rfl ?_
  refine w_ca (w_vst rfl rfl rfl (Nat.le_of_ble_eq_true rfl) (Nat.le_of_ble_eq_true rfl) (A_k S 95 (by decide))) (t_numT (d := d + 7) S O.2 hts hp HP n1 (by decide)) ?_
  rintro _ _ ⟨hb37, rfl, rfl, P_hb37, f_hb37⟩
  rw [v1]
  have hp := (tk_b (tl := tl) hp).2.2.2.1
  have P := dP_tp P P_hb37 f_hb37
  rw [q2] at P hp
  obtain ⟨S, O, H, HR, HP, FF⟩ := id P
  show lm_wp _ 49 10 [.ref 95, .ref 85, .int 1, lm_jk, lm_jk, lm_jk] [.int (nI h)] (hb37, hl, X) _
  refine w_N 3 13 [.ref 95, .ref 85, .int 1, .int (nI h), lm_jk, lm_jk] [.int (-1), .int (nI h)] rfl ?_
  refine w_icmp_ne_t (t := 20) rfl rfl (nI_n1 (by omega)) ?_
  refine w_N 3 23 [.ref 95, .ref 85, .int 1, .int (nI h), lm_jk, lm_jk] [.int 3, .int 0, .ref 95] rfl ?_
  refine w_ca (w_vst rfl rfl rfl (Nat.le_of_ble_eq_true rfl) (Nat.le_of_ble_eq_true rfl) (A_k S 95 (by decide))) (t_numT (d := d + 7) S O.2 hts hp HP n2 (by decide)) ?_
  rintro _ _ ⟨hb38, rfl, rfl, P_hb38, f_hb38⟩
  rw [v2]
  have hp := (tk_b (tl := tl) hp).2.2.2.1
  have P := dP_tp P P_hb38 f_hb38
  rw [q3] at P hp
  obtain ⟨S, O, H, HR, HP, FF⟩ := id P
  show lm_wp _ 49 26 [.ref 95, .ref 85, .int 1, .int (nI h), lm_jk, lm_jk] [.int (nI w)] (hb38, hl, X) _
  refine w_N 3 31 [.ref 95, .ref 85, .int 1, .int (nI h), .int (nI w), lm_jk] [.int (-1), .int (nI w)] rfl ?_
  refine w_icmp_ne_t (t := 38) rfl rfl (nI_n1 (by omega)) ?_
  refine w_N 3 42 [.ref 95, .ref 85, .int 1, .int (nI h), .int (nI w), lm_jk] [.int 9, .int 0, .ref 95] rfl ?_
  refine w_ca (w_vst rfl rfl rfl (Nat.le_of_ble_eq_true rfl) (Nat.le_of_ble_eq_true rfl) (A_k S 95 (by decide))) (t_numT (d := d + 7) S O.2 hts hp HP n3 (by decide)) ?_
  rintro _ _ ⟨hb39, rfl, rfl, P_hb39, f_hb39⟩
  rw [v3]
  have hp := (tk_b (tl := tl) hp).2.2.2.1
  have P := dP_tp P P_hb39 f_hb39
  rw [q4] at P hp
  obtain ⟨S, O, H, HR, HP, FF⟩ := id P
  show lm_wp _ 49 45 [.ref 95, .ref 85, .int 1, .int (nI h), .int (nI w), lm_jk] [.int (nI v)] (hb39, hl, X) _
  refine w_N 3 50 [.ref 95, .ref 85, .int 1, .int (nI h), .int (nI w), .int (nI v)] [.int (-1), .int (nI v)] rfl ?_
  refine w_icmp_ne_t (t := 55) rfl rfl (nI_n1 (by omega)) ?_
  refine w_N 8 66 [.ref 95, .ref 85, .int 1, .int (nI h), .int (nI w), .int (nI v)] [.int (1 * (nI v)), .int (8 + (nI w)), .int (nI h), .ref 85] rfl ?_
  rw [show (8 : Int32) + nI w = nI (8 + w) from nI_add' 8 w]
  refine w_ca (w_vst rfl rfl rfl (Nat.le_of_ble_eq_true rfl) (Nat.le_of_ble_eq_true rfl) (T_kd (A_T85 S))) (t_setWorth (d := d + 9) (hf := h) (w := 8 + w) (A_T85 S) H HR (by omega) (by omega)) ?_
  rintro _ _ ⟨h9x, rfl, rfl, H9, R9, c9, f9⟩
  have P := dP_town P f9 H9 R9
  show lm_wp _ 49 69 [.ref 95, .ref 85, .int 1, .int (nI h), .int (nI w), .int (nI v)] [] (h9x, hl, X) _
  refine w_N 1 70 [.ref 95, .ref 85, .int 1, .int (nI h), .int (nI w), .int (nI v)] [.int 1] rfl ?_
  refine w_rz rfl rfl (by decide) ?_
  exact ⟨rfl, _, rfl, P⟩
theorem t_rCWmF1 {d : Nat} {hi : Nat → Nat → Int32} {hl : Nat → Nat → Int64} {X : lm_X} {hi0 : Nat → Nat → Int32} {T : lm_T} {n : Nat} {R : Nat → Int32} {tl : Nat → Int32} {ts p : Nat} (P : dP hi0 hi X T n R tl ts p) (hts : ts ≤ 250) (hp : p ≤ ts) {p1 : Nat} (q1 : tkE tl ts p = p1) (nF : nmO tl ts p1 0 1 = false) : lm_w (d + 10) 49 [.ref 95, .ref 85, .int (-1)] (hi, hl, X) (dF hi0 hl X (tkF tl ts p1)) := by
  obtain ⟨S, O, H, HR, HP, FF⟩ := id P
  refine lm_w_in (Nat.le_of_ble_eq_true rfl) ?_
  show lm_wp (d + 10) 49 0 [.ref 95, .ref 85, .int (-1), lm_jk, lm_jk, lm_jk] [] (hi, hl, X) _
  refine w_N 1 1 [.ref 95, .ref 85, .int (-1), lm_jk, lm_jk, lm_jk] [.ref 95] rfl ?_
  refine w_ca (w_vst rfl rfl rfl (Nat.le_of_ble_eq_true rfl) (Nat.le_of_ble_eq_true rfl) (A_k S 95 (by decide))) (t_adv (d := d + 8) S hts HP.1 HP.2.1 (tk_b (tl := tl) hp).2.2.2.1 HP.2.2.2.1) ?_
  rintro _ _ ⟨ha40, rfl, rfl, P_ha40, f_ha40⟩
  have hp := (tk_b (tl := tl) hp).2.2.2.1
  have P := dP_tp P P_ha40 f_ha40
  rw [q1] at P hp
  obtain ⟨S, O, H, HR, HP, FF⟩ := id P
  show lm_wp _ 49 4 [.ref 95, .ref 85, .int (-1), lm_jk, lm_jk, lm_jk] [] (ha40, hl, X) _
  refine w_N 3 7 [.ref 95, .ref 85, .int (-1), lm_jk, lm_jk, lm_jk] [.int 1, .int 0, .ref 95] rfl ?_
  refine w_cc (w_vst rfl rfl rfl (Nat.le_of_ble_eq_true rfl) (Nat.le_of_ble_eq_true rfl) (A_k S 95 (by decide))) (t_numF (d := d + 7) S O.2 hts hp HP nF) ?_
  show lm_wp _ 49 10 [.ref 95, .ref 85, .int (-1), lm_jk, lm_jk, lm_jk] [.int (-1)] (ha40, hl, X) _
  refine w_N 3 13 [.ref 95, .ref 85, .int (-1), .int (-1), lm_jk, lm_jk] [.int (-1), .int (-1)] rfl ?_
  refine w_icmp_ne_f (t := 20) rfl rfl (by decide) ?_
  refine w_N 5 31 [.ref 95, .ref 85, .int (-1), .int (-1), .int (-1), lm_jk] [.int (-1), .int (-1)] rfl ?_
  refine w_icmp_ne_f (t := 38) rfl rfl (by decide) ?_
  refine w_N 5 50 [.ref 95, .ref 85, .int (-1), .int (-1), .int (-1), .int (-1)] [.int (-1), .int (-1)] rfl ?_
  refine w_icmp_ne_f (t := 55) rfl rfl (by decide) ?_
  refine w_N 1 54 [.ref 95, .ref 85, .int (-1), .int (-1), .int (-1), .int (-1)] [.int 0] rfl ?_
  refine w_rz rfl rfl (by decide) ?_
  exact ⟨rfl, _, rfl, FF, HP.2.2.1⟩
theorem t_rCWmF2 {d : Nat} {hi : Nat → Nat → Int32} {hl : Nat → Nat → Int64} {X : lm_X} {hi0 : Nat → Nat → Int32} {T : lm_T} {n : Nat} {R : Nat → Int32} {tl : Nat → Int32} {ts p : Nat} (P : dP hi0 hi X T n R tl ts p) (hts : ts ≤ 250) (hp : p ≤ ts) {p1 p2 : Nat} (q1 : tkE tl ts p = p1) (q2 : tkE tl ts p1 = p2) {h : Nat} (hh : h ≤ 1) (n1 : nmO tl ts p1 0 1 = true) (v1 : fgI tl ts p1 = nI h) (nF : nmO tl ts p2 0 3 = false) : lm_w (d + 10) 49 [.ref 95, .ref 85, .int (-1)] (hi, hl, X) (dF hi0 hl X (tkF tl ts p2)) := by
  obtain ⟨S, O, H, HR, HP, FF⟩ := id P
  refine lm_w_in (Nat.le_of_ble_eq_true rfl) ?_
  show lm_wp (d + 10) 49 0 [.ref 95, .ref 85, .int (-1), lm_jk, lm_jk, lm_jk] [] (hi, hl, X) _
  refine w_N 1 1 [.ref 95, .ref 85, .int (-1), lm_jk, lm_jk, lm_jk] [.ref 95] rfl ?_
  refine w_ca (w_vst rfl rfl rfl (Nat.le_of_ble_eq_true rfl) (Nat.le_of_ble_eq_true rfl) (A_k S 95 (by decide))) (t_adv (d := d + 8) S hts HP.1 HP.2.1 (tk_b (tl := tl) hp).2.2.2.1 HP.2.2.2.1) ?_
  rintro _ _ ⟨ha41, rfl, rfl, P_ha41, f_ha41⟩
  have hp := (tk_b (tl := tl) hp).2.2.2.1
  have P := dP_tp P P_ha41 f_ha41
  rw [q1] at P hp
  obtain ⟨S, O, H, HR, HP, FF⟩ := id P
  show lm_wp _ 49 4 [.ref 95, .ref 85, .int (-1), lm_jk, lm_jk, lm_jk] [] (ha41, hl, X) _
  refine w_N 3 7 [.ref 95, .ref 85, .int (-1), lm_jk, lm_jk, lm_jk] [.int 1, .int 0, .ref 95] rfl ?_
  refine w_ca (w_vst rfl rfl rfl (Nat.le_of_ble_eq_true rfl) (Nat.le_of_ble_eq_true rfl) (A_k S 95 (by decide))) (t_numT (d := d + 7) S O.2 hts hp HP n1 (by decide)) ?_
  rintro _ _ ⟨hb42, rfl, rfl, P_hb42, f_hb42⟩
  rw [v1]
  have hp := (tk_b (tl := tl) hp).2.2.2.1
  have P := dP_tp P P_hb42 f_hb42
  rw [q2] at P hp
  obtain ⟨S, O, H, HR, HP, FF⟩ := id P
  show lm_wp _ 49 10 [.ref 95, .ref 85, .int (-1), lm_jk, lm_jk, lm_jk] [.int (nI h)] (hb42, hl, X) _
  refine w_N 3 13 [.ref 95, .ref 85, .int (-1), .int (nI h), lm_jk, lm_jk] [.int (-1), .int (nI h)] rfl ?_
  refine w_icmp_ne_t (t := 20) rfl rfl (nI_n1 (by omega)) ?_
  refine w_N 3 23 [.ref 95, .ref 85, .int (-1), .int (nI h), lm_jk, lm_jk] [.int 3, .int 0, .ref 95] rfl ?_
  refine w_cc (w_vst rfl rfl rfl (Nat.le_of_ble_eq_true rfl) (Nat.le_of_ble_eq_true rfl) (A_k S 95 (by decide))) (t_numF (d := d + 7) S O.2 hts hp HP nF) ?_
  show lm_wp _ 49 26 [.ref 95, .ref 85, .int (-1), .int (nI h), lm_jk, lm_jk] [.int (-1)] (hb42, hl, X) _
  refine w_N 3 31 [.ref 95, .ref 85, .int (-1), .int (nI h), .int (-1), lm_jk] [.int (-1), .int (-1)] rfl ?_
  refine w_icmp_ne_f (t := 38) rfl rfl (by decide) ?_
  refine w_N 5 50 [.ref 95, .ref 85, .int (-1), .int (nI h), .int (-1), .int (-1)] [.int (-1), .int (-1)] rfl ?_
  refine w_icmp_ne_f (t := 55) rfl rfl (by decide) ?_
  refine w_N 1 54 [.ref 95, .ref 85, .int (-1), .int (nI h), .int (-1), .int (-1)] [.int 0] rfl ?_
  refine w_rz rfl rfl (by decide) ?_
  exact ⟨rfl, _, rfl, FF, HP.2.2.1⟩
theorem t_rCWmF3 {d : Nat} {hi : Nat → Nat → Int32} {hl : Nat → Nat → Int64} {X : lm_X} {hi0 : Nat → Nat → Int32} {T : lm_T} {n : Nat} {R : Nat → Int32} {tl : Nat → Int32} {ts p : Nat} (P : dP hi0 hi X T n R tl ts p) (hts : ts ≤ 250) (hp : p ≤ ts) {p1 p2 p3 : Nat} (q1 : tkE tl ts p = p1) (q2 : tkE tl ts p1 = p2) (q3 : tkE tl ts p2 = p3) {h : Nat} (hh : h ≤ 1) (n1 : nmO tl ts p1 0 1 = true) (v1 : fgI tl ts p1 = nI h) {w : Nat} (hw : w ≤ 3) (n2 : nmO tl ts p2 0 3 = true) (v2 : fgI tl ts p2 = nI w) (nF : nmO tl ts p3 0 9 = false) : lm_w (d + 10) 49 [.ref 95, .ref 85, .int (-1)] (hi, hl, X) (dF hi0 hl X (tkF tl ts p3)) := by
  obtain ⟨S, O, H, HR, HP, FF⟩ := id P
  refine lm_w_in (Nat.le_of_ble_eq_true rfl) ?_
  show lm_wp (d + 10) 49 0 [.ref 95, .ref 85, .int (-1), lm_jk, lm_jk, lm_jk] [] (hi, hl, X) _
  refine w_N 1 1 [.ref 95, .ref 85, .int (-1), lm_jk, lm_jk, lm_jk] [.ref 95] rfl ?_
  refine w_ca (w_vst rfl rfl rfl (Nat.le_of_ble_eq_true rfl) (Nat.le_of_ble_eq_true rfl) (A_k S 95 (by decide))) (t_adv (d := d + 8) S hts HP.1 HP.2.1 (tk_b (tl := tl) hp).2.2.2.1 HP.2.2.2.1) ?_
  rintro _ _ ⟨ha43, rfl, rfl, P_ha43, f_ha43⟩
  have hp := (tk_b (tl := tl) hp).2.2.2.1
  have P := dP_tp P P_ha43 f_ha43
  rw [q1] at P hp
  obtain ⟨S, O, H, HR, HP, FF⟩ := id P
  show lm_wp _ 49 4 [.ref 95, .ref 85, .int (-1), lm_jk, lm_jk, lm_jk] [] (ha43, hl, X) _
  refine w_N 3 7 [.ref 95, .ref 85, .int (-1), lm_jk, lm_jk, lm_jk] [.int 1, .int 0, .ref 95] rfl ?_
  refine w_ca (w_vst rfl rfl rfl (Nat.le_of_ble_eq_true rfl) (Nat.le_of_ble_eq_true rfl) (A_k S 95 (by decide))) (t_numT (d := d + 7) S O.2 hts hp HP n1 (by decide)) ?_
  rintro _ _ ⟨hb44, rfl, rfl, P_hb44, f_hb44⟩
  rw [v1]
  have hp := (tk_b (tl := tl) hp).2.2.2.1
  have P := dP_tp P P_hb44 f_hb44
  rw [q2] at P hp
  obtain ⟨S, O, H, HR, HP, FF⟩ := id P
  show lm_wp _ 49 10 [.ref 95, .ref 85, .int (-1), lm_jk, lm_jk, lm_jk] [.int (nI h)] (hb44, hl, X) _
  refine w_N 3 13 [.ref 95, .ref 85, .int (-1), .int (nI h), lm_jk, lm_jk] [.int (-1), .int (nI h)] rfl ?_
  refine w_icmp_ne_t (t := 20) rfl rfl (nI_n1 (by omega)) ?_
  refine w_N 3 23 [.ref 95, .ref 85, .int (-1), .int (nI h), lm_jk, lm_jk] [.int 3, .int 0, .ref 95] rfl ?_
  refine w_ca (w_vst rfl rfl rfl (Nat.le_of_ble_eq_true rfl) (Nat.le_of_ble_eq_true rfl) (A_k S 95 (by decide))) (t_numT (d := d + 7) S O.2 hts hp HP n2 (by decide)) ?_
  rintro _ _ ⟨hb45, rfl, rfl, P_hb45, f_hb45⟩
  rw [v2]
  have hp := (tk_b (tl := tl) hp).2.2.2.1
  have P := dP_tp P P_hb45 f_hb45
  rw [q3] at P hp
  obtain ⟨S, O, H, HR, HP, FF⟩ := id P
  show lm_wp _ 49 26 [.ref 95, .ref 85, .int (-1), .int (nI h), lm_jk, lm_jk] [.int (nI w)] (hb45, hl, X) _
  refine w_N 3 31 [.ref 95, .ref 85, .int (-1), .int (nI h), .int (nI w), lm_jk] [.int (-1), .int (nI w)] rfl ?_
  refine w_icmp_ne_t (t := 38) rfl rfl (nI_n1 (by omega)) ?_
  refine w_N 3 42 [.ref 95, .ref 85, .int (-1), .int (nI h), .int (nI w), lm_jk] [.int 9, .int 0, .ref 95] rfl ?_
  refine w_cc (w_vst rfl rfl rfl (Nat.le_of_ble_eq_true rfl) (Nat.le_of_ble_eq_true rfl) (A_k S 95 (by decide))) (t_numF (d := d + 7) S O.2 hts hp HP nF) ?_
  show lm_wp _ 49 45 [.ref 95, .ref 85, .int (-1), .int (nI h), .int (nI w), lm_jk] [.int (-1)] (hb45, hl, X) _
  refine w_N 3 50 [.ref 95, .ref 85, .int (-1), .int (nI h), .int (nI w), .int (-1)] [.int (-1), .int (-1)] rfl ?_
  refine w_icmp_ne_f (t := 55) rfl rfl (by decide) ?_
  refine w_N 1 54 [.ref 95, .ref 85, .int (-1), .int (nI h), .int (nI w), .int (-1)] [.int 0] rfl ?_
  refine w_rz rfl rfl (by decide) ?_
  exact ⟨rfl, _, rfl, FF, HP.2.2.1⟩
theorem t_rCWmT {d : Nat} {hi : Nat → Nat → Int32} {hl : Nat → Nat → Int64} {X : lm_X} {hi0 : Nat → Nat → Int32} {T : lm_T} {n : Nat} {R : Nat → Int32} {tl : Nat → Int32} {ts p : Nat} (P : dP hi0 hi X T n R tl ts p) (hts : ts ≤ 250) (hp : p ≤ ts) {p1 p2 p3 p4 : Nat} (q1 : tkE tl ts p = p1) (q2 : tkE tl ts p1 = p2) (q3 : tkE tl ts p2 = p3) (q4 : tkE tl ts p3 = p4) {h : Nat} (hh : h ≤ 1) (n1 : nmO tl ts p1 0 1 = true) (v1 : fgI tl ts p1 = nI h) {w : Nat} (hw : w ≤ 3) (n2 : nmO tl ts p2 0 3 = true) (v2 : fgI tl ts p2 = nI w) {v : Nat} (hv : v ≤ 9) (n3 : nmO tl ts p3 0 9 = true) (v3 : fgI tl ts p3 = nI v) : lm_w (d + 10) 49 [.ref 95, .ref 85, .int (-1)] (hi, hl, X) (dT hi0 hl X (lm_up T 7 (12 * h + (8 + w)) ((-1) * nI v)) n R tl ts p4) := by
  obtain ⟨S, O, H, HR, HP, FF⟩ := id P
  refine lm_w_in (Nat.le_of_ble_eq_true rfl) ?_
  show lm_wp (d + 10) 49 0 [.ref 95, .ref 85, .int (-1), lm_jk, lm_jk, lm_jk] [] (hi, hl, X) _
  refine w_N 1 1 [.ref 95, .ref 85, .int (-1), lm_jk, lm_jk, lm_jk] [.ref 95] rfl ?_
  refine w_ca (w_vst rfl rfl rfl (Nat.le_of_ble_eq_true rfl) (Nat.le_of_ble_eq_true rfl) (A_k S 95 (by decide))) (t_adv (d := d + 8) S hts HP.1 HP.2.1 (tk_b (tl := tl) hp).2.2.2.1 HP.2.2.2.1) ?_
  rintro _ _ ⟨ha46, rfl, rfl, P_ha46, f_ha46⟩
  have hp := (tk_b (tl := tl) hp).2.2.2.1
  have P := dP_tp P P_ha46 f_ha46
  rw [q1] at P hp
  obtain ⟨S, O, H, HR, HP, FF⟩ := id P
  show lm_wp _ 49 4 [.ref 95, .ref 85, .int (-1), lm_jk, lm_jk, lm_jk] [] (ha46, hl, X) _
  refine w_N 3 7 [.ref 95, .ref 85, .int (-1), lm_jk, lm_jk, lm_jk] [.int 1, .int 0, .ref 95] rfl ?_
  refine w_ca (w_vst rfl rfl rfl (Nat.le_of_ble_eq_true rfl) (Nat.le_of_ble_eq_true rfl) (A_k S 95 (by decide))) (t_numT (d := d + 7) S O.2 hts hp HP n1 (by decide)) ?_
  rintro _ _ ⟨hb47, rfl, rfl, P_hb47, f_hb47⟩
  rw [v1]
  have hp := (tk_b (tl := tl) hp).2.2.2.1
  have P := dP_tp P P_hb47 f_hb47
  rw [q2] at P hp
  obtain ⟨S, O, H, HR, HP, FF⟩ := id P
  show lm_wp _ 49 10 [.ref 95, .ref 85, .int (-1), lm_jk, lm_jk, lm_jk] [.int (nI h)] (hb47, hl, X) _
  refine w_N 3 13 [.ref 95, .ref 85, .int (-1), .int (nI h), lm_jk, lm_jk] [.int (-1), .int (nI h)] rfl ?_
  refine w_icmp_ne_t (t := 20) rfl rfl (nI_n1 (by omega)) ?_
  refine w_N 3 23 [.ref 95, .ref 85, .int (-1), .int (nI h), lm_jk, lm_jk] [.int 3, .int 0, .ref 95] rfl ?_
  refine w_ca (w_vst rfl rfl rfl (Nat.le_of_ble_eq_true rfl) (Nat.le_of_ble_eq_true rfl) (A_k S 95 (by decide))) (t_numT (d := d + 7) S O.2 hts hp HP n2 (by decide)) ?_
  rintro _ _ ⟨hb48, rfl, rfl, P_hb48, f_hb48⟩
  rw [v2]
  have hp := (tk_b (tl := tl) hp).2.2.2.1
  have P := dP_tp P P_hb48 f_hb48
  rw [q3] at P hp
  obtain ⟨S, O, H, HR, HP, FF⟩ := id P
  show lm_wp _ 49 26 [.ref 95, .ref 85, .int (-1), .int (nI h), lm_jk, lm_jk] [.int (nI w)] (hb48, hl, X) _
  refine w_N 3 31 [.ref 95, .ref 85, .int (-1), .int (nI h), .int (nI w), lm_jk] [.int (-1), .int (nI w)] rfl ?_
  refine w_icmp_ne_t (t := 38) rfl rfl (nI_n1 (by omega)) ?_
  refine w_N 3 42 [.ref 95, .ref 85, .int (-1), .int (nI h), .int (nI w), lm_jk] [.int 9, .int 0, .ref 95] rfl ?_
  refine w_ca (w_vst rfl rfl rfl (Nat.le_of_ble_eq_true rfl) (Nat.le_of_ble_eq_true rfl) (A_k S 95 (by decide))) (t_numT (d := d + 7) S O.2 hts hp HP n3 (by decide)) ?_
  rintro _ _ ⟨hb49, rfl, rfl, P_hb49, f_hb49⟩
  rw [v3]
  have hp := (tk_b (tl := tl) hp).2.2.2.1
  have P := dP_tp P P_hb49 f_hb49
  rw [q4] at P hp
  obtain ⟨S, O, H, HR, HP, FF⟩ := id P
  show lm_wp _ 49 45 [.ref 95, .ref 85, .int (-1), .int (nI h), .int (nI w), lm_jk] [.int (nI v)] (hb49, hl, X) _
  refine w_N 3 50 [.ref 95, .ref 85, .int (-1), .int (nI h), .int (nI w), .int (nI v)] [.int (-1), .int (nI v)] rfl ?_
  refine w_icmp_ne_t (t := 55) rfl rfl (nI_n1 (by omega)) ?_
  refine w_N 8 66 [.ref 95, .ref 85, .int (-1), .int (nI h), .int (nI w), .int (nI v)] [.int ((-1) * (nI v)), .int (8 + (nI w)), .int (nI h), .ref 85] rfl ?_
  rw [show (8 : Int32) + nI w = nI (8 + w) from nI_add' 8 w]
  refine w_ca (w_vst rfl rfl rfl (Nat.le_of_ble_eq_true rfl) (Nat.le_of_ble_eq_true rfl) (T_kd (A_T85 S))) (t_setWorth (d := d + 9) (hf := h) (w := 8 + w) (A_T85 S) H HR (by omega) (by omega)) ?_
  rintro _ _ ⟨h9x, rfl, rfl, H9, R9, c9, f9⟩
  have P := dP_town P f9 H9 R9
  show lm_wp _ 49 69 [.ref 95, .ref 85, .int (-1), .int (nI h), .int (nI w), .int (nI v)] [] (h9x, hl, X) _
  refine w_N 1 70 [.ref 95, .ref 85, .int (-1), .int (nI h), .int (nI w), .int (nI v)] [.int 1] rfl ?_
  refine w_rz rfl rfl (by decide) ?_
  exact ⟨rfl, _, rfl, P⟩
theorem t_rHideF {d : Nat} {hi : Nat → Nat → Int32} {hl : Nat → Nat → Int64} {X : lm_X} {hi0 : Nat → Nat → Int32} {T : lm_T} {n : Nat} {R : Nat → Int32} {tl : Nat → Int32} {ts p : Nat} (P : dP hi0 hi X T n R tl ts p) (hts : ts ≤ 250) (hp : p ≤ ts) {p1 : Nat} (q1 : tkE tl ts p = p1) (nF : nmO tl ts p1 0 7 = false) : lm_w (d + 10) 50 [.ref 95, .ref 85] (hi, hl, X) (dF hi0 hl X (tkF tl ts p1)) := by
  obtain ⟨S, O, H, HR, HP, FF⟩ := id P
  refine lm_w_in (Nat.le_of_ble_eq_true rfl) ?_
  show lm_wp (d + 10) 50 0 [.ref 95, .ref 85, lm_jk] [] (hi, hl, X) _
  refine w_N 1 1 [.ref 95, .ref 85, lm_jk] [.ref 95] rfl ?_
  refine w_ca (w_vst rfl rfl rfl (Nat.le_of_ble_eq_true rfl) (Nat.le_of_ble_eq_true rfl) (A_k S 95 (by decide))) (t_adv (d := d + 8) S hts HP.1 HP.2.1 (tk_b (tl := tl) hp).2.2.2.1 HP.2.2.2.1) ?_
  rintro _ _ ⟨ha50, rfl, rfl, P_ha50, f_ha50⟩
  have hp := (tk_b (tl := tl) hp).2.2.2.1
  have P := dP_tp P P_ha50 f_ha50
  rw [q1] at P hp
  obtain ⟨S, O, H, HR, HP, FF⟩ := id P
  show lm_wp _ 50 4 [.ref 95, .ref 85, lm_jk] [] (ha50, hl, X) _
  refine w_N 3 8 [.ref 95, .ref 85, lm_jk] [.int 7, .int 0, .ref 95] rfl ?_
  refine w_cc (w_vst rfl rfl rfl (Nat.le_of_ble_eq_true rfl) (Nat.le_of_ble_eq_true rfl) (A_k S 95 (by decide))) (t_numF (d := d + 7) S O.2 hts hp HP nF) ?_
  show lm_wp _ 50 11 [.ref 95, .ref 85, lm_jk] [.int (-1)] (ha50, hl, X) _
  refine w_N 3 14 [.ref 95, .ref 85, .int (-1)] [.int (-1), .int (-1)] rfl ?_
  refine w_icmp_ne_f (t := 19) rfl rfl (by decide) ?_
  refine w_N 1 18 [.ref 95, .ref 85, .int (-1)] [.int 0] rfl ?_
  refine w_rz rfl rfl (by decide) ?_
  exact ⟨rfl, _, rfl, FF, HP.2.2.1⟩
theorem t_rHideT {d : Nat} {hi : Nat → Nat → Int32} {hl : Nat → Nat → Int64} {X : lm_X} {hi0 : Nat → Nat → Int32} {T : lm_T} {n : Nat} {R : Nat → Int32} {tl : Nat → Int32} {ts p : Nat} (P : dP hi0 hi X T n R tl ts p) (hts : ts ≤ 250) (hp : p ≤ ts) {p1 p2 : Nat} (q1 : tkE tl ts p = p1) (q2 : tkE tl ts p1 = p2) {m : Nat} (hm : m ≤ 7) (n1 : nmO tl ts p1 0 7 = true) (v1 : fgI tl ts p1 = nI m) : lm_w (d + 10) 50 [.ref 95, .ref 85] (hi, hl, X) (dT hi0 hl X T n (lm_u1 R 11 (R 11 ||| (1 <<< (nI m &&& 31)))) tl ts p2) := by
  obtain ⟨S, O, H, HR, HP, FF⟩ := id P
  refine lm_w_in (Nat.le_of_ble_eq_true rfl) ?_
  show lm_wp (d + 10) 50 0 [.ref 95, .ref 85, lm_jk] [] (hi, hl, X) _
  refine w_N 1 1 [.ref 95, .ref 85, lm_jk] [.ref 95] rfl ?_
  refine w_ca (w_vst rfl rfl rfl (Nat.le_of_ble_eq_true rfl) (Nat.le_of_ble_eq_true rfl) (A_k S 95 (by decide))) (t_adv (d := d + 8) S hts HP.1 HP.2.1 (tk_b (tl := tl) hp).2.2.2.1 HP.2.2.2.1) ?_
  rintro _ _ ⟨ha51, rfl, rfl, P_ha51, f_ha51⟩
  have hp := (tk_b (tl := tl) hp).2.2.2.1
  have P := dP_tp P P_ha51 f_ha51
  rw [q1] at P hp
  obtain ⟨S, O, H, HR, HP, FF⟩ := id P
  show lm_wp _ 50 4 [.ref 95, .ref 85, lm_jk] [] (ha51, hl, X) _
  refine w_N 3 8 [.ref 95, .ref 85, lm_jk] [.int 7, .int 0, .ref 95] rfl ?_
  refine w_ca (w_vst rfl rfl rfl (Nat.le_of_ble_eq_true rfl) (Nat.le_of_ble_eq_true rfl) (A_k S 95 (by decide))) (t_numT (d := d + 7) S O.2 hts hp HP n1 (by decide)) ?_
  rintro _ _ ⟨hb52, rfl, rfl, P_hb52, f_hb52⟩
  rw [v1]
  have hp := (tk_b (tl := tl) hp).2.2.2.1
  have P := dP_tp P P_hb52 f_hb52
  rw [q2] at P hp
  obtain ⟨S, O, H, HR, HP, FF⟩ := id P
  show lm_wp _ 50 11 [.ref 95, .ref 85, lm_jk] [.int (nI m)] (hb52, hl, X) _
  refine w_N 3 14 [.ref 95, .ref 85, .int (nI m)] [.int (-1), .int (nI m)] rfl ?_
  refine w_icmp_ne_t (t := 19) rfl rfl (nI_n1 (by omega)) ?_
  refine w_N 2 21 [.ref 95, .ref 85, .int (nI m)] [.ref 85, .ref 85] rfl ?_
  refine w_gi (v := R 11) rfl rfl rfl (T_kd (A_T85 S)) (HR.2.1) ?_
  refine w_N 4 28 [.ref 95, .ref 85, .int (nI m)] [.int ((R 11) ||| (1 <<< ((nI m) &&& 31))), .ref 85] rfl ?_
  refine w_pi rfl rfl rfl rfl (T_kd (A_T85 S)) (T_64 (A_T85 S)) ?_
  refine w_N 1 32 [.ref 95, .ref 85, .int (nI m)] [.int 1] rfl ?_
  refine w_rz rfl rfl (by decide) ?_
  exact ⟨rfl, _, rfl, dP_R (by decide) P⟩
theorem t_rLockF1 {d : Nat} {hi : Nat → Nat → Int32} {hl : Nat → Nat → Int64} {X : lm_X} {hi0 : Nat → Nat → Int32} {T : lm_T} {n : Nat} {R : Nat → Int32} {tl : Nat → Int32} {ts p : Nat} (P : dP hi0 hi X T n R tl ts p) (hts : ts ≤ 250) (hp : p ≤ ts) {p1 : Nat} (q1 : tkE tl ts p = p1) (nF : nmO tl ts p1 0 1 = false) : lm_w (d + 10) 51 [.ref 95, .ref 85] (hi, hl, X) (dF hi0 hl X (tkF tl ts p1)) := by
  obtain ⟨S, O, H, HR, HP, FF⟩ := id P
  refine lm_w_in (Nat.le_of_ble_eq_true rfl) ?_
  show lm_wp (d + 10) 51 0 [.ref 95, .ref 85, lm_jk, lm_jk] [] (hi, hl, X) _
  refine w_N 1 1 [.ref 95, .ref 85, lm_jk, lm_jk] [.ref 95] rfl ?_
  refine w_ca (w_vst rfl rfl rfl (Nat.le_of_ble_eq_true rfl) (Nat.le_of_ble_eq_true rfl) (A_k S 95 (by decide))) (t_adv (d := d + 8) S hts HP.1 HP.2.1 (tk_b (tl := tl) hp).2.2.2.1 HP.2.2.2.1) ?_
  rintro _ _ ⟨ha53, rfl, rfl, P_ha53, f_ha53⟩
  have hp := (tk_b (tl := tl) hp).2.2.2.1
  have P := dP_tp P P_ha53 f_ha53
  rw [q1] at P hp
  obtain ⟨S, O, H, HR, HP, FF⟩ := id P
  show lm_wp _ 51 4 [.ref 95, .ref 85, lm_jk, lm_jk] [] (ha53, hl, X) _
  refine w_N 3 7 [.ref 95, .ref 85, lm_jk, lm_jk] [.int 1, .int 0, .ref 95] rfl ?_
  refine w_cc (w_vst rfl rfl rfl (Nat.le_of_ble_eq_true rfl) (Nat.le_of_ble_eq_true rfl) (A_k S 95 (by decide))) (t_numF (d := d + 7) S O.2 hts hp HP nF) ?_
  show lm_wp _ 51 10 [.ref 95, .ref 85, lm_jk, lm_jk] [.int (-1)] (ha53, hl, X) _
  refine w_N 3 13 [.ref 95, .ref 85, .int (-1), lm_jk] [.int (-1), .int (-1)] rfl ?_
  refine w_icmp_ne_f (t := 20) rfl rfl (by decide) ?_
  refine w_N 5 34 [.ref 95, .ref 85, .int (-1), .int (-1)] [.int (-1), .int (-1)] rfl ?_
  refine w_icmp_ne_f (t := 39) rfl rfl (by decide) ?_
  refine w_N 1 38 [.ref 95, .ref 85, .int (-1), .int (-1)] [.int 0] rfl ?_
  refine w_rz rfl rfl (by decide) ?_
  exact ⟨rfl, _, rfl, FF, HP.2.2.1⟩
theorem t_rLockF2 {d : Nat} {hi : Nat → Nat → Int32} {hl : Nat → Nat → Int64} {X : lm_X} {hi0 : Nat → Nat → Int32} {T : lm_T} {n : Nat} {R : Nat → Int32} {tl : Nat → Int32} {ts p : Nat} (P : dP hi0 hi X T n R tl ts p) (hts : ts ≤ 250) (hp : p ≤ ts) {p1 p2 : Nat} (q1 : tkE tl ts p = p1) (q2 : tkE tl ts p1 = p2) {h : Nat} (hh : h ≤ 1) (n1 : nmO tl ts p1 0 1 = true) (v1 : fgI tl ts p1 = nI h) (nF : nmO tl ts p2 0 (nI n - 1) = false) : lm_w (d + 10) 51 [.ref 95, .ref 85] (hi, hl, X) (dF hi0 hl X (tkF tl ts p2)) := by
  obtain ⟨S, O, H, HR, HP, FF⟩ := id P
  refine lm_w_in (Nat.le_of_ble_eq_true rfl) ?_
  show lm_wp (d + 10) 51 0 [.ref 95, .ref 85, lm_jk, lm_jk] [] (hi, hl, X) _
  refine w_N 1 1 [.ref 95, .ref 85, lm_jk, lm_jk] [.ref 95] rfl ?_
  refine w_ca (w_vst rfl rfl rfl (Nat.le_of_ble_eq_true rfl) (Nat.le_of_ble_eq_true rfl) (A_k S 95 (by decide))) (t_adv (d := d + 8) S hts HP.1 HP.2.1 (tk_b (tl := tl) hp).2.2.2.1 HP.2.2.2.1) ?_
  rintro _ _ ⟨ha54, rfl, rfl, P_ha54, f_ha54⟩
  have hp := (tk_b (tl := tl) hp).2.2.2.1
  have P := dP_tp P P_ha54 f_ha54
  rw [q1] at P hp
  obtain ⟨S, O, H, HR, HP, FF⟩ := id P
  show lm_wp _ 51 4 [.ref 95, .ref 85, lm_jk, lm_jk] [] (ha54, hl, X) _
  refine w_N 3 7 [.ref 95, .ref 85, lm_jk, lm_jk] [.int 1, .int 0, .ref 95] rfl ?_
  refine w_ca (w_vst rfl rfl rfl (Nat.le_of_ble_eq_true rfl) (Nat.le_of_ble_eq_true rfl) (A_k S 95 (by decide))) (t_numT (d := d + 7) S O.2 hts hp HP n1 (by decide)) ?_
  rintro _ _ ⟨hb55, rfl, rfl, P_hb55, f_hb55⟩
  rw [v1]
  have hp := (tk_b (tl := tl) hp).2.2.2.1
  have P := dP_tp P P_hb55 f_hb55
  rw [q2] at P hp
  obtain ⟨S, O, H, HR, HP, FF⟩ := id P
  show lm_wp _ 51 10 [.ref 95, .ref 85, lm_jk, lm_jk] [.int (nI h)] (hb55, hl, X) _
  refine w_N 3 13 [.ref 95, .ref 85, .int (nI h), lm_jk] [.int (-1), .int (nI h)] rfl ?_
  refine w_icmp_ne_t (t := 20) rfl rfl (nI_n1 (by omega)) ?_
  refine w_N 3 23 [.ref 95, .ref 85, .int (nI h), lm_jk] [.ref 85, .int 0, .ref 95] rfl ?_
  refine w_gi (v := nI n) rfl rfl rfl (T_kd (A_T85 S)) (isTn H) ?_
  refine w_N 2 28 [.ref 95, .ref 85, .int (nI h), lm_jk] [.int ((nI n) - 1), .int 0, .ref 95] rfl ?_
  refine w_cc (w_vst rfl rfl rfl (Nat.le_of_ble_eq_true rfl) (Nat.le_of_ble_eq_true rfl) (A_k S 95 (by decide))) (t_numF (d := d + 7) S O.2 hts hp HP nF) ?_
  show lm_wp _ 51 31 [.ref 95, .ref 85, .int (nI h), lm_jk] [.int (-1)] (hb55, hl, X) _
  refine w_N 3 34 [.ref 95, .ref 85, .int (nI h), .int (-1)] [.int (-1), .int (-1)] rfl ?_
  refine w_icmp_ne_f (t := 39) rfl rfl (by decide) ?_
  refine w_N 1 38 [.ref 95, .ref 85, .int (nI h), .int (-1)] [.int 0] rfl ?_
  refine w_rz rfl rfl (by decide) ?_
  exact ⟨rfl, _, rfl, FF, HP.2.2.1⟩
theorem t_rLockT {d : Nat} {hi : Nat → Nat → Int32} {hl : Nat → Nat → Int64} {X : lm_X} {hi0 : Nat → Nat → Int32} {T : lm_T} {n : Nat} {R : Nat → Int32} {tl : Nat → Int32} {ts p : Nat} (P : dP hi0 hi X T n R tl ts p) (hts : ts ≤ 250) (hp : p ≤ ts) {p1 p2 p3 : Nat} (q1 : tkE tl ts p = p1) (q2 : tkE tl ts p1 = p2) (q3 : tkE tl ts p2 = p3) {h : Nat} (hh : h ≤ 1) (n1 : nmO tl ts p1 0 1 = true) (v1 : fgI tl ts p1 = nI h) {a : Nat} (ha : a < n) (n2 : nmO tl ts p2 0 (nI n - 1) = true) (v2 : fgI tl ts p2 = nI a) : lm_w (d + 10) 51 [.ref 95, .ref 85] (hi, hl, X) (dT hi0 hl X (lm_up T 6 a (lkS (T 6 a) h true)) n R tl ts p3) := by
  obtain ⟨S, O, H, HR, HP, FF⟩ := id P
  have hn10 := isTle H
  refine lm_w_in (Nat.le_of_ble_eq_true rfl) ?_
  show lm_wp (d + 10) 51 0 [.ref 95, .ref 85, lm_jk, lm_jk] [] (hi, hl, X) _
  refine w_N 1 1 [.ref 95, .ref 85, lm_jk, lm_jk] [.ref 95] rfl ?_
  refine w_ca (w_vst rfl rfl rfl (Nat.le_of_ble_eq_true rfl) (Nat.le_of_ble_eq_true rfl) (A_k S 95 (by decide))) (t_adv (d := d + 8) S hts HP.1 HP.2.1 (tk_b (tl := tl) hp).2.2.2.1 HP.2.2.2.1) ?_
  rintro _ _ ⟨ha56, rfl, rfl, P_ha56, f_ha56⟩
  have hp := (tk_b (tl := tl) hp).2.2.2.1
  have P := dP_tp P P_ha56 f_ha56
  rw [q1] at P hp
  obtain ⟨S, O, H, HR, HP, FF⟩ := id P
  show lm_wp _ 51 4 [.ref 95, .ref 85, lm_jk, lm_jk] [] (ha56, hl, X) _
  refine w_N 3 7 [.ref 95, .ref 85, lm_jk, lm_jk] [.int 1, .int 0, .ref 95] rfl ?_
  refine w_ca (w_vst rfl rfl rfl (Nat.le_of_ble_eq_true rfl) (Nat.le_of_ble_eq_true rfl) (A_k S 95 (by decide))) (t_numT (d := d + 7) S O.2 hts hp HP n1 (by decide)) ?_
  rintro _ _ ⟨hb57, rfl, rfl, P_hb57, f_hb57⟩
  rw [v1]
  have hp := (tk_b (tl := tl) hp).2.2.2.1
  have P := dP_tp P P_hb57 f_hb57
  rw [q2] at P hp
  obtain ⟨S, O, H, HR, HP, FF⟩ := id P
  show lm_wp _ 51 10 [.ref 95, .ref 85, lm_jk, lm_jk] [.int (nI h)] (hb57, hl, X) _
  refine w_N 3 13 [.ref 95, .ref 85, .int (nI h), lm_jk] [.int (-1), .int (nI h)] rfl ?_
  refine w_icmp_ne_t (t := 20) rfl rfl (nI_n1 (by omega)) ?_
  refine w_N 3 23 [.ref 95, .ref 85, .int (nI h), lm_jk] [.ref 85, .int 0, .ref 95] rfl ?_
  refine w_gi (v := nI n) rfl rfl rfl (T_kd (A_T85 S)) (isTn H) ?_
  refine w_N 2 28 [.ref 95, .ref 85, .int (nI h), lm_jk] [.int ((nI n) - 1), .int 0, .ref 95] rfl ?_
  refine w_ca (w_vst rfl rfl rfl (Nat.le_of_ble_eq_true rfl) (Nat.le_of_ble_eq_true rfl) (A_k S 95 (by decide))) (t_numT (d := d + 7) S O.2 hts hp HP n2 (by have q : ∀ n, n < 11 → (nI n - 1 : Int32).toInt ≤ 99 := (by decide); exact q n (by omega))) ?_
  rintro _ _ ⟨hb58, rfl, rfl, P_hb58, f_hb58⟩
  rw [v2]
  have hp := (tk_b (tl := tl) hp).2.2.2.1
  have P := dP_tp P P_hb58 f_hb58
  rw [q3] at P hp
  obtain ⟨S, O, H, HR, HP, FF⟩ := id P
  show lm_wp _ 51 31 [.ref 95, .ref 85, .int (nI h), lm_jk] [.int (nI a)] (hb58, hl, X) _
  refine w_N 3 34 [.ref 95, .ref 85, .int (nI h), .int (nI a)] [.int (-1), .int (nI a)] rfl ?_
  refine w_icmp_ne_t (t := 39) rfl rfl (nI_n1 (by omega)) ?_
  refine w_N 4 43 [.ref 95, .ref 85, .int (nI h), .int (nI a)] [.int 1, .int (nI a), .int (nI h), .ref 85] rfl ?_
  refine w_ca (w_vst rfl rfl rfl (Nat.le_of_ble_eq_true rfl) (Nat.le_of_ble_eq_true rfl) (T_kd (A_T85 S))) (t_setLocked (d := d + 9) (hf := h) (a := a) (is := true) (A_T85 S) H HR (by omega)) ?_
  rintro _ _ ⟨h9x, rfl, rfl, H9, R9, c9, f9⟩
  have P := dP_town P f9 H9 R9
  show lm_wp _ 51 46 [.ref 95, .ref 85, .int (nI h), .int (nI a)] [] (h9x, hl, X) _
  refine w_N 1 47 [.ref 95, .ref 85, .int (nI h), .int (nI a)] [.int 1] rfl ?_
  refine w_rz rfl rfl (by decide) ?_
  exact ⟨rfl, _, rfl, P⟩
/-- marks behind a word: what comes of it. Nat: fuel; set so far; p -/
def mbS (tl : Nat → Int32) (ts : Nat) (wL : List Int32) : Nat → Nat → Int32 → Bool × Int32 × Nat
  | 0, p, s => (true, s, p)
  | k + 1, p, s => if wdq tl ts p wL = true then (if nmO tl ts (tkE tl ts p) 0 7 = true then mbS tl ts wL k (tkE tl ts (tkE tl ts p)) (s ||| (1 <<< (fgI tl ts (tkE tl ts p) &&& 31))) else (false, s, tkE tl ts p)) else (true, s, p)
theorem t_mb1 {d : Nat} {hl : Nat → Nat → Int64} {X : lm_X} {hi0 : Nat → Nat → Int32} {T : lm_T} {n : Nat} {R : Nat → Int32} {tl : Nat → Int32} {ts : Nat} (hts : ts ≤ 250) {Po : Option Value → lm_H → Prop} : ∀ (r p j : Nat) (hi : Nat → Nat → Int32) (sm mk : Int32) (x4 : Value), ts - p ≤ r → p ≤ ts → j ≤ p → mk = nI j → dP hi0 hi X T n R tl ts p → (∀ v h1, (∃ hi2, v = some (.int (if (mbS tl ts wL1 r p sm).1 = true then (mbS tl ts wL1 r p sm).2.1 else -1)) ∧ h1 = (hi2, hl, X) ∧ dP hi0 hi2 X T n R tl ts (mbS tl ts wL1 r p sm).2.2) → Po v h1) → lm_wp (d + 10) 45 4 [.ref 95, .ref 2, .int sm, .int mk, x4] [] (hi, hl, X) Po := by
  intro r
  induction r with
  | zero =>
    intro p j hi sm mk x4 hr hp hj e2 P hP
    obtain ⟨S, O, H, HR, HP, FF⟩ := id P
    have hw : wdq tl ts p wL1 = false := by
      cases h : wdq tl ts p wL1 with
      | false => rfl
      | true => have q1 := wd_F h; have q2 := tk_b (tl := tl) hp; omega
    refine w_N 2 8 [.ref 95, .ref 2, .int sm, .int mk, x4] [.int 250, .int mk] rfl ?_
    refine w_icmp_ge (t := 53) rfl rfl (fun c1 => ?_) (fun c1 => ?_)
    · refine w_N 1 54 [.ref 95, .ref 2, .int sm, .int mk, x4] [.int sm] rfl ?_
      refine w_ri rfl rfl ?_
      exact hP _ _ ⟨hi, rfl, rfl, P⟩
    · refine w_N 2 13 [.ref 95, .ref 2, .int sm, .int mk, x4] [.ref 2, .ref 95] rfl ?_
      refine w_cc (w_vst rfl rfl rfl (Nat.le_of_ble_eq_true rfl) (Nat.le_of_ble_eq_true rfl) (A_k S 95 (by decide))) (lm_c_v (t_isWord1 (d := d + 7) S O.2 hts hp HP) (c_eqz hw)) ?_
      show lm_wp _ 45 16 [.ref 95, .ref 2, .int sm, .int mk, x4] [.int 0] (hi, hl, X) _
      refine w_if_eq_t (t := 53) rfl rfl (by decide) ?_
      refine w_N 1 54 [.ref 95, .ref 2, .int sm, .int mk, x4] [.int sm] rfl ?_
      refine w_ri rfl rfl ?_
      exact hP _ _ ⟨hi, rfl, rfl, P⟩
  | succ r ih =>
    intro p j hi sm mk x4 hr hp hj e2 P hP
    obtain ⟨S, O, H, HR, HP, FF⟩ := id P
    cases hw : wdq tl ts p wL1 with
    | false =>
      have eb : mbS tl ts wL1 (r + 1) p sm = (true, sm, p) := if_neg (by rw [hw]; decide)
      rw [eb] at hP
      refine w_N 2 8 [.ref 95, .ref 2, .int sm, .int mk, x4] [.int 250, .int mk] rfl ?_
      refine w_icmp_ge (t := 53) rfl rfl (fun c1 => ?_) (fun c1 => ?_)
      · refine w_N 1 54 [.ref 95, .ref 2, .int sm, .int mk, x4] [.int sm] rfl ?_
        refine w_ri rfl rfl ?_
        exact hP _ _ ⟨hi, rfl, rfl, P⟩
      · refine w_N 2 13 [.ref 95, .ref 2, .int sm, .int mk, x4] [.ref 2, .ref 95] rfl ?_
        refine w_cc (w_vst rfl rfl rfl (Nat.le_of_ble_eq_true rfl) (Nat.le_of_ble_eq_true rfl) (A_k S 95 (by decide))) (lm_c_v (t_isWord1 (d := d + 7) S O.2 hts hp HP) (c_eqz hw)) ?_
        show lm_wp _ 45 16 [.ref 95, .ref 2, .int sm, .int mk, x4] [.int 0] (hi, hl, X) _
        refine w_if_eq_t (t := 53) rfl rfl (by decide) ?_
        refine w_N 1 54 [.ref 95, .ref 2, .int sm, .int mk, x4] [.int sm] rfl ?_
        refine w_ri rfl rfl ?_
        exact hP _ _ ⟨hi, rfl, rfl, P⟩
    | true =>
      have hF := wd_F hw
      have hb := tk_b (tl := tl) hp
      cases n1 : nmO tl ts (tkE tl ts p) 0 7 with
      | false =>
        have eb : mbS tl ts wL1 (r + 1) p sm = (false, sm, tkE tl ts p) := by
          show (if wdq tl ts p wL1 = true then (if nmO tl ts (tkE tl ts p) 0 7 = true then _ else _) else _) = _
          rw [if_pos hw, if_neg (by rw [n1]; decide)]
        rw [eb] at hP
        refine w_N 2 8 [.ref 95, .ref 2, .int sm, .int mk, x4] [.int 250, .int mk] rfl ?_
        refine w_icmp_ge_f (t := 53) rfl rfl (by rw [e2]; exact nI_lt (b := 250) (by omega) (by decide)) ?_
        refine w_N 2 13 [.ref 95, .ref 2, .int sm, .int mk, x4] [.ref 2, .ref 95] rfl ?_
        refine w_cc (w_vst rfl rfl rfl (Nat.le_of_ble_eq_true rfl) (Nat.le_of_ble_eq_true rfl) (A_k S 95 (by decide))) (lm_c_1 (t_isWord1 (d := d + 7) S O.2 hts hp HP) hw) ?_
        show lm_wp _ 45 16 [.ref 95, .ref 2, .int sm, .int mk, x4] [.int 1] (hi, hl, X) _
        refine w_if_eq_f (t := 53) rfl rfl (by decide) ?_
        refine w_N 1 20 [.ref 95, .ref 2, .int sm, .int mk, x4] [.ref 95] rfl ?_
        refine w_ca (w_vst rfl rfl rfl (Nat.le_of_ble_eq_true rfl) (Nat.le_of_ble_eq_true rfl) (A_k S 95 (by decide))) (t_adv (d := d + 8) S hts HP.1 HP.2.1 hb.2.2.2.1 HP.2.2.2.1) ?_
        rintro _ _ ⟨h1x, rfl, rfl, P1, f1⟩
        have P := dP_tp P P1 f1
        obtain ⟨S, O, H, HR, HP, FF⟩ := id P
        show lm_wp _ 45 23 [.ref 95, .ref 2, .int sm, .int mk, x4] [] (h1x, hl, X) _
        refine w_N 3 27 [.ref 95, .ref 2, .int sm, .int mk, x4] [.int 7, .int 0, .ref 95] rfl ?_
        refine w_cc (w_vst rfl rfl rfl (Nat.le_of_ble_eq_true rfl) (Nat.le_of_ble_eq_true rfl) (A_k S 95 (by decide))) (t_numF (d := d + 7) S O.2 hts hb.2.2.2.1 HP n1) ?_
        show lm_wp _ 45 30 [.ref 95, .ref 2, .int sm, .int mk, x4] [.int (-1)] (h1x, hl, X) _
        refine w_N 3 35 [.ref 95, .ref 2, .int sm, .int mk, .int (-1)] [.int (-1), .int (-1)] rfl ?_
        refine w_icmp_ne_f (t := 40) rfl rfl (by decide) ?_
        refine w_N 1 39 [.ref 95, .ref 2, .int sm, .int mk, .int (-1)] [.int (-1)] rfl ?_
        refine w_ri rfl rfl ?_
        exact hP _ _ ⟨_, rfl, rfl, P⟩
      | true =>
        have hb1 := tk_b (tl := tl) hb.2.2.2.1
        obtain ⟨m, em, hm⟩ := wi_e (n := 7) (nm_t n1).2 (by decide)
        have eb : mbS tl ts wL1 (r + 1) p sm = mbS tl ts wL1 r (tkE tl ts (tkE tl ts p)) (sm ||| (1 <<< (fgI tl ts (tkE tl ts p) &&& 31))) := by
          show (if wdq tl ts p wL1 = true then (if nmO tl ts (tkE tl ts p) 0 7 = true then _ else _) else _) = _
          rw [if_pos hw, if_pos n1]
        rw [eb] at hP
        refine w_N 2 8 [.ref 95, .ref 2, .int sm, .int mk, x4] [.int 250, .int mk] rfl ?_
        refine w_icmp_ge_f (t := 53) rfl rfl (by rw [e2]; exact nI_lt (b := 250) (by omega) (by decide)) ?_
        refine w_N 2 13 [.ref 95, .ref 2, .int sm, .int mk, x4] [.ref 2, .ref 95] rfl ?_
        refine w_cc (w_vst rfl rfl rfl (Nat.le_of_ble_eq_true rfl) (Nat.le_of_ble_eq_true rfl) (A_k S 95 (by decide))) (lm_c_1 (t_isWord1 (d := d + 7) S O.2 hts hp HP) hw) ?_
        show lm_wp _ 45 16 [.ref 95, .ref 2, .int sm, .int mk, x4] [.int 1] (hi, hl, X) _
        refine w_if_eq_f (t := 53) rfl rfl (by decide) ?_
        refine w_N 1 20 [.ref 95, .ref 2, .int sm, .int mk, x4] [.ref 95] rfl ?_
        refine w_ca (w_vst rfl rfl rfl (Nat.le_of_ble_eq_true rfl) (Nat.le_of_ble_eq_true rfl) (A_k S 95 (by decide))) (t_adv (d := d + 8) S hts HP.1 HP.2.1 hb.2.2.2.1 HP.2.2.2.1) ?_
        rintro _ _ ⟨h1x, rfl, rfl, P1, f1⟩
        have P := dP_tp P P1 f1
        obtain ⟨S, O, H, HR, HP, FF⟩ := id P
        show lm_wp _ 45 23 [.ref 95, .ref 2, .int sm, .int mk, x4] [] (h1x, hl, X) _
        refine w_N 3 27 [.ref 95, .ref 2, .int sm, .int mk, x4] [.int 7, .int 0, .ref 95] rfl ?_
        refine w_ca (w_vst rfl rfl rfl (Nat.le_of_ble_eq_true rfl) (Nat.le_of_ble_eq_true rfl) (A_k S 95 (by decide))) (t_numT (d := d + 7) S O.2 hts hb.2.2.2.1 HP n1 (by decide)) ?_
        rintro _ _ ⟨h2x, rfl, rfl, P2, f2⟩
        have P := dP_tp P P2 f2
        show lm_wp _ 45 30 [.ref 95, .ref 2, .int sm, .int mk, x4] [.int (fgI tl ts (tkE tl ts p))] (h2x, hl, X) _
        refine w_N 3 35 [.ref 95, .ref 2, .int sm, .int mk, .int (fgI tl ts (tkE tl ts p))] [.int (-1), .int (fgI tl ts (tkE tl ts p))] rfl ?_
        refine w_icmp_ne_t (t := 40) rfl rfl (by rw [em]; exact nI_n1 (by omega)) ?_
        refine w_N 8 4 [.ref 95, .ref 2, .int (sm ||| (1 <<< ((fgI tl ts (tkE tl ts p)) &&& 31))), .int (mk + 1), .int (fgI tl ts (tkE tl ts p))] [] rfl ?_
        exact ih _ (j + 1) _ _ _ _ (by omega) hb1.2.2.2.1 (by omega) (by rw [e2, nI_succ]) P hP
theorem t_marks1 {d : Nat} {hi : Nat → Nat → Int32} {hl : Nat → Nat → Int64} {X : lm_X} {hi0 : Nat → Nat → Int32} {T : lm_T} {n : Nat} {R : Nat → Int32} {tl : Nat → Int32} {ts p : Nat} (P : dP hi0 hi X T n R tl ts p) (hts : ts ≤ 250) (hp : p ≤ ts) : lm_w (d + 10) 45 [.ref 95, .ref 2] (hi, hl, X) (fun v h1 => ∃ hi2, v = some (.int (if (mbS tl ts wL1 ts p 0).1 = true then (mbS tl ts wL1 ts p 0).2.1 else -1)) ∧ h1 = (hi2, hl, X) ∧ dP hi0 hi2 X T n R tl ts (mbS tl ts wL1 ts p 0).2.2) := by
  refine lm_w_in (Nat.le_of_ble_eq_true rfl) ?_
  show lm_wp (d + 10) 45 0 [.ref 95, .ref 2, lm_jk, lm_jk, lm_jk] [] (hi, hl, X) _
  refine w_N 4 4 [.ref 95, .ref 2, .int 0, .int 0, lm_jk] [] rfl ?_
  exact t_mb1 hts ts p 0 hi 0 0 _ (by omega) hp (Nat.zero_le _) rfl P (fun v h1 q => q)
theorem t_mb2 {d : Nat} {hl : Nat → Nat → Int64} {X : lm_X} {hi0 : Nat → Nat → Int32} {T : lm_T} {n : Nat} {R : Nat → Int32} {tl : Nat → Int32} {ts : Nat} (hts : ts ≤ 250) {Po : Option Value → lm_H → Prop} : ∀ (r p j : Nat) (hi : Nat → Nat → Int32) (sm mk : Int32) (x4 : Value), ts - p ≤ r → p ≤ ts → j ≤ p → mk = nI j → dP hi0 hi X T n R tl ts p → (∀ v h1, (∃ hi2, v = some (.int (if (mbS tl ts wL2 r p sm).1 = true then (mbS tl ts wL2 r p sm).2.1 else -1)) ∧ h1 = (hi2, hl, X) ∧ dP hi0 hi2 X T n R tl ts (mbS tl ts wL2 r p sm).2.2) → Po v h1) → lm_wp (d + 10) 45 4 [.ref 95, .ref 3, .int sm, .int mk, x4] [] (hi, hl, X) Po := by
  intro r
  induction r with
  | zero =>
    intro p j hi sm mk x4 hr hp hj e2 P hP
    obtain ⟨S, O, H, HR, HP, FF⟩ := id P
    have hw : wdq tl ts p wL2 = false := by
      cases h : wdq tl ts p wL2 with
      | false => rfl
      | true => have q1 := wd_F h; have q2 := tk_b (tl := tl) hp; omega
    refine w_N 2 8 [.ref 95, .ref 3, .int sm, .int mk, x4] [.int 250, .int mk] rfl ?_
    refine w_icmp_ge (t := 53) rfl rfl (fun c1 => ?_) (fun c1 => ?_)
    · refine w_N 1 54 [.ref 95, .ref 3, .int sm, .int mk, x4] [.int sm] rfl ?_
      refine w_ri rfl rfl ?_
      exact hP _ _ ⟨hi, rfl, rfl, P⟩
    · refine w_N 2 13 [.ref 95, .ref 3, .int sm, .int mk, x4] [.ref 3, .ref 95] rfl ?_
      refine w_cc (w_vst rfl rfl rfl (Nat.le_of_ble_eq_true rfl) (Nat.le_of_ble_eq_true rfl) (A_k S 95 (by decide))) (lm_c_v (t_isWord2 (d := d + 7) S O.2 hts hp HP) (c_eqz hw)) ?_
      show lm_wp _ 45 16 [.ref 95, .ref 3, .int sm, .int mk, x4] [.int 0] (hi, hl, X) _
      refine w_if_eq_t (t := 53) rfl rfl (by decide) ?_
      refine w_N 1 54 [.ref 95, .ref 3, .int sm, .int mk, x4] [.int sm] rfl ?_
      refine w_ri rfl rfl ?_
      exact hP _ _ ⟨hi, rfl, rfl, P⟩
  | succ r ih =>
    intro p j hi sm mk x4 hr hp hj e2 P hP
    obtain ⟨S, O, H, HR, HP, FF⟩ := id P
    cases hw : wdq tl ts p wL2 with
    | false =>
      have eb : mbS tl ts wL2 (r + 1) p sm = (true, sm, p) := if_neg (by rw [hw]; decide)
      rw [eb] at hP
      refine w_N 2 8 [.ref 95, .ref 3, .int sm, .int mk, x4] [.int 250, .int mk] rfl ?_
      refine w_icmp_ge (t := 53) rfl rfl (fun c1 => ?_) (fun c1 => ?_)
      · refine w_N 1 54 [.ref 95, .ref 3, .int sm, .int mk, x4] [.int sm] rfl ?_
        refine w_ri rfl rfl ?_
        exact hP _ _ ⟨hi, rfl, rfl, P⟩
      · refine w_N 2 13 [.ref 95, .ref 3, .int sm, .int mk, x4] [.ref 3, .ref 95] rfl ?_
        refine w_cc (w_vst rfl rfl rfl (Nat.le_of_ble_eq_true rfl) (Nat.le_of_ble_eq_true rfl) (A_k S 95 (by decide))) (lm_c_v (t_isWord2 (d := d + 7) S O.2 hts hp HP) (c_eqz hw)) ?_
        show lm_wp _ 45 16 [.ref 95, .ref 3, .int sm, .int mk, x4] [.int 0] (hi, hl, X) _
        refine w_if_eq_t (t := 53) rfl rfl (by decide) ?_
        refine w_N 1 54 [.ref 95, .ref 3, .int sm, .int mk, x4] [.int sm] rfl ?_
        refine w_ri rfl rfl ?_
        exact hP _ _ ⟨hi, rfl, rfl, P⟩
    | true =>
      have hF := wd_F hw
      have hb := tk_b (tl := tl) hp
      cases n1 : nmO tl ts (tkE tl ts p) 0 7 with
      | false =>
        have eb : mbS tl ts wL2 (r + 1) p sm = (false, sm, tkE tl ts p) := by
          show (if wdq tl ts p wL2 = true then (if nmO tl ts (tkE tl ts p) 0 7 = true then _ else _) else _) = _
          rw [if_pos hw, if_neg (by rw [n1]; decide)]
        rw [eb] at hP
        refine w_N 2 8 [.ref 95, .ref 3, .int sm, .int mk, x4] [.int 250, .int mk] rfl ?_
        refine w_icmp_ge_f (t := 53) rfl rfl (by rw [e2]; exact nI_lt (b := 250) (by omega) (by decide)) ?_
        refine w_N 2 13 [.ref 95, .ref 3, .int sm, .int mk, x4] [.ref 3, .ref 95] rfl ?_
        refine w_cc (w_vst rfl rfl rfl (Nat.le_of_ble_eq_true rfl) (Nat.le_of_ble_eq_true rfl) (A_k S 95 (by decide))) (lm_c_1 (t_isWord2 (d := d + 7) S O.2 hts hp HP) hw) ?_
        show lm_wp _ 45 16 [.ref 95, .ref 3, .int sm, .int mk, x4] [.int 1] (hi, hl, X) _
        refine w_if_eq_f (t := 53) rfl rfl (by decide) ?_
        refine w_N 1 20 [.ref 95, .ref 3, .int sm, .int mk, x4] [.ref 95] rfl ?_
        refine w_ca (w_vst rfl rfl rfl (Nat.le_of_ble_eq_true rfl) (Nat.le_of_ble_eq_true rfl) (A_k S 95 (by decide))) (t_adv (d := d + 8) S hts HP.1 HP.2.1 hb.2.2.2.1 HP.2.2.2.1) ?_
        rintro _ _ ⟨h1x, rfl, rfl, P1, f1⟩
        have P := dP_tp P P1 f1
        obtain ⟨S, O, H, HR, HP, FF⟩ := id P
        show lm_wp _ 45 23 [.ref 95, .ref 3, .int sm, .int mk, x4] [] (h1x, hl, X) _
        refine w_N 3 27 [.ref 95, .ref 3, .int sm, .int mk, x4] [.int 7, .int 0, .ref 95] rfl ?_
        refine w_cc (w_vst rfl rfl rfl (Nat.le_of_ble_eq_true rfl) (Nat.le_of_ble_eq_true rfl) (A_k S 95 (by decide))) (t_numF (d := d + 7) S O.2 hts hb.2.2.2.1 HP n1) ?_
        show lm_wp _ 45 30 [.ref 95, .ref 3, .int sm, .int mk, x4] [.int (-1)] (h1x, hl, X) _
        refine w_N 3 35 [.ref 95, .ref 3, .int sm, .int mk, .int (-1)] [.int (-1), .int (-1)] rfl ?_
        refine w_icmp_ne_f (t := 40) rfl rfl (by decide) ?_
        refine w_N 1 39 [.ref 95, .ref 3, .int sm, .int mk, .int (-1)] [.int (-1)] rfl ?_
        refine w_ri rfl rfl ?_
        exact hP _ _ ⟨_, rfl, rfl, P⟩
      | true =>
        have hb1 := tk_b (tl := tl) hb.2.2.2.1
        obtain ⟨m, em, hm⟩ := wi_e (n := 7) (nm_t n1).2 (by decide)
        have eb : mbS tl ts wL2 (r + 1) p sm = mbS tl ts wL2 r (tkE tl ts (tkE tl ts p)) (sm ||| (1 <<< (fgI tl ts (tkE tl ts p) &&& 31))) := by
          show (if wdq tl ts p wL2 = true then (if nmO tl ts (tkE tl ts p) 0 7 = true then _ else _) else _) = _
          rw [if_pos hw, if_pos n1]
        rw [eb] at hP
        refine w_N 2 8 [.ref 95, .ref 3, .int sm, .int mk, x4] [.int 250, .int mk] rfl ?_
        refine w_icmp_ge_f (t := 53) rfl rfl (by rw [e2]; exact nI_lt (b := 250) (by omega) (by decide)) ?_
        refine w_N 2 13 [.ref 95, .ref 3, .int sm, .int mk, x4] [.ref 3, .ref 95] rfl ?_
        refine w_cc (w_vst rfl rfl rfl (Nat.le_of_ble_eq_true rfl) (Nat.le_of_ble_eq_true rfl) (A_k S 95 (by decide))) (lm_c_1 (t_isWord2 (d := d + 7) S O.2 hts hp HP) hw) ?_
        show lm_wp _ 45 16 [.ref 95, .ref 3, .int sm, .int mk, x4] [.int 1] (hi, hl, X) _
        refine w_if_eq_f (t := 53) rfl rfl (by decide) ?_
        refine w_N 1 20 [.ref 95, .ref 3, .int sm, .int mk, x4] [.ref 95] rfl ?_
        refine w_ca (w_vst rfl rfl rfl (Nat.le_of_ble_eq_true rfl) (Nat.le_of_ble_eq_true rfl) (A_k S 95 (by decide))) (t_adv (d := d + 8) S hts HP.1 HP.2.1 hb.2.2.2.1 HP.2.2.2.1) ?_
        rintro _ _ ⟨h1x, rfl, rfl, P1, f1⟩
        have P := dP_tp P P1 f1
        obtain ⟨S, O, H, HR, HP, FF⟩ := id P
        show lm_wp _ 45 23 [.ref 95, .ref 3, .int sm, .int mk, x4] [] (h1x, hl, X) _
        refine w_N 3 27 [.ref 95, .ref 3, .int sm, .int mk, x4] [.int 7, .int 0, .ref 95] rfl ?_
        refine w_ca (w_vst rfl rfl rfl (Nat.le_of_ble_eq_true rfl) (Nat.le_of_ble_eq_true rfl) (A_k S 95 (by decide))) (t_numT (d := d + 7) S O.2 hts hb.2.2.2.1 HP n1 (by decide)) ?_
        rintro _ _ ⟨h2x, rfl, rfl, P2, f2⟩
        have P := dP_tp P P2 f2
        show lm_wp _ 45 30 [.ref 95, .ref 3, .int sm, .int mk, x4] [.int (fgI tl ts (tkE tl ts p))] (h2x, hl, X) _
        refine w_N 3 35 [.ref 95, .ref 3, .int sm, .int mk, .int (fgI tl ts (tkE tl ts p))] [.int (-1), .int (fgI tl ts (tkE tl ts p))] rfl ?_
        refine w_icmp_ne_t (t := 40) rfl rfl (by rw [em]; exact nI_n1 (by omega)) ?_
        refine w_N 8 4 [.ref 95, .ref 3, .int (sm ||| (1 <<< ((fgI tl ts (tkE tl ts p)) &&& 31))), .int (mk + 1), .int (fgI tl ts (tkE tl ts p))] [] rfl ?_
        exact ih _ (j + 1) _ _ _ _ (by omega) hb1.2.2.2.1 (by omega) (by rw [e2, nI_succ]) P hP
theorem t_marks2 {d : Nat} {hi : Nat → Nat → Int32} {hl : Nat → Nat → Int64} {X : lm_X} {hi0 : Nat → Nat → Int32} {T : lm_T} {n : Nat} {R : Nat → Int32} {tl : Nat → Int32} {ts p : Nat} (P : dP hi0 hi X T n R tl ts p) (hts : ts ≤ 250) (hp : p ≤ ts) : lm_w (d + 10) 45 [.ref 95, .ref 3] (hi, hl, X) (fun v h1 => ∃ hi2, v = some (.int (if (mbS tl ts wL2 ts p 0).1 = true then (mbS tl ts wL2 ts p 0).2.1 else -1)) ∧ h1 = (hi2, hl, X) ∧ dP hi0 hi2 X T n R tl ts (mbS tl ts wL2 ts p 0).2.2) := by
  refine lm_w_in (Nat.le_of_ble_eq_true rfl) ?_
  show lm_wp (d + 10) 45 0 [.ref 95, .ref 3, lm_jk, lm_jk, lm_jk] [] (hi, hl, X) _
  refine w_N 4 4 [.ref 95, .ref 3, .int 0, .int 0, lm_jk] [] rfl ?_
  exact t_mb2 hts ts p 0 hi 0 0 _ (by omega) hp (Nat.zero_le _) rfl P (fun v h1 q => q)
