set_option maxRecDepth 16384
/-! all statements; town() -/
def rdF (hi0 : Nat → Nat → Int32) (hl : Nat → Nat → Int64) (X : lm_X) (f : Nat) : Option Value → lm_H → Prop := fun v h1 => v = some (.int (-1)) ∧ ∃ hi', h1 = (hi', hl, X) ∧ fr 85 96 hi0 hi' ∧ hi' 95 2 = nI f
def rdT (hi0 : Nat → Nat → Int32) (hl : Nat → Nat → Int64) (X : lm_X) (T : lm_T) (n : Nat) (R : Nat → Int32) (k : Nat) : Option Value → lm_H → Prop := fun v h1 => v = some (.int (nI k)) ∧ ∃ hi', h1 = (hi', hl, X) ∧ fr 85 96 hi0 hi' ∧ isT hi' 85 T n ∧ isR hi' 85 R
def raT (hi0 : Nat → Nat → Int32) (hl : Nat → Nat → Int64) (X : lm_X) (T : lm_T) (n : Nat) (R : Nat → Int32) (k : Nat) : Option Value → lm_H → Prop := fun v h1 => v = some (.int 1) ∧ ∃ hi', h1 = (hi', hl, X) ∧ eQ hi0 hi' X T n R (nI k)
theorem t_af0 {hi0 hi : Nat → Nat → Int32} {hl : Nat → Nat → Int64} {X : lm_X} {T : lm_T} {n : Nat} {R : Nat → Int32} {tl : Nat → Int32} {ts p k : Nat} (P : dP hi0 hi X T n R tl ts p) (hts : ts ≤ 250) (hp : p ≤ ts) (hk : k ≤ p) (h0 : tkS tl ts p = 0) : lm_wp 31 38 28 [.ref 95, .ref 85, .int (nI k)] [] (hi, hl, X) (rdT hi0 hl X T n R k) := by
  obtain ⟨S, O, H, HR, HP, FF⟩ := id P
  refine w_N 1 29 [.ref 95, .ref 85, .int (nI k)] [.ref 95] rfl ?_
  refine w_gi (v := tkS tl ts p) rfl rfl rfl (A_k S 95 (by decide)) (HP.2.2.2.2) ?_
  refine w_if_ne_f (t := 37) rfl rfl h0 ?_
  refine w_N 1 36 [.ref 95, .ref 85, .int (nI k)] [.int (nI k)] rfl ?_
  refine w_ri rfl rfl ?_
  exact ⟨rfl, _, rfl, FF, H, HR⟩
theorem t_afX {hi0 hi : Nat → Nat → Int32} {hl : Nat → Nat → Int64} {X : lm_X} {T : lm_T} {n : Nat} {R : Nat → Int32} {tl : Nat → Int32} {ts p k : Nat} (P : dP hi0 hi X T n R tl ts p) (hts : ts ≤ 250) (hp : p ≤ ts) (hk : k ≤ p) (h0 : ¬ tkS tl ts p = 0) (h3 : ¬ tkS tl ts p = 3) : lm_wp 31 38 28 [.ref 95, .ref 85, .int (nI k)] [] (hi, hl, X) (rdF hi0 hl X (tkF tl ts p)) := by
  obtain ⟨S, O, H, HR, HP, FF⟩ := id P
  refine w_N 1 29 [.ref 95, .ref 85, .int (nI k)] [.ref 95] rfl ?_
  refine w_gi (v := tkS tl ts p) rfl rfl rfl (A_k S 95 (by decide)) (HP.2.2.2.2) ?_
  refine w_if_ne_t (t := 37) rfl rfl h0 ?_
  refine w_N 1 38 [.ref 95, .ref 85, .int (nI k)] [.ref 95] rfl ?_
  refine w_gi (v := tkS tl ts p) rfl rfl rfl (A_k S 95 (by decide)) (HP.2.2.2.2) ?_
  refine w_N 1 42 [.ref 95, .ref 85, .int (nI k)] [.int 3, .int (tkS tl ts p)] rfl ?_
  refine w_icmp_eq_f (t := 47) rfl rfl h3 ?_
  refine w_N 1 46 [.ref 95, .ref 85, .int (nI k)] [.int (-1)] rfl ?_
  refine w_ri rfl rfl ?_
  exact ⟨rfl, _, rfl, FF, HP.2.2.1⟩
theorem t_af3F {hi0 hi : Nat → Nat → Int32} {hl : Nat → Nat → Int64} {X : lm_X} {T : lm_T} {n : Nat} {R : Nat → Int32} {tl : Nat → Int32} {ts p k : Nat} (P : dP hi0 hi X T n R tl ts p) (hts : ts ≤ 250) (hp : p ≤ ts) (hk : k ≤ p) (h3 : tkS tl ts p = 3) {f : Nat} (hs : ∀ hi0 hi hl X, dP hi0 hi X T n R tl ts (tkE tl ts p) → lm_w 30 43 [.ref 95, .ref 85] (hi, hl, X) (dF hi0 hl X f)) : lm_wp 31 38 28 [.ref 95, .ref 85, .int (nI k)] [] (hi, hl, X) (rdF hi0 hl X f) := by
  obtain ⟨S, O, H, HR, HP, FF⟩ := id P
  have hb := tk_b (tl := tl) hp
  have hF : tkF tl ts p < ts := Decidable.byContradiction fun z => by
    have q := tk_0.mpr z
    rw [h3] at q
    exact absurd q (by decide)
  refine w_N 1 29 [.ref 95, .ref 85, .int (nI k)] [.ref 95] rfl ?_
  refine w_gi (v := tkS tl ts p) rfl rfl rfl (A_k S 95 (by decide)) (HP.2.2.2.2) ?_
  refine w_if_ne_t (t := 37) rfl rfl (by rw [h3]; decide) ?_
  refine w_N 1 38 [.ref 95, .ref 85, .int (nI k)] [.ref 95] rfl ?_
  refine w_gi (v := tkS tl ts p) rfl rfl rfl (A_k S 95 (by decide)) (HP.2.2.2.2) ?_
  refine w_N 1 42 [.ref 95, .ref 85, .int (nI k)] [.int 3, .int (tkS tl ts p)] rfl ?_
  refine w_icmp_eq_t (t := 47) rfl rfl h3 ?_
  refine w_N 1 48 [.ref 95, .ref 85, .int (nI k)] [.ref 95] rfl ?_
  refine w_ca (w_vst rfl rfl rfl (Nat.le_of_ble_eq_true rfl) (Nat.le_of_ble_eq_true rfl) (A_k S 95 (by decide))) (t_adv (d := 29) S hts HP.1 HP.2.1 hb.2.2.2.1 HP.2.2.2.1) ?_
  rintro _ _ ⟨h1x, rfl, rfl, P1, f1⟩
  have P := dP_tp P P1 f1
  obtain ⟨S, O, H, HR, HP, FF⟩ := id P
  show lm_wp _ 38 51 [.ref 95, .ref 85, .int (nI k)] [] (h1x, hl, X) _
  refine w_N 4 15 [.ref 95, .ref 85, .int ((nI k) + 1)] [.int 250, .int ((nI k) + 1)] rfl ?_
  refine w_icmp_gt_f (t := 57) rfl rfl (by rw [← nI_succ, show (250 : Int32) = nI 250 from rfl, nI_lt_iff (by omega) (by omega)]; omega) ?_
  refine w_N 2 20 [.ref 95, .ref 85, .int ((nI k) + 1)] [.ref 85, .ref 95] rfl ?_
  refine w_ca (w_vst rfl rfl rfl (Nat.le_of_ble_eq_true rfl) (Nat.le_of_ble_eq_true rfl) (A_k S 95 (by decide))) (hs _ _ _ _ P) ?_
  rintro _ _ ⟨rfl, h2x, rfl, F2, k2⟩
  show lm_wp _ 38 23 [.ref 95, .ref 85, .int ((nI k) + 1)] [.int 0] (h2x, hl, X) _
  refine w_if_ne_f (t := 28) rfl rfl (by decide) ?_
  refine w_N 1 27 [.ref 95, .ref 85, .int ((nI k) + 1)] [.int (-1)] rfl ?_
  refine w_ri rfl rfl ?_
  exact ⟨rfl, _, rfl, F2, k2⟩
theorem t_af3T {hi0 hi : Nat → Nat → Int32} {hl : Nat → Nat → Int64} {X : lm_X} {T : lm_T} {n : Nat} {R : Nat → Int32} {tl : Nat → Int32} {ts p k : Nat} (P : dP hi0 hi X T n R tl ts p) (hts : ts ≤ 250) (hp : p ≤ ts) (hk : k ≤ p) (h3 : tkS tl ts p = 3) {T' : lm_T} {n' : Nat} {R' : Nat → Int32} {p' : Nat} (hs : ∀ hi0 hi hl X, dP hi0 hi X T n R tl ts (tkE tl ts p) → lm_w 30 43 [.ref 95, .ref 85] (hi, hl, X) (dT hi0 hl X T' n' R' tl ts p')) {Q : Option Value → lm_H → Prop} (hn : ∀ hi2, dP hi0 hi2 X T' n' R' tl ts p' → lm_wp 31 38 28 [.ref 95, .ref 85, .int (nI (k + 1))] [] (hi2, hl, X) Q) : lm_wp 31 38 28 [.ref 95, .ref 85, .int (nI k)] [] (hi, hl, X) (Q) := by
  obtain ⟨S, O, H, HR, HP, FF⟩ := id P
  have hb := tk_b (tl := tl) hp
  have hF : tkF tl ts p < ts := Decidable.byContradiction fun z => by
    have q := tk_0.mpr z
    rw [h3] at q
    exact absurd q (by decide)
  refine w_N 1 29 [.ref 95, .ref 85, .int (nI k)] [.ref 95] rfl ?_
  refine w_gi (v := tkS tl ts p) rfl rfl rfl (A_k S 95 (by decide)) (HP.2.2.2.2) ?_
  refine w_if_ne_t (t := 37) rfl rfl (by rw [h3]; decide) ?_
  refine w_N 1 38 [.ref 95, .ref 85, .int (nI k)] [.ref 95] rfl ?_
  refine w_gi (v := tkS tl ts p) rfl rfl rfl (A_k S 95 (by decide)) (HP.2.2.2.2) ?_
  refine w_N 1 42 [.ref 95, .ref 85, .int (nI k)] [.int 3, .int (tkS tl ts p)] rfl ?_
  refine w_icmp_eq_t (t := 47) rfl rfl h3 ?_
  refine w_N 1 48 [.ref 95, .ref 85, .int (nI k)] [.ref 95] rfl ?_
  refine w_ca (w_vst rfl rfl rfl (Nat.le_of_ble_eq_true rfl) (Nat.le_of_ble_eq_true rfl) (A_k S 95 (by decide))) (t_adv (d := 29) S hts HP.1 HP.2.1 hb.2.2.2.1 HP.2.2.2.1) ?_
  rintro _ _ ⟨h1x, rfl, rfl, P1, f1⟩
  have P := dP_tp P P1 f1
  obtain ⟨S, O, H, HR, HP, FF⟩ := id P
  show lm_wp _ 38 51 [.ref 95, .ref 85, .int (nI k)] [] (h1x, hl, X) _
  refine w_N 4 15 [.ref 95, .ref 85, .int ((nI k) + 1)] [.int 250, .int ((nI k) + 1)] rfl ?_
  refine w_icmp_gt_f (t := 57) rfl rfl (by rw [← nI_succ, show (250 : Int32) = nI 250 from rfl, nI_lt_iff (by omega) (by omega)]; omega) ?_
  refine w_N 2 20 [.ref 95, .ref 85, .int ((nI k) + 1)] [.ref 85, .ref 95] rfl ?_
  refine w_ca (w_vst rfl rfl rfl (Nat.le_of_ble_eq_true rfl) (Nat.le_of_ble_eq_true rfl) (A_k S 95 (by decide))) (hs _ _ _ _ P) ?_
  rintro _ _ ⟨rfl, h2x, rfl, P2⟩
  show lm_wp _ 38 23 [.ref 95, .ref 85, .int ((nI k) + 1)] [.int 1] (h2x, hl, X) _
  refine w_if_ne_t (t := 28) rfl rfl (by decide) ?_
  rw [← nI_succ]
  exact hn _ P2
theorem y_af0 {hi0 hi : Nat → Nat → Int32} {hl : Nat → Nat → Int64} {X : lm_X} {T : lm_T} {n : Nat} {R : Nat → Int32} {tl : Nat → Int32} {ts p k : Nat} (P : eP hi0 hi X T n R tl ts p (nI k)) (hts : ts ≤ 250) (hp : p ≤ ts) (hk : k ≤ p) (h0 : tkS tl ts p = 0) : lm_wp 41 167 23 [.ref 123] [] (hi, hl, X) (raT hi0 hl X T n R k) := by
  obtain ⟨⟨S, O, H, HR, FQ, K30⟩, HP⟩ := id P
  refine w_N 1 24 [.ref 123] [.ref 123] rfl ?_
  refine w_gi (v := tkS tl ts p) rfl rfl rfl (M_kd S) (HP.2.2.2.2.1) ?_
  refine w_if_eq_t (t := 69) rfl rfl h0 ?_
  refine w_N 1 70 [.ref 123] [.int 1] rfl ?_
  refine w_rz rfl rfl (by decide) ?_
  exact ⟨rfl, _, rfl, P.1⟩
theorem y_afX {hi0 hi : Nat → Nat → Int32} {hl : Nat → Nat → Int64} {X : lm_X} {T : lm_T} {n : Nat} {R : Nat → Int32} {tl : Nat → Int32} {ts p k : Nat} (P : eP hi0 hi X T n R tl ts p (nI k)) (hts : ts ≤ 250) (hp : p ≤ ts) (hk : k ≤ p) (h0 : ¬ tkS tl ts p = 0) (h3 : ¬ tkS tl ts p = 3) : lm_wp 41 167 23 [.ref 123] [] (hi, hl, X) (eF hi0 hl X (tkF tl ts p)) := by
  obtain ⟨⟨S, O, H, HR, FQ, K30⟩, HP⟩ := id P
  refine w_N 1 24 [.ref 123] [.ref 123] rfl ?_
  refine w_gi (v := tkS tl ts p) rfl rfl rfl (M_kd S) (HP.2.2.2.2.1) ?_
  refine w_if_eq_f (t := 69) rfl rfl h0 ?_
  refine w_N 1 31 [.ref 123] [.ref 123] rfl ?_
  refine w_gi (v := tkS tl ts p) rfl rfl rfl (M_kd S) (HP.2.2.2.2.1) ?_
  refine w_N 1 35 [.ref 123] [.int 3, .int (tkS tl ts p)] rfl ?_
  refine w_icmp_eq_f (t := 43) rfl rfl h3 ?_
  refine w_N 1 39 [.ref 123] [.ref 123] rfl ?_
  refine w_cc (w_vst rfl rfl rfl (Nat.le_of_ble_eq_true rfl) (Nat.le_of_ble_eq_true rfl) (M_kd S)) (m_wrong S O.2 hts hp HP) ?_
  show lm_wp _ 167 42 [.ref 123] [.int 0] (lm_up hi 123 28 (nI (tkF tl ts p)), hl, X) _
  refine w_rz rfl rfl (by decide) ?_
  exact ⟨rfl, _, rfl, rQ_u (by decide) FQ, lm_up_eq⟩
theorem y_af3F {hi0 hi : Nat → Nat → Int32} {hl : Nat → Nat → Int64} {X : lm_X} {T : lm_T} {n : Nat} {R : Nat → Int32} {tl : Nat → Int32} {ts p k : Nat} (P : eP hi0 hi X T n R tl ts p (nI k)) (hts : ts ≤ 250) (hp : p ≤ ts) (hk : k ≤ p) (h3 : tkS tl ts p = 3) {f : Nat} (hs : ∀ hi0 hi hl X st, eP hi0 hi X T n R tl ts (tkE tl ts p) st → lm_w 40 166 [.ref 123] (hi, hl, X) (eF hi0 hl X f)) : lm_wp 41 167 23 [.ref 123] [] (hi, hl, X) (eF hi0 hl X f) := by
  obtain ⟨⟨S, O, H, HR, FQ, K30⟩, HP⟩ := id P
  have hb := tk_b (tl := tl) hp
  have hF : tkF tl ts p < ts := Decidable.byContradiction fun z => by
    have q := tk_0.mpr z
    rw [h3] at q
    exact absurd q (by decide)
  refine w_N 1 24 [.ref 123] [.ref 123] rfl ?_
  refine w_gi (v := tkS tl ts p) rfl rfl rfl (M_kd S) (HP.2.2.2.2.1) ?_
  refine w_if_eq_f (t := 69) rfl rfl (by rw [h3]; decide) ?_
  refine w_N 1 31 [.ref 123] [.ref 123] rfl ?_
  refine w_gi (v := tkS tl ts p) rfl rfl rfl (M_kd S) (HP.2.2.2.2.1) ?_
  refine w_N 1 35 [.ref 123] [.int 3, .int (tkS tl ts p)] rfl ?_
  refine w_icmp_eq_t (t := 43) rfl rfl h3 ?_
  refine w_N 1 44 [.ref 123] [.ref 123] rfl ?_
  refine w_ca (w_vst rfl rfl rfl (Nat.le_of_ble_eq_true rfl) (Nat.le_of_ble_eq_true rfl) (M_kd S)) (m_look (d := 39) (tl := tl) S hts HP.1 HP.2.1 hb.2.2.2.1 HP.2.2.2.1) ?_
  rintro _ _ ⟨h1x, rfl, rfl, P1, f1, g1⟩
  have P : eP hi0 h1x X T n R tl ts (tkE tl ts p) (nI k) := ⟨eQ_tok P.1 (fun a a1 a2 => f1 a a1) (fun k a b c d _ => g1 k a b c d), P1⟩
  obtain ⟨⟨S, O, H, HR, FQ, K30⟩, HP⟩ := id P
  show lm_wp _ 167 47 [.ref 123] [] (h1x, hl, X) _
  refine w_N 1 48 [.ref 123] [.ref 123] rfl ?_
  refine w_ca (w_vst rfl rfl rfl (Nat.le_of_ble_eq_true rfl) (Nat.le_of_ble_eq_true rfl) (M_kd S)) (hs _ _ _ _ _ P) ?_
  rintro _ _ ⟨rfl, h2x, rfl, Q2, k2⟩
  show lm_wp _ 167 51 [.ref 123] [.int 0] (h2x, hl, X) _
  refine w_if_ne_f (t := 56) rfl rfl (by decide) ?_
  refine w_N 1 55 [.ref 123] [.int 0] rfl ?_
  refine w_rz rfl rfl (by decide) ?_
  exact ⟨rfl, _, rfl, Q2, k2⟩
theorem eP_30 {hi0 hi : Nat → Nat → Int32} {X : lm_X} {T : lm_T} {n : Nat} {R : Nat → Int32} {tl : Nat → Int32} {ts p : Nat} {st v : Int32} (P : eP hi0 hi X T n R tl ts p st) : eP hi0 (lm_up hi 123 30 v) X T n R tl ts p v := by
  obtain ⟨⟨S, O, H, HR, Q, K⟩, t1, t2, t3, t4, t5, t6⟩ := P
  have hn := rTle H
  exact ⟨⟨S, olP_fr (fr_up (lo := 123) (up := 124) fr_rfl (by decide)) (by decide) O, ⟨fun k hk a ha => (lm_up_na (by omega)).trans (H.1 k hk a ha), fun h hh w hw => (lm_up_na (by omega)).trans (H.2.1 h hh w hw), (lm_up_nk (by decide)).trans H.2.2.1, hn⟩, ⟨⟨(lm_up_nk (by decide)).trans HR.1.1, fun c hc => (lm_up_na (by decide)).trans (HR.1.2 c hc)⟩, (lm_up_nk (by decide)).trans HR.2.1, (lm_up_nk (by decide)).trans HR.2.2.1, (lm_up_nk (by decide)).trans HR.2.2.2.1, (lm_up_na (by decide)).trans HR.2.2.2.2.1, (lm_up_na (by decide)).trans HR.2.2.2.2.2⟩, rQ_u (by decide) Q, lm_up_eq⟩, (lm_up_nk (by decide)).trans t1, fun i hi => (lm_up_na (by decide)).trans (t2 i hi), (lm_up_nk (by decide)).trans t3, (lm_up_nk (by decide)).trans t4, (lm_up_nk (by decide)).trans t5, (lm_up_nk (by decide)).trans t6⟩
theorem y_af3T {hi0 hi : Nat → Nat → Int32} {hl : Nat → Nat → Int64} {X : lm_X} {T : lm_T} {n : Nat} {R : Nat → Int32} {tl : Nat → Int32} {ts p k : Nat} (P : eP hi0 hi X T n R tl ts p (nI k)) (hts : ts ≤ 250) (hp : p ≤ ts) (hk : k ≤ p) (h3 : tkS tl ts p = 3) {T' : lm_T} {n' : Nat} {R' : Nat → Int32} {p' : Nat} (hs : ∀ hi0 hi hl X st, eP hi0 hi X T n R tl ts (tkE tl ts p) st → lm_w 40 166 [.ref 123] (hi, hl, X) (eT hi0 hl X T' n' R' tl ts p' st)) {Q : Option Value → lm_H → Prop} (hn : ∀ hi2, eP hi0 hi2 X T' n' R' tl ts p' (nI (k + 1)) → lm_wp 41 167 23 [.ref 123] [] (hi2, hl, X) Q) : lm_wp 41 167 23 [.ref 123] [] (hi, hl, X) (Q) := by
  obtain ⟨⟨S, O, H, HR, FQ, K30⟩, HP⟩ := id P
  have hb := tk_b (tl := tl) hp
  have hF : tkF tl ts p < ts := Decidable.byContradiction fun z => by
    have q := tk_0.mpr z
    rw [h3] at q
    exact absurd q (by decide)
  refine w_N 1 24 [.ref 123] [.ref 123] rfl ?_
  refine w_gi (v := tkS tl ts p) rfl rfl rfl (M_kd S) (HP.2.2.2.2.1) ?_
  refine w_if_eq_f (t := 69) rfl rfl (by rw [h3]; decide) ?_
  refine w_N 1 31 [.ref 123] [.ref 123] rfl ?_
  refine w_gi (v := tkS tl ts p) rfl rfl rfl (M_kd S) (HP.2.2.2.2.1) ?_
  refine w_N 1 35 [.ref 123] [.int 3, .int (tkS tl ts p)] rfl ?_
  refine w_icmp_eq_t (t := 43) rfl rfl h3 ?_
  refine w_N 1 44 [.ref 123] [.ref 123] rfl ?_
  refine w_ca (w_vst rfl rfl rfl (Nat.le_of_ble_eq_true rfl) (Nat.le_of_ble_eq_true rfl) (M_kd S)) (m_look (d := 39) (tl := tl) S hts HP.1 HP.2.1 hb.2.2.2.1 HP.2.2.2.1) ?_
  rintro _ _ ⟨h1x, rfl, rfl, P1, f1, g1⟩
  have P : eP hi0 h1x X T n R tl ts (tkE tl ts p) (nI k) := ⟨eQ_tok P.1 (fun a a1 a2 => f1 a a1) (fun k a b c d _ => g1 k a b c d), P1⟩
  obtain ⟨⟨S, O, H, HR, FQ, K30⟩, HP⟩ := id P
  show lm_wp _ 167 47 [.ref 123] [] (h1x, hl, X) _
  refine w_N 1 48 [.ref 123] [.ref 123] rfl ?_
  refine w_ca (w_vst rfl rfl rfl (Nat.le_of_ble_eq_true rfl) (Nat.le_of_ble_eq_true rfl) (M_kd S)) (hs _ _ _ _ _ P) ?_
  rintro _ _ ⟨rfl, h2x, rfl, P⟩
  obtain ⟨⟨S, O, H, HR, FQ, K30⟩, HP⟩ := id P
  show lm_wp _ 167 51 [.ref 123] [.int 1] (h2x, hl, X) _
  refine w_if_ne_t (t := 56) rfl rfl (by decide) ?_
  refine w_N 2 58 [.ref 123] [.ref 123, .ref 123] rfl ?_
  refine w_gi (v := nI k) rfl rfl rfl (M_kd S) (K30) ?_
  refine w_N 2 63 [.ref 123] [.int ((nI k) + 1), .ref 123] rfl ?_
  refine w_pi rfl rfl rfl rfl (M_kd S) (M_64 S) ?_
  refine w_N 1 23 [.ref 123] [] rfl ?_
  rw [← nI_succ]
  exact hn _ (eP_30 P)
def AF (tl : Nat → Int32) (ts : Nat) (T : lm_T) (n : Nat) (R : Nat → Int32) (D p k : Nat) : Prop := (∃ f, (∀ hi0 hi hl X, dP hi0 hi X T n R tl ts p → lm_wp 31 38 28 [.ref 95, .ref 85, .int (nI k)] [] (hi, hl, X) (rdF hi0 hl X f)) ∧ (∀ hi0 hi hl X, eP hi0 hi X T n R tl ts p (nI k) → lm_wp 41 167 23 [.ref 123] [] (hi, hl, X) (eF hi0 hl X f))) ∨ ∃ k' T' n' R', okT T' n' ∧ okR R' D ∧ n' ≤ 10 ∧ k' ≤ 250 ∧ (∀ hi0 hi hl X, dP hi0 hi X T n R tl ts p → lm_wp 31 38 28 [.ref 95, .ref 85, .int (nI k)] [] (hi, hl, X) (rdT hi0 hl X T' n' R' k')) ∧ (∀ hi0 hi hl X, eP hi0 hi X T n R tl ts p (nI k) → lm_wp 41 167 23 [.ref 123] [] (hi, hl, X) (raT hi0 hl X T' n' R' k'))
theorem af_all {tl : Nat → Int32} {ts D : Nat} (hts : ts ≤ 250) : ∀ (r p k : Nat) (T : lm_T) (n : Nat) (R : Nat → Int32), ts - p ≤ r → p ≤ ts → k ≤ p → okT T n → okR R D → n ≤ 10 → AF tl ts T n R D p k := by
  intro r
  induction r with
  | zero =>
    intro p k T n R hr hp hk hT hO hn
    have hb := tk_b (tl := tl) hp
    have h0 : tkS tl ts p = 0 := tk_0.mpr (by omega)
    exact Or.inr ⟨k, T, n, R, hT, hO, hn, by omega, fun _ _ _ _ P => t_af0 P hts hp hk h0, fun _ _ _ _ P => y_af0 P hts hp hk h0⟩
  | succ r ih =>
    intro p k T n R hr hp hk hT hO hn
    by_cases h0 : tkS tl ts p = 0
    · exact Or.inr ⟨k, T, n, R, hT, hO, hn, by omega, fun _ _ _ _ P => t_af0 P hts hp hk h0, fun _ _ _ _ P => y_af0 P hts hp hk h0⟩
    · by_cases h3 : tkS tl ts p = 3
      · have hb := tk_b (tl := tl) hp
        have hF : tkF tl ts p < ts := Decidable.byContradiction fun z => h0 (tk_0.mpr z)
        rcases ss_all (tl := tl) hT hO hn hts hb.2.2.2.1 with ⟨f, q1, q2⟩ | ⟨T', n', R', p', oT, oR, on, l1, l2, q1, q2⟩
        · exact Or.inl ⟨f, fun _ _ _ _ P => t_af3F P hts hp hk h3 q1, fun _ _ _ _ P => y_af3F P hts hp hk h3 q2⟩
        · rcases ih p' (k + 1) T' n' R' (by omega) l2 (by omega) oT oR on with ⟨f, r1, r2⟩ | ⟨k2, T2, n2, R2, a1, a2, a3, a4, r1, r2⟩
          · exact Or.inl ⟨f, fun _ _ _ _ P => t_af3T P hts hp hk h3 q1 (fun _ P2 => r1 _ _ _ _ P2), fun _ _ _ _ P => y_af3T P hts hp hk h3 q2 (fun _ P2 => r2 _ _ _ _ P2)⟩
          · exact Or.inr ⟨k2, T2, n2, R2, a1, a2, a3, a4, fun _ _ _ _ P => t_af3T P hts hp hk h3 q1 (fun _ P2 => r1 _ _ _ _ P2), fun _ _ _ _ P => y_af3T P hts hp hk h3 q2 (fun _ P2 => r2 _ _ _ _ P2)⟩
      · exact Or.inl ⟨_, fun _ _ _ _ P => t_afX P hts hp hk h0 h3, fun _ _ _ _ P => y_afX P hts hp hk h0 h3⟩
theorem t_riF {hi : Nat → Nat → Int32} {hl : Nat → Nat → Int64} {X : lm_X} {T : lm_T} {n : Nat} {R : Nat → Int32} {tl : Nat → Int32} {ts : Nat} (S : sh_A X) (O : olP hi X) (H : isT hi 85 T n) (HR : isR hi 85 R) (hts : ts ≤ 250) (h1 : hi 95 1 = nI ts) (HL : ∀ i, i < ts → hi 96 i = tl i) {f : Nat} (hs : ∀ hi0 hi hl X, dP hi0 hi X T n R tl ts 0 → lm_w 30 43 [.ref 95, .ref 85] (hi, hl, X) (dF hi0 hl X f)) : lm_w 31 38 [.ref 95, .ref 85] (hi, hl, X) (rdF hi hl X f) := by
  refine lm_w_in (Nat.le_of_ble_eq_true rfl) ?_
  show lm_wp 31 38 0 [.ref 95, .ref 85, lm_jk] [] (hi, hl, X) _
  refine w_N 2 2 [.ref 95, .ref 85, lm_jk] [.int 0, .ref 95] rfl ?_
  refine w_pi rfl rfl rfl rfl (A_k S 95 (by decide)) (by decide) ?_
  refine w_N 1 6 [.ref 95, .ref 85, lm_jk] [.ref 95] rfl ?_
  refine w_ca (w_vst rfl rfl rfl (Nat.le_of_ble_eq_true rfl) (Nat.le_of_ble_eq_true rfl) (A_k S 95 (by decide))) (t_adv (d := 29) (tl := tl) (e := 0) S hts ((lm_up_nk (by decide)).trans h1) (fun i hi2 => (lm_up_na (by decide)).trans (HL i hi2)) (Nat.zero_le _) lm_up_eq) ?_
  rintro _ _ ⟨h1x, rfl, rfl, P1, f1⟩
  have F1 : fr 95 96 hi h1x := fun a ha => (f1 a (by omega)).trans (lm_up_rw (by omega))
  have P : dP hi h1x X T n R tl ts 0 := ⟨S, olP_fr F1 (by decide) O, isT_fr F1 (by decide) H, isR_fr F1 (by decide) HR, P1, fr_mono F1 (by decide)⟩
  obtain ⟨S, O, H, HR, HP, FF⟩ := id P
  show lm_wp _ 38 9 [.ref 95, .ref 85, lm_jk] [] (h1x, hl, X) _
  refine w_N 4 15 [.ref 95, .ref 85, .int 1] [.int 250, .int 1] rfl ?_
  refine w_icmp_gt_f (t := 57) rfl rfl (by decide) ?_
  refine w_N 2 20 [.ref 95, .ref 85, .int 1] [.ref 85, .ref 95] rfl ?_
  refine w_ca (w_vst rfl rfl rfl (Nat.le_of_ble_eq_true rfl) (Nat.le_of_ble_eq_true rfl) (A_k S 95 (by decide))) (hs _ _ _ _ P) ?_
  rintro _ _ ⟨rfl, h2x, rfl, F2, k2⟩
  show lm_wp _ 38 23 [.ref 95, .ref 85, .int 1] [.int 0] (h2x, hl, X) _
  refine w_if_ne_f (t := 28) rfl rfl (by decide) ?_
  refine w_N 1 27 [.ref 95, .ref 85, .int 1] [.int (-1)] rfl ?_
  refine w_ri rfl rfl ?_
  exact ⟨rfl, _, rfl, F2, k2⟩
theorem t_riT {hi : Nat → Nat → Int32} {hl : Nat → Nat → Int64} {X : lm_X} {T : lm_T} {n : Nat} {R : Nat → Int32} {tl : Nat → Int32} {ts : Nat} (S : sh_A X) (O : olP hi X) (H : isT hi 85 T n) (HR : isR hi 85 R) (hts : ts ≤ 250) (h1 : hi 95 1 = nI ts) (HL : ∀ i, i < ts → hi 96 i = tl i) {T' : lm_T} {n' : Nat} {R' : Nat → Int32} {p' : Nat} (hs : ∀ hi0 hi hl X, dP hi0 hi X T n R tl ts 0 → lm_w 30 43 [.ref 95, .ref 85] (hi, hl, X) (dT hi0 hl X T' n' R' tl ts p')) {Q : Option Value → lm_H → Prop} (hn : ∀ hi2, dP hi hi2 X T' n' R' tl ts p' → lm_wp 31 38 28 [.ref 95, .ref 85, .int (nI 1)] [] (hi2, hl, X) Q) : lm_w 31 38 [.ref 95, .ref 85] (hi, hl, X) (Q) := by
  refine lm_w_in (Nat.le_of_ble_eq_true rfl) ?_
  show lm_wp 31 38 0 [.ref 95, .ref 85, lm_jk] [] (hi, hl, X) _
  refine w_N 2 2 [.ref 95, .ref 85, lm_jk] [.int 0, .ref 95] rfl ?_
  refine w_pi rfl rfl rfl rfl (A_k S 95 (by decide)) (by decide) ?_
  refine w_N 1 6 [.ref 95, .ref 85, lm_jk] [.ref 95] rfl ?_
  refine w_ca (w_vst rfl rfl rfl (Nat.le_of_ble_eq_true rfl) (Nat.le_of_ble_eq_true rfl) (A_k S 95 (by decide))) (t_adv (d := 29) (tl := tl) (e := 0) S hts ((lm_up_nk (by decide)).trans h1) (fun i hi2 => (lm_up_na (by decide)).trans (HL i hi2)) (Nat.zero_le _) lm_up_eq) ?_
  rintro _ _ ⟨h1x, rfl, rfl, P1, f1⟩
  have F1 : fr 95 96 hi h1x := fun a ha => (f1 a (by omega)).trans (lm_up_rw (by omega))
  have P : dP hi h1x X T n R tl ts 0 := ⟨S, olP_fr F1 (by decide) O, isT_fr F1 (by decide) H, isR_fr F1 (by decide) HR, P1, fr_mono F1 (by decide)⟩
  obtain ⟨S, O, H, HR, HP, FF⟩ := id P
  show lm_wp _ 38 9 [.ref 95, .ref 85, lm_jk] [] (h1x, hl, X) _
  refine w_N 4 15 [.ref 95, .ref 85, .int 1] [.int 250, .int 1] rfl ?_
  refine w_icmp_gt_f (t := 57) rfl rfl (by decide) ?_
  refine w_N 2 20 [.ref 95, .ref 85, .int 1] [.ref 85, .ref 95] rfl ?_
  refine w_ca (w_vst rfl rfl rfl (Nat.le_of_ble_eq_true rfl) (Nat.le_of_ble_eq_true rfl) (A_k S 95 (by decide))) (hs _ _ _ _ P) ?_
  rintro _ _ ⟨rfl, h2x, rfl, P2⟩
  show lm_wp _ 38 23 [.ref 95, .ref 85, .int 1] [.int 1] (h2x, hl, X) _
  refine w_if_ne_t (t := 28) rfl rfl (by decide) ?_
  exact hn _ P2
theorem eQ_0 {hi : Nat → Nat → Int32} {hl : Nat → Nat → Int64} {X : lm_X} {T : lm_T} {n : Nat} {R : Nat → Int32} {tl : Nat → Int32} {ts : Nat} (S : sh_M X 123) (O : olP hi X) (H : rT hi 123 T n) (HR : rR hi 123 R) (hts : ts ≤ 250) (h8 : hi 123 8 = nI ts) (HL : ∀ i, i < ts → hi 139 i = tl i) : eQ hi (lm_up (lm_up hi 123 30 1) 123 24 0) X T n R 1 := by
  have hn := rTle H
  have U : ∀ a, a ≠ 123 → ∀ k, lm_up (lm_up hi 123 30 1) 123 24 0 a k = hi a k := fun a ha k => by rw [lm_up_na ha, lm_up_na ha]
  have W : ∀ k, k ≠ 30 → k ≠ 24 → lm_up (lm_up hi 123 30 1) 123 24 0 123 k = hi 123 k := fun k h1 h2 => by rw [lm_up_nk h2, lm_up_nk h1]
  exact ⟨S, olP_fr (fr_up (lo := 123) (up := 124) (fr_up fr_rfl (by decide)) (by decide)) (by decide) O, ⟨fun k hk a ha => (U _ (by omega) _).trans (H.1 k hk a ha), fun h hh w hw => (U _ (by omega) _).trans (H.2.1 h hh w hw), (W _ (by decide) (by decide)).trans H.2.2.1, hn⟩, ⟨⟨(W _ (by decide) (by decide)).trans HR.1.1, fun c hc => (U _ (by decide) _).trans (HR.1.2 c hc)⟩, (W _ (by decide) (by decide)).trans HR.2.1, (W _ (by decide) (by decide)).trans HR.2.2.1, (W _ (by decide) (by decide)).trans HR.2.2.2.1, (U _ (by decide) _).trans HR.2.2.2.2.2.2.1, (U _ (by decide) _).trans HR.2.2.2.2.2.2.2⟩, rQ_u (by decide) (rQ_u (by decide) rQ_rfl), (lm_up_nk (by decide)).trans lm_up_eq⟩
theorem y_raF {hi : Nat → Nat → Int32} {hl : Nat → Nat → Int64} {X : lm_X} {T : lm_T} {n : Nat} {R : Nat → Int32} {tl : Nat → Int32} {ts : Nat} (S : sh_M X 123) (O : olP hi X) (H : rT hi 123 T n) (HR : rR hi 123 R) (hts : ts ≤ 250) (h8 : hi 123 8 = nI ts) (HL : ∀ i, i < ts → hi 139 i = tl i) {f : Nat} (hs : ∀ hi0 hi hl X st, eP hi0 hi X T n R tl ts 0 st → lm_w 40 166 [.ref 123] (hi, hl, X) (eF hi0 hl X f)) : lm_w 41 167 [.ref 123] (hi, hl, X) (eF hi hl X f) := by
  refine lm_w_in (Nat.le_of_ble_eq_true rfl) ?_
  show lm_wp 41 167 0 [.ref 123] [] (hi, hl, X) _
  refine w_N 2 2 [.ref 123] [.int 1, .ref 123] rfl ?_
  refine w_pi rfl rfl rfl rfl (M_kd S) (M_64 S) ?_
  refine w_N 2 7 [.ref 123] [.int 0, .ref 123] rfl ?_
  refine w_pi rfl rfl rfl rfl (M_kd S) (M_64 S) ?_
  refine w_N 1 11 [.ref 123] [.ref 123] rfl ?_
  refine w_ca (w_vst rfl rfl rfl (Nat.le_of_ble_eq_true rfl) (Nat.le_of_ble_eq_true rfl) (M_kd S)) (m_look (d := 39) (tl := tl) (e := 0) (hi := lm_up (lm_up hi 123 30 1) 123 24 0) S hts (by rw [lm_up_nk (by decide), lm_up_nk (by decide)]; exact h8) (fun i hi2 => by rw [lm_up_na (by decide), lm_up_na (by decide)]; exact HL i hi2) (Nat.zero_le _) lm_up_eq) ?_
  rintro _ _ ⟨h1x, rfl, rfl, P1, f1, g1⟩
  have P : eP hi h1x X T n R tl ts 0 (nI 1) := ⟨eQ_tok (eQ_0 (hl := hl) S O H HR hts h8 HL) (fun a a1 a2 => f1 a a1) (fun k a b c d _ => g1 k a b c d), P1⟩
  show lm_wp _ 167 14 [.ref 123] [] (h1x, hl, X) _
  refine w_N 1 15 [.ref 123] [.ref 123] rfl ?_
  refine w_ca (w_vst rfl rfl rfl (Nat.le_of_ble_eq_true rfl) (Nat.le_of_ble_eq_true rfl) (M_kd S)) (hs _ _ _ _ _ P) ?_
  rintro _ _ ⟨rfl, h2x, rfl, Q2, k2⟩
  show lm_wp _ 167 18 [.ref 123] [.int 0] (h2x, hl, X) _
  refine w_if_ne_f (t := 23) rfl rfl (by decide) ?_
  refine w_N 1 22 [.ref 123] [.int 0] rfl ?_
  refine w_rz rfl rfl (by decide) ?_
  exact ⟨rfl, _, rfl, Q2, k2⟩
theorem y_raT {hi : Nat → Nat → Int32} {hl : Nat → Nat → Int64} {X : lm_X} {T : lm_T} {n : Nat} {R : Nat → Int32} {tl : Nat → Int32} {ts : Nat} (S : sh_M X 123) (O : olP hi X) (H : rT hi 123 T n) (HR : rR hi 123 R) (hts : ts ≤ 250) (h8 : hi 123 8 = nI ts) (HL : ∀ i, i < ts → hi 139 i = tl i) {T' : lm_T} {n' : Nat} {R' : Nat → Int32} {p' : Nat} (hs : ∀ hi0 hi hl X st, eP hi0 hi X T n R tl ts 0 st → lm_w 40 166 [.ref 123] (hi, hl, X) (eT hi0 hl X T' n' R' tl ts p' st)) {Q : Option Value → lm_H → Prop} (hn : ∀ hi2, eP hi hi2 X T' n' R' tl ts p' (nI 1) → lm_wp 41 167 23 [.ref 123] [] (hi2, hl, X) Q) : lm_w 41 167 [.ref 123] (hi, hl, X) (Q) := by
  refine lm_w_in (Nat.le_of_ble_eq_true rfl) ?_
  show lm_wp 41 167 0 [.ref 123] [] (hi, hl, X) _
  refine w_N 2 2 [.ref 123] [.int 1, .ref 123] rfl ?_
  refine w_pi rfl rfl rfl rfl (M_kd S) (M_64 S) ?_
  refine w_N 2 7 [.ref 123] [.int 0, .ref 123] rfl ?_
  refine w_pi rfl rfl rfl rfl (M_kd S) (M_64 S) ?_
  refine w_N 1 11 [.ref 123] [.ref 123] rfl ?_
  refine w_ca (w_vst rfl rfl rfl (Nat.le_of_ble_eq_true rfl) (Nat.le_of_ble_eq_true rfl) (M_kd S)) (m_look (d := 39) (tl := tl) (e := 0) (hi := lm_up (lm_up hi 123 30 1) 123 24 0) S hts (by rw [lm_up_nk (by decide), lm_up_nk (by decide)]; exact h8) (fun i hi2 => by rw [lm_up_na (by decide), lm_up_na (by decide)]; exact HL i hi2) (Nat.zero_le _) lm_up_eq) ?_
  rintro _ _ ⟨h1x, rfl, rfl, P1, f1, g1⟩
  have P : eP hi h1x X T n R tl ts 0 (nI 1) := ⟨eQ_tok (eQ_0 (hl := hl) S O H HR hts h8 HL) (fun a a1 a2 => f1 a a1) (fun k a b c d _ => g1 k a b c d), P1⟩
  show lm_wp _ 167 14 [.ref 123] [] (h1x, hl, X) _
  refine w_N 1 15 [.ref 123] [.ref 123] rfl ?_
  refine w_ca (w_vst rfl rfl rfl (Nat.le_of_ble_eq_true rfl) (Nat.le_of_ble_eq_true rfl) (M_kd S)) (hs _ _ _ _ _ P) ?_
  rintro _ _ ⟨rfl, h2x, rfl, P2⟩
  show lm_wp _ 167 18 [.ref 123] [.int 1] (h2x, hl, X) _
  refine w_if_ne_t (t := 23) rfl rfl (by decide) ?_
  exact hn _ P2
def RA (tl : Nat → Int32) (ts : Nat) (T : lm_T) (n : Nat) (R : Nat → Int32) (D : Nat) : Prop := (∃ f, (∀ hi hl X, sh_A X → olP hi X → isT hi 85 T n → isR hi 85 R → hi 95 1 = nI ts → (∀ i, i < ts → hi 96 i = tl i) → lm_w 31 38 [.ref 95, .ref 85] (hi, hl, X) (rdF hi hl X f)) ∧ (∀ hi hl X, sh_M X 123 → olP hi X → rT hi 123 T n → rR hi 123 R → hi 123 8 = nI ts → (∀ i, i < ts → hi 139 i = tl i) → lm_w 41 167 [.ref 123] (hi, hl, X) (eF hi hl X f))) ∨ ∃ k' T' n' R', okT T' n' ∧ okR R' D ∧ n' ≤ 10 ∧ k' ≤ 250 ∧ (∀ hi hl X, sh_A X → olP hi X → isT hi 85 T n → isR hi 85 R → hi 95 1 = nI ts → (∀ i, i < ts → hi 96 i = tl i) → lm_w 31 38 [.ref 95, .ref 85] (hi, hl, X) (rdT hi hl X T' n' R' k')) ∧ (∀ hi hl X, sh_M X 123 → olP hi X → rT hi 123 T n → rR hi 123 R → hi 123 8 = nI ts → (∀ i, i < ts → hi 139 i = tl i) → lm_w 41 167 [.ref 123] (hi, hl, X) (raT hi hl X T' n' R' k'))
theorem ra_all {tl : Nat → Int32} {ts D n : Nat} {T : lm_T} {R : Nat → Int32} (hts : ts ≤ 250) (hT : okT T n) (hO : okR R D) (hn : n ≤ 10) : RA tl ts T n R D := by
  rcases ss_all (tl := tl) hT hO hn hts (Nat.zero_le ts) with ⟨f, q1, q2⟩ | ⟨T', n', R', p', oT, oR, on, l1, l2, q1, q2⟩
  · exact Or.inl ⟨f, fun _ _ _ S O H HR h1 HL => t_riF S O H HR hts h1 HL q1, fun _ _ _ S O H HR h1 HL => y_raF S O H HR hts h1 HL q2⟩
  · rcases af_all (tl := tl) hts ts p' 1 T' n' R' (by omega) l2 (by omega) oT oR on with ⟨f, r1, r2⟩ | ⟨k2, T2, n2, R2, a1, a2, a3, a4, r1, r2⟩
    · exact Or.inl ⟨f, fun _ _ _ S O H HR h1 HL => t_riT S O H HR hts h1 HL q1 (fun _ P => r1 _ _ _ _ P), fun _ _ _ S O H HR h1 HL => y_raT S O H HR hts h1 HL q2 (fun _ P => r2 _ _ _ _ P)⟩
    · exact Or.inr ⟨k2, T2, n2, R2, a1, a2, a3, a4, fun _ _ _ S O H HR h1 HL => t_riT S O H HR hts h1 HL q1 (fun _ P => r1 _ _ _ _ P), fun _ _ _ S O H HR h1 HL => y_raT S O H HR hts h1 HL q2 (fun _ P => r2 _ _ _ _ P)⟩
