set_option maxRecDepth 16384
/-! the tape: words and numbers -/
def chk (f : Nat → Int32) : Nat → List Int32 → Bool
  | _, [] => true
  | a, c :: cs => decide (f a = c) && chk f (a + 1) cs
def wdq (tl : Nat → Int32) (ts p : Nat) (s : List Int32) : Bool := decide (tkS tl ts p = 1) && (decide (nI (tkE tl ts p) - nI (tkF tl ts p) = nI s.length) && chk tl (tkF tl ts p) s)
theorem len_e {tl : Nat → Int32} {ts p L : Nat} (hts : ts ≤ 250) (hp : p ≤ ts) (hL : L < 8) (h : nI (tkE tl ts p) - nI (tkF tl ts p) = nI L) : tkE tl ts p = tkF tl ts p + L := by
  have hb := tk_b (tl := tl) hp
  rw [nI_sub hb.2.2.1, nI_inj (by omega) (by omega)] at h
  omega
def nmO (tl : Nat → Int32) (ts p : Nat) (lo up : Int32) : Bool := decide (tkS tl ts p = 2) && wi (fgI tl ts p) lo up
theorem nm_t {tl : Nat → Int32} {ts p : Nat} {lo up : Int32} (h : nmO tl ts p lo up = true) : tkS tl ts p = 2 ∧ wi (fgI tl ts p) lo up = true := by
  unfold nmO at h
  rw [Bool.and_eq_true, decide_eq_true_eq] at h
  exact h
theorem fg_e {tl : Nat → Int32} {ts p : Nat} (h : tkS tl ts p = 2) : fgI tl ts p = fgL tl (tkF tl ts p) (tkE tl ts p - tkF tl ts p) := if_pos h
theorem fg_big {tl : Nat → Int32} {ts p : Nat} (h : tkS tl ts p = 2) (hl : 2 < tkE tl ts p - tkF tl ts p) : fgI tl ts p = 100000 := by
  rw [fg_e h, show tkE tl ts p - tkF tl ts p = (tkE tl ts p - tkF tl ts p - 1) + 1 by omega]
  exact if_neg (by omega)
theorem nm_len {tl : Nat → Int32} {ts p : Nat} {lo up : Int32} (h : nmO tl ts p lo up = true) (hu : up.toInt ≤ 99) : ¬ 2 < tkE tl ts p - tkF tl ts p := fun z => by
  obtain ⟨h1, h2⟩ := nm_t h
  rw [fg_big h1 z] at h2
  have := (wi_b h2).2
  rw [show (100000 : Int32).toInt = 100000 from rfl] at this
  omega
/-- a number token brings the look on -/
theorem nm_F {tl : Nat → Int32} {ts p : Nat} {lo up : Int32} (h : nmO tl ts p lo up = true) : tkF tl ts p < ts := Decidable.byContradiction fun z => by
  have q := tk_0.mpr z
  rw [(nm_t h).1] at q
  exact absurd q (by decide)
theorem wd_F {tl : Nat → Int32} {ts p : Nat} {s : List Int32} (h : wdq tl ts p s = true) : tkF tl ts p < ts := Decidable.byContradiction fun z => by
  have q := tk_0.mpr z
  unfold wdq at h
  rw [q, show decide ((0 : Int32) = 1) = false from rfl, Bool.false_and] at h
  cases h
abbrev wL0 : List Int32 := [97, 99, 116]
abbrev wL1 : List Int32 := [110, 101, 101, 100]
abbrev wL2 : List Int32 := [98, 97, 114]
abbrev wL3 : List Int32 := [109, 97, 114, 107]
abbrev wL4 : List Int32 := [99, 111, 117, 110, 116]
abbrev wL5 : List Int32 := [108, 105, 107, 101, 115]
abbrev wL6 : List Int32 := [104, 97, 116, 101, 115]
abbrev wL7 : List Int32 := [99, 111, 117, 110, 116, 115]
abbrev wL8 : List Int32 := [99, 111, 115, 116, 115]
abbrev wL9 : List Int32 := [104, 105, 100, 101, 115]
abbrev wL10 : List Int32 := [108, 111, 99, 107, 115]
theorem t_isWord0 {d : Nat} {hi : Nat → Nat → Int32} {hl : Nat → Nat → Int64} {X : lm_X} {ts p : Nat} {tl : Nat → Int32} (S : sh_A X) (Q : isTx hi X) (hts : ts ≤ 250) (hp : p ≤ ts) (HP : tpC tl ts hi p) : lm_c (d + 2) 41 [.ref 95, .ref 1] (hi, hl, X) (some (.int (bz (wdq tl ts p wL0))), (hi, hl, X)) := by
  refine lm_c_of (lm_w_in (Nat.le_of_ble_eq_true rfl) ?_)
  show lm_wp (d + 2) 41 0 [.ref 95, .ref 1, lm_jk] [] (hi, hl, X) _
  refine w_N 1 1 [.ref 95, .ref 1, lm_jk] [.ref 95] rfl ?_
  refine w_gi (v := tkS tl ts p) rfl rfl rfl (A_k S 95 (by decide)) (HP.2.2.2.2) ?_
  refine w_N 1 5 [.ref 95, .ref 1, lm_jk] [.int 1, .int (tkS tl ts p)] rfl ?_
  refine w_icmp_ne (t := 24) rfl rfl (fun c1 => ?_) (fun c1 => ?_)
  · refine w_N 1 25 [.ref 95, .ref 1, lm_jk] [.int 0] rfl ?_
    refine w_rz rfl rfl (by decide) ?_
    show (some (Value.int 0), _) = _
    have e : wdq tl ts p wL0 = false := by
      have hl : nI wL0.length = 3 := rfl
      unfold wdq
      rw [hl]
      simp [chk, Nat.add_assoc, c1]
    rw [e]; rfl
  · refine w_N 1 9 [.ref 95, .ref 1, lm_jk] [.ref 95] rfl ?_
    refine w_gi (v := nI (tkE tl ts p)) rfl rfl rfl (A_k S 95 (by decide)) (HP.2.2.2.1) ?_
    refine w_N 1 13 [.ref 95, .ref 1, lm_jk] [.ref 95, .int (nI (tkE tl ts p))] rfl ?_
    refine w_gi (v := nI (tkF tl ts p)) rfl rfl rfl (A_k S 95 (by decide)) (HP.2.2.1) ?_
    refine w_N 2 18 [.ref 95, .ref 1, lm_jk] [.ref 1, .int ((nI (tkE tl ts p)) - (nI (tkF tl ts p)))] rfl ?_
    refine w_cc (w_vst rfl rfl rfl (Nat.le_of_ble_eq_true rfl) (Nat.le_of_ble_eq_true rfl) (tx_kd (i := 0) Q (by decide))) (tx_len (i := 0) (L := 3) Q (by decide) rfl) ?_
    show lm_wp _ 41 21 [.ref 95, .ref 1, lm_jk] [.int 3, .int ((nI (tkE tl ts p)) - (nI (tkF tl ts p)))] (hi, hl, X) _
    refine w_icmp_eq (t := 26) rfl rfl (fun c2 => ?_) (fun c2 => ?_)
    · have hE := len_e (L := 3) hts hp (by decide) c2
      have hb := tk_b (tl := tl) hp
      refine w_N 4 30 [.ref 95, .ref 1, .int 0] [.ref 1, .int 0] rfl ?_
      refine w_cc (w_vst rfl rfl rfl (Nat.le_of_ble_eq_true rfl) (Nat.le_of_ble_eq_true rfl) (tx_kd (i := 0) Q (by decide))) (tx_len (i := 0) (L := 3) Q (by decide) rfl) ?_
      show lm_wp _ 41 33 [.ref 95, .ref 1, .int 0] [.int 3, .int 0] (hi, hl, X) _
      refine w_icmp_ge_f (t := 63) rfl rfl (by decide) ?_
      refine w_N 1 37 [.ref 95, .ref 1, .int 0] [.ref 95] rfl ?_
      refine w_gr 96 rfl rfl rfl (A_k S 95 (by decide)) (A_r S 95 0 (by decide)) ?_
      refine w_N 1 41 [.ref 95, .ref 1, .int 0] [.ref 95, .ref 96] rfl ?_
      refine w_gi (v := nI (tkF tl ts p)) rfl rfl rfl (A_k S 95 (by decide)) (HP.2.2.1) ?_
      refine w_N 2 46 [.ref 95, .ref 1, .int 0] [.int ((nI (tkF tl ts p)) + 0), .ref 96] rfl ?_
      refine w_ia (tkF tl ts p) (v := tl (tkF tl ts p)) rfl (A_k S 96 (by decide)) (show X.2.2.1 96 = 250 from A_l S 96 (by decide)) (Int32.add_zero _) (by omega) (by decide) (HP.2.1 (tkF tl ts p) (by omega)) ?_
      refine w_N 2 49 [.ref 95, .ref 1, .int 0] [.int 0, .ref 1, .int (tl (tkF tl ts p))] rfl ?_
      refine w_cc (w_vst rfl rfl rfl (Nat.le_of_ble_eq_true rfl) (Nat.le_of_ble_eq_true rfl) (tx_kd (i := 0) Q (by decide))) (tx_char (i := 0) (k := 0) (c := 97) Q (by decide) (by decide) rfl) ?_
      show lm_wp _ 41 52 [.ref 95, .ref 1, .int 0] [.int 97, .int (tl (tkF tl ts p))] (hi, hl, X) _
      refine w_icmp_eq (t := 57) rfl rfl (fun c3 => ?_) (fun c3 => ?_)
      · refine w_N 4 30 [.ref 95, .ref 1, .int 1] [.ref 1, .int 1] rfl ?_
        refine w_cc (w_vst rfl rfl rfl (Nat.le_of_ble_eq_true rfl) (Nat.le_of_ble_eq_true rfl) (tx_kd (i := 0) Q (by decide))) (tx_len (i := 0) (L := 3) Q (by decide) rfl) ?_
        show lm_wp _ 41 33 [.ref 95, .ref 1, .int 1] [.int 3, .int 1] (hi, hl, X) _
        refine w_icmp_ge_f (t := 63) rfl rfl (by decide) ?_
        refine w_N 1 37 [.ref 95, .ref 1, .int 1] [.ref 95] rfl ?_
        refine w_gr 96 rfl rfl rfl (A_k S 95 (by decide)) (A_r S 95 0 (by decide)) ?_
        refine w_N 1 41 [.ref 95, .ref 1, .int 1] [.ref 95, .ref 96] rfl ?_
        refine w_gi (v := nI (tkF tl ts p)) rfl rfl rfl (A_k S 95 (by decide)) (HP.2.2.1) ?_
        refine w_N 2 46 [.ref 95, .ref 1, .int 1] [.int ((nI (tkF tl ts p)) + 1), .ref 96] rfl ?_
        refine w_ia (tkF tl ts p + 1) (v := tl (tkF tl ts p + 1)) rfl (A_k S 96 (by decide)) (show X.2.2.1 96 = 250 from A_l S 96 (by decide)) (nI_add' _ 1) (by omega) (by decide) (HP.2.1 (tkF tl ts p + 1) (by omega)) ?_
        refine w_N 2 49 [.ref 95, .ref 1, .int 1] [.int 1, .ref 1, .int (tl (tkF tl ts p + 1))] rfl ?_
        refine w_cc (w_vst rfl rfl rfl (Nat.le_of_ble_eq_true rfl) (Nat.le_of_ble_eq_true rfl) (tx_kd (i := 0) Q (by decide))) (tx_char (i := 0) (k := 1) (c := 99) Q (by decide) (by decide) rfl) ?_
        show lm_wp _ 41 52 [.ref 95, .ref 1, .int 1] [.int 99, .int (tl (tkF tl ts p + 1))] (hi, hl, X) _
        refine w_icmp_eq (t := 57) rfl rfl (fun c4 => ?_) (fun c4 => ?_)
        · refine w_N 4 30 [.ref 95, .ref 1, .int 2] [.ref 1, .int 2] rfl ?_
          refine w_cc (w_vst rfl rfl rfl (Nat.le_of_ble_eq_true rfl) (Nat.le_of_ble_eq_true rfl) (tx_kd (i := 0) Q (by decide))) (tx_len (i := 0) (L := 3) Q (by decide) rfl) ?_
          show lm_wp _ 41 33 [.ref 95, .ref 1, .int 2] [.int 3, .int 2] (hi, hl, X) _
          refine w_icmp_ge_f (t := 63) rfl rfl (by decide) ?_
          refine w_N 1 37 [.ref 95, .ref 1, .int 2] [.ref 95] rfl ?_
          refine w_gr 96 rfl rfl rfl (A_k S 95 (by decide)) (A_r S 95 0 (by decide)) ?_
          refine w_N 1 41 [.ref 95, .ref 1, .int 2] [.ref 95, .ref 96] rfl ?_
          refine w_gi (v := nI (tkF tl ts p)) rfl rfl rfl (A_k S 95 (by decide)) (HP.2.2.1) ?_
          refine w_N 2 46 [.ref 95, .ref 1, .int 2] [.int ((nI (tkF tl ts p)) + 2), .ref 96] rfl ?_
          refine w_ia (tkF tl ts p + 2) (v := tl (tkF tl ts p + 2)) rfl (A_k S 96 (by decide)) (show X.2.2.1 96 = 250 from A_l S 96 (by decide)) (nI_add' _ 2) (by omega) (by decide) (HP.2.1 (tkF tl ts p + 2) (by omega)) ?_
          refine w_N 2 49 [.ref 95, .ref 1, .int 2] [.int 2, .ref 1, .int (tl (tkF tl ts p + 2))] rfl ?_
          refine w_cc (w_vst rfl rfl rfl (Nat.le_of_ble_eq_true rfl) (Nat.le_of_ble_eq_true rfl) (tx_kd (i := 0) Q (by decide))) (tx_char (i := 0) (k := 2) (c := 116) Q (by decide) (by decide) rfl) ?_
          show lm_wp _ 41 52 [.ref 95, .ref 1, .int 2] [.int 116, .int (tl (tkF tl ts p + 2))] (hi, hl, X) _
          refine w_icmp_eq (t := 57) rfl rfl (fun c5 => ?_) (fun c5 => ?_)
          · refine w_N 4 30 [.ref 95, .ref 1, .int 3] [.ref 1, .int 3] rfl ?_
            refine w_cc (w_vst rfl rfl rfl (Nat.le_of_ble_eq_true rfl) (Nat.le_of_ble_eq_true rfl) (tx_kd (i := 0) Q (by decide))) (tx_len (i := 0) (L := 3) Q (by decide) rfl) ?_
            show lm_wp _ 41 33 [.ref 95, .ref 1, .int 3] [.int 3, .int 3] (hi, hl, X) _
            refine w_icmp_ge_t (t := 63) rfl rfl (by decide) ?_
            refine w_N 1 64 [.ref 95, .ref 1, .int 3] [.int 1] rfl ?_
            refine w_rz rfl rfl (by decide) ?_
            show (some (Value.int 1), _) = _
            have e : wdq tl ts p wL0 = true := by
              have hl : nI wL0.length = 3 := rfl
              unfold wdq
              rw [hl]
              simp [chk, Nat.add_assoc, c1, c2, c3, c4, c5]
            rw [e]; rfl
          · refine w_N 1 56 [.ref 95, .ref 1, .int 2] [.int 0] rfl ?_
            refine w_rz rfl rfl (by decide) ?_
            show (some (Value.int 0), _) = _
            have e : wdq tl ts p wL0 = false := by
              have hl : nI wL0.length = 3 := rfl
              unfold wdq
              rw [hl]
              simp [chk, Nat.add_assoc, c1, c2, c3, c4, c5]
            rw [e]; rfl
        · refine w_N 1 56 [.ref 95, .ref 1, .int 1] [.int 0] rfl ?_
          refine w_rz rfl rfl (by decide) ?_
          show (some (Value.int 0), _) = _
          have e : wdq tl ts p wL0 = false := by
            have hl : nI wL0.length = 3 := rfl
            unfold wdq
            rw [hl]
            simp [chk, Nat.add_assoc, c1, c2, c3, c4]
          rw [e]; rfl
      · refine w_N 1 56 [.ref 95, .ref 1, .int 0] [.int 0] rfl ?_
        refine w_rz rfl rfl (by decide) ?_
        show (some (Value.int 0), _) = _
        have e : wdq tl ts p wL0 = false := by
          have hl : nI wL0.length = 3 := rfl
          unfold wdq
          rw [hl]
          simp [chk, Nat.add_assoc, c1, c2, c3]
        rw [e]; rfl
    · refine w_N 1 25 [.ref 95, .ref 1, lm_jk] [.int 0] rfl ?_
      refine w_rz rfl rfl (by decide) ?_
      show (some (Value.int 0), _) = _
      have e : wdq tl ts p wL0 = false := by
        have hl : nI wL0.length = 3 := rfl
        unfold wdq
        rw [hl]
        simp [chk, Nat.add_assoc, c1, c2]
      rw [e]; rfl
theorem t_isWord1 {d : Nat} {hi : Nat → Nat → Int32} {hl : Nat → Nat → Int64} {X : lm_X} {ts p : Nat} {tl : Nat → Int32} (S : sh_A X) (Q : isTx hi X) (hts : ts ≤ 250) (hp : p ≤ ts) (HP : tpC tl ts hi p) : lm_c (d + 2) 41 [.ref 95, .ref 2] (hi, hl, X) (some (.int (bz (wdq tl ts p wL1))), (hi, hl, X)) := by
  refine lm_c_of (lm_w_in (Nat.le_of_ble_eq_true rfl) ?_)
  show lm_wp (d + 2) 41 0 [.ref 95, .ref 2, lm_jk] [] (hi, hl, X) _
  refine w_N 1 1 [.ref 95, .ref 2, lm_jk] [.ref 95] rfl ?_
  refine w_gi (v := tkS tl ts p) rfl rfl rfl (A_k S 95 (by decide)) (HP.2.2.2.2) ?_
  refine w_N 1 5 [.ref 95, .ref 2, lm_jk] [.int 1, .int (tkS tl ts p)] rfl ?_
  refine w_icmp_ne (t := 24) rfl rfl (fun c1 => ?_) (fun c1 => ?_)
  · refine w_N 1 25 [.ref 95, .ref 2, lm_jk] [.int 0] rfl ?_
    refine w_rz rfl rfl (by decide) ?_
    show (some (Value.int 0), _) = _
    have e : wdq tl ts p wL1 = false := by
      have hl : nI wL1.length = 4 := rfl
      unfold wdq
      rw [hl]
      simp [chk, Nat.add_assoc, c1]
    rw [e]; rfl
  · refine w_N 1 9 [.ref 95, .ref 2, lm_jk] [.ref 95] rfl ?_
    refine w_gi (v := nI (tkE tl ts p)) rfl rfl rfl (A_k S 95 (by decide)) (HP.2.2.2.1) ?_
    refine w_N 1 13 [.ref 95, .ref 2, lm_jk] [.ref 95, .int (nI (tkE tl ts p))] rfl ?_
    refine w_gi (v := nI (tkF tl ts p)) rfl rfl rfl (A_k S 95 (by decide)) (HP.2.2.1) ?_
    refine w_N 2 18 [.ref 95, .ref 2, lm_jk] [.ref 2, .int ((nI (tkE tl ts p)) - (nI (tkF tl ts p)))] rfl ?_
    refine w_cc (w_vst rfl rfl rfl (Nat.le_of_ble_eq_true rfl) (Nat.le_of_ble_eq_true rfl) (tx_kd (i := 1) Q (by decide))) (tx_len (i := 1) (L := 4) Q (by decide) rfl) ?_
    show lm_wp _ 41 21 [.ref 95, .ref 2, lm_jk] [.int 4, .int ((nI (tkE tl ts p)) - (nI (tkF tl ts p)))] (hi, hl, X) _
    refine w_icmp_eq (t := 26) rfl rfl (fun c2 => ?_) (fun c2 => ?_)
    · have hE := len_e (L := 4) hts hp (by decide) c2
      have hb := tk_b (tl := tl) hp
      refine w_N 4 30 [.ref 95, .ref 2, .int 0] [.ref 2, .int 0] rfl ?_
      refine w_cc (w_vst rfl rfl rfl (Nat.le_of_ble_eq_true rfl) (Nat.le_of_ble_eq_true rfl) (tx_kd (i := 1) Q (by decide))) (tx_len (i := 1) (L := 4) Q (by decide) rfl) ?_
      show lm_wp _ 41 33 [.ref 95, .ref 2, .int 0] [.int 4, .int 0] (hi, hl, X) _
      refine w_icmp_ge_f (t := 63) rfl rfl (by decide) ?_
      refine w_N 1 37 [.ref 95, .ref 2, .int 0] [.ref 95] rfl ?_
      refine w_gr 96 rfl rfl rfl (A_k S 95 (by decide)) (A_r S 95 0 (by decide)) ?_
      refine w_N 1 41 [.ref 95, .ref 2, .int 0] [.ref 95, .ref 96] rfl ?_
      refine w_gi (v := nI (tkF tl ts p)) rfl rfl rfl (A_k S 95 (by decide)) (HP.2.2.1) ?_
      refine w_N 2 46 [.ref 95, .ref 2, .int 0] [.int ((nI (tkF tl ts p)) + 0), .ref 96] rfl ?_
      refine w_ia (tkF tl ts p) (v := tl (tkF tl ts p)) rfl (A_k S 96 (by decide)) (show X.2.2.1 96 = 250 from A_l S 96 (by decide)) (Int32.add_zero _) (by omega) (by decide) (HP.2.1 (tkF tl ts p) (by omega)) ?_
      refine w_N 2 49 [.ref 95, .ref 2, .int 0] [.int 0, .ref 2, .int (tl (tkF tl ts p))] rfl ?_
      refine w_cc (w_vst rfl rfl rfl (Nat.le_of_ble_eq_true rfl) (Nat.le_of_ble_eq_true rfl) (tx_kd (i := 1) Q (by decide))) (tx_char (i := 1) (k := 0) (c := 110) Q (by decide) (by decide) rfl) ?_
      show lm_wp _ 41 52 [.ref 95, .ref 2, .int 0] [.int 110, .int (tl (tkF tl ts p))] (hi, hl, X) _
      refine w_icmp_eq (t := 57) rfl rfl (fun c3 => ?_) (fun c3 => ?_)
      · refine w_N 4 30 [.ref 95, .ref 2, .int 1] [.ref 2, .int 1] rfl ?_
        refine w_cc (w_vst rfl rfl rfl (Nat.le_of_ble_eq_true rfl) (Nat.le_of_ble_eq_true rfl) (tx_kd (i := 1) Q (by decide))) (tx_len (i := 1) (L := 4) Q (by decide) rfl) ?_
        show lm_wp _ 41 33 [.ref 95, .ref 2, .int 1] [.int 4, .int 1] (hi, hl, X) _
        refine w_icmp_ge_f (t := 63) rfl rfl (by decide) ?_
        refine w_N 1 37 [.ref 95, .ref 2, .int 1] [.ref 95] rfl ?_
        refine w_gr 96 rfl rfl rfl (A_k S 95 (by decide)) (A_r S 95 0 (by decide)) ?_
        refine w_N 1 41 [.ref 95, .ref 2, .int 1] [.ref 95, .ref 96] rfl ?_
        refine w_gi (v := nI (tkF tl ts p)) rfl rfl rfl (A_k S 95 (by decide)) (HP.2.2.1) ?_
        refine w_N 2 46 [.ref 95, .ref 2, .int 1] [.int ((nI (tkF tl ts p)) + 1), .ref 96] rfl ?_
        refine w_ia (tkF tl ts p + 1) (v := tl (tkF tl ts p + 1)) rfl (A_k S 96 (by decide)) (show X.2.2.1 96 = 250 from A_l S 96 (by decide)) (nI_add' _ 1) (by omega) (by decide) (HP.2.1 (tkF tl ts p + 1) (by omega)) ?_
        refine w_N 2 49 [.ref 95, .ref 2, .int 1] [.int 1, .ref 2, .int (tl (tkF tl ts p + 1))] rfl ?_
        refine w_cc (w_vst rfl rfl rfl (Nat.le_of_ble_eq_true rfl) (Nat.le_of_ble_eq_true rfl) (tx_kd (i := 1) Q (by decide))) (tx_char (i := 1) (k := 1) (c := 101) Q (by decide) (by decide) rfl) ?_
        show lm_wp _ 41 52 [.ref 95, .ref 2, .int 1] [.int 101, .int (tl (tkF tl ts p + 1))] (hi, hl, X) _
        refine w_icmp_eq (t := 57) rfl rfl (fun c4 => ?_) (fun c4 => ?_)
        · refine w_N 4 30 [.ref 95, .ref 2, .int 2] [.ref 2, .int 2] rfl ?_
          refine w_cc (w_vst rfl rfl rfl (Nat.le_of_ble_eq_true rfl) (Nat.le_of_ble_eq_true rfl) (tx_kd (i := 1) Q (by decide))) (tx_len (i := 1) (L := 4) Q (by decide) rfl) ?_
          show lm_wp _ 41 33 [.ref 95, .ref 2, .int 2] [.int 4, .int 2] (hi, hl, X) _
          refine w_icmp_ge_f (t := 63) rfl rfl (by decide) ?_
          refine w_N 1 37 [.ref 95, .ref 2, .int 2] [.ref 95] rfl ?_
          refine w_gr 96 rfl rfl rfl (A_k S 95 (by decide)) (A_r S 95 0 (by decide)) ?_
          refine w_N 1 41 [.ref 95, .ref 2, .int 2] [.ref 95, .ref 96] rfl ?_
          refine w_gi (v := nI (tkF tl ts p)) rfl rfl rfl (A_k S 95 (by decide)) (HP.2.2.1) ?_
          refine w_N 2 46 [.ref 95, .ref 2, .int 2] [.int ((nI (tkF tl ts p)) + 2), .ref 96] rfl ?_
          refine w_ia (tkF tl ts p + 2) (v := tl (tkF tl ts p + 2)) rfl (A_k S 96 (by decide)) (show X.2.2.1 96 = 250 from A_l S 96 (by decide)) (nI_add' _ 2) (by omega) (by decide) (HP.2.1 (tkF tl ts p + 2) (by omega)) ?_
          refine w_N 2 49 [.ref 95, .ref 2, .int 2] [.int 2, .ref 2, .int (tl (tkF tl ts p + 2))] rfl ?_
          refine w_cc (w_vst rfl rfl rfl (Nat.le_of_ble_eq_true rfl) (Nat.le_of_ble_eq_true rfl) (tx_kd (i := 1) Q (by decide))) (tx_char (i := 1) (k := 2) (c := 101) Q (by decide) (by decide) rfl) ?_
          show lm_wp _ 41 52 [.ref 95, .ref 2, .int 2] [.int 101, .int (tl (tkF tl ts p + 2))] (hi, hl, X) _
          refine w_icmp_eq (t := 57) rfl rfl (fun c5 => ?_) (fun c5 => ?_)
          · refine w_N 4 30 [.ref 95, .ref 2, .int 3] [.ref 2, .int 3] rfl ?_
            refine w_cc (w_vst rfl rfl rfl (Nat.le_of_ble_eq_true rfl) (Nat.le_of_ble_eq_true rfl) (tx_kd (i := 1) Q (by decide))) (tx_len (i := 1) (L := 4) Q (by decide) rfl) ?_
            show lm_wp _ 41 33 [.ref 95, .ref 2, .int 3] [.int 4, .int 3] (hi, hl, X) _
            refine w_icmp_ge_f (t := 63) rfl rfl (by decide) ?_
            refine w_N 1 37 [.ref 95, .ref 2, .int 3] [.ref 95] rfl ?_
            refine w_gr 96 rfl rfl rfl (A_k S 95 (by decide)) (A_r S 95 0 (by decide)) ?_
            refine w_N 1 41 [.ref 95, .ref 2, .int 3] [.ref 95, .ref 96] rfl ?_
            refine w_gi (v := nI (tkF tl ts p)) rfl rfl rfl (A_k S 95 (by decide)) (HP.2.2.1) ?_
            refine w_N 2 46 [.ref 95, .ref 2, .int 3] [.int ((nI (tkF tl ts p)) + 3), .ref 96] rfl ?_
            refine w_ia (tkF tl ts p + 3) (v := tl (tkF tl ts p + 3)) rfl (A_k S 96 (by decide)) (show X.2.2.1 96 = 250 from A_l S 96 (by decide)) (nI_add' _ 3) (by omega) (by decide) (HP.2.1 (tkF tl ts p + 3) (by omega)) ?_
            refine w_N 2 49 [.ref 95, .ref 2, .int 3] [.int 3, .ref 2, .int (tl (tkF tl ts p + 3))] rfl ?_
            refine w_cc (w_vst rfl rfl rfl (Nat.le_of_ble_eq_true rfl) (Nat.le_of_ble_eq_true rfl) (tx_kd (i := 1) Q (by decide))) (tx_char (i := 1) (k := 3) (c := 100) Q (by decide) (by decide) rfl) ?_
            show lm_wp _ 41 52 [.ref 95, .ref 2, .int 3] [.int 100, .int (tl (tkF tl ts p + 3))] (hi, hl, X) _
            refine w_icmp_eq (t := 57) rfl rfl (fun c6 => ?_) (fun c6 => ?_)
            · refine w_N 4 30 [.ref 95, .ref 2, .int 4] [.ref 2, .int 4] rfl ?_
              refine w_cc (w_vst rfl rfl rfl (Nat.le_of_ble_eq_true rfl) (Nat.le_of_ble_eq_true rfl) (tx_kd (i := 1) Q (by decide))) (tx_len (i := 1) (L := 4) Q (by decide) rfl) ?_
              show lm_wp _ 41 33 [.ref 95, .ref 2, .int 4] [.int 4, .int 4] (hi, hl, X) _
              refine w_icmp_ge_t (t := 63) rfl rfl (by decide) ?_
              refine w_N 1 64 [.ref 95, .ref 2, .int 4] [.int 1] rfl ?_
              refine w_rz rfl rfl (by decide) ?_
              show (some (Value.int 1), _) = _
              have e : wdq tl ts p wL1 = true := by
                have hl : nI wL1.length = 4 := rfl
                unfold wdq
                rw [hl]
                simp [chk, Nat.add_assoc, c1, c2, c3, c4, c5, c6]
              rw [e]; rfl
            · refine w_N 1 56 [.ref 95, .ref 2, .int 3] [.int 0] rfl ?_
              refine w_rz rfl rfl (by decide) ?_
              show (some (Value.int 0), _) = _
              have e : wdq tl ts p wL1 = false := by
                have hl : nI wL1.length = 4 := rfl
                unfold wdq
                rw [hl]
                simp [chk, Nat.add_assoc, c1, c2, c3, c4, c5, c6]
              rw [e]; rfl
          · refine w_N 1 56 [.ref 95, .ref 2, .int 2] [.int 0] rfl ?_
            refine w_rz rfl rfl (by decide) ?_
            show (some (Value.int 0), _) = _
            have e : wdq tl ts p wL1 = false := by
              have hl : nI wL1.length = 4 := rfl
              unfold wdq
              rw [hl]
              simp [chk, Nat.add_assoc, c1, c2, c3, c4, c5]
            rw [e]; rfl
        · refine w_N 1 56 [.ref 95, .ref 2, .int 1] [.int 0] rfl ?_
          refine w_rz rfl rfl (by decide) ?_
          show (some (Value.int 0), _) = _
          have e : wdq tl ts p wL1 = false := by
            have hl : nI wL1.length = 4 := rfl
            unfold wdq
            rw [hl]
            simp [chk, Nat.add_assoc, c1, c2, c3, c4]
          rw [e]; rfl
      · refine w_N 1 56 [.ref 95, .ref 2, .int 0] [.int 0] rfl ?_
        refine w_rz rfl rfl (by decide) ?_
        show (some (Value.int 0), _) = _
        have e : wdq tl ts p wL1 = false := by
          have hl : nI wL1.length = 4 := rfl
          unfold wdq
          rw [hl]
          simp [chk, Nat.add_assoc, c1, c2, c3]
        rw [e]; rfl
    · refine w_N 1 25 [.ref 95, .ref 2, lm_jk] [.int 0] rfl ?_
      refine w_rz rfl rfl (by decide) ?_
      show (some (Value.int 0), _) = _
      have e : wdq tl ts p wL1 = false := by
        have hl : nI wL1.length = 4 := rfl
        unfold wdq
        rw [hl]
        simp [chk, Nat.add_assoc, c1, c2]
      rw [e]; rfl
theorem t_isWord2 {d : Nat} {hi : Nat → Nat → Int32} {hl : Nat → Nat → Int64} {X : lm_X} {ts p : Nat} {tl : Nat → Int32} (S : sh_A X) (Q : isTx hi X) (hts : ts ≤ 250) (hp : p ≤ ts) (HP : tpC tl ts hi p) : lm_c (d + 2) 41 [.ref 95, .ref 3] (hi, hl, X) (some (.int (bz (wdq tl ts p wL2))), (hi, hl, X)) := by
  refine lm_c_of (lm_w_in (Nat.le_of_ble_eq_true rfl) ?_)
  show lm_wp (d + 2) 41 0 [.ref 95, .ref 3, lm_jk] [] (hi, hl, X) _
  refine w_N 1 1 [.ref 95, .ref 3, lm_jk] [.ref 95] rfl ?_
  refine w_gi (v := tkS tl ts p) rfl rfl rfl (A_k S 95 (by decide)) (HP.2.2.2.2) ?_
  refine w_N 1 5 [.ref 95, .ref 3, lm_jk] [.int 1, .int (tkS tl ts p)] rfl ?_
  refine w_icmp_ne (t := 24) rfl rfl (fun c1 => ?_) (fun c1 => ?_)
  · refine w_N 1 25 [.ref 95, .ref 3, lm_jk] [.int 0] rfl ?_
    refine w_rz rfl rfl (by decide) ?_
    show (some (Value.int 0), _) = _
    have e : wdq tl ts p wL2 = false := by
      have hl : nI wL2.length = 3 := rfl
      unfold wdq
      rw [hl]
      simp [chk, Nat.add_assoc, c1]
    rw [e]; rfl
  · refine w_N 1 9 [.ref 95, .ref 3, lm_jk] [.ref 95] rfl ?_
    refine w_gi (v := nI (tkE tl ts p)) rfl rfl rfl (A_k S 95 (by decide)) (HP.2.2.2.1) ?_
    refine w_N 1 13 [.ref 95, .ref 3, lm_jk] [.ref 95, .int (nI (tkE tl ts p))] rfl ?_
    refine w_gi (v := nI (tkF tl ts p)) rfl rfl rfl (A_k S 95 (by decide)) (HP.2.2.1) ?_
    refine w_N 2 18 [.ref 95, .ref 3, lm_jk] [.ref 3, .int ((nI (tkE tl ts p)) - (nI (tkF tl ts p)))] rfl ?_
    refine w_cc (w_vst rfl rfl rfl (Nat.le_of_ble_eq_true rfl) (Nat.le_of_ble_eq_true rfl) (tx_kd (i := 2) Q (by decide))) (tx_len (i := 2) (L := 3) Q (by decide) rfl) ?_
    show lm_wp _ 41 21 [.ref 95, .ref 3, lm_jk] [.int 3, .int ((nI (tkE tl ts p)) - (nI (tkF tl ts p)))] (hi, hl, X) _
    refine w_icmp_eq (t := 26) rfl rfl (fun c2 => ?_) (fun c2 => ?_)
    · have hE := len_e (L := 3) hts hp (by decide) c2
      have hb := tk_b (tl := tl) hp
      refine w_N 4 30 [.ref 95, .ref 3, .int 0] [.ref 3, .int 0] rfl ?_
      refine w_cc (w_vst rfl rfl rfl (Nat.le_of_ble_eq_true rfl) (Nat.le_of_ble_eq_true rfl) (tx_kd (i := 2) Q (by decide))) (tx_len (i := 2) (L := 3) Q (by decide) rfl) ?_
      show lm_wp _ 41 33 [.ref 95, .ref 3, .int 0] [.int 3, .int 0] (hi, hl, X) _
      refine w_icmp_ge_f (t := 63) rfl rfl (by decide) ?_
      refine w_N 1 37 [.ref 95, .ref 3, .int 0] [.ref 95] rfl ?_
      refine w_gr 96 rfl rfl rfl (A_k S 95 (by decide)) (A_r S 95 0 (by decide)) ?_
      refine w_N 1 41 [.ref 95, .ref 3, .int 0] [.ref 95, .ref 96] rfl ?_
      refine w_gi (v := nI (tkF tl ts p)) rfl rfl rfl (A_k S 95 (by decide)) (HP.2.2.1) ?_
      refine w_N 2 46 [.ref 95, .ref 3, .int 0] [.int ((nI (tkF tl ts p)) + 0), .ref 96] rfl ?_
      refine w_ia (tkF tl ts p) (v := tl (tkF tl ts p)) rfl (A_k S 96 (by decide)) (show X.2.2.1 96 = 250 from A_l S 96 (by decide)) (Int32.add_zero _) (by omega) (by decide) (HP.2.1 (tkF tl ts p) (by omega)) ?_
      refine w_N 2 49 [.ref 95, .ref 3, .int 0] [.int 0, .ref 3, .int (tl (tkF tl ts p))] rfl ?_
      refine w_cc (w_vst rfl rfl rfl (Nat.le_of_ble_eq_true rfl) (Nat.le_of_ble_eq_true rfl) (tx_kd (i := 2) Q (by decide))) (tx_char (i := 2) (k := 0) (c := 98) Q (by decide) (by decide) rfl) ?_
      show lm_wp _ 41 52 [.ref 95, .ref 3, .int 0] [.int 98, .int (tl (tkF tl ts p))] (hi, hl, X) _
      refine w_icmp_eq (t := 57) rfl rfl (fun c3 => ?_) (fun c3 => ?_)
      · refine w_N 4 30 [.ref 95, .ref 3, .int 1] [.ref 3, .int 1] rfl ?_
        refine w_cc (w_vst rfl rfl rfl (Nat.le_of_ble_eq_true rfl) (Nat.le_of_ble_eq_true rfl) (tx_kd (i := 2) Q (by decide))) (tx_len (i := 2) (L := 3) Q (by decide) rfl) ?_
        show lm_wp _ 41 33 [.ref 95, .ref 3, .int 1] [.int 3, .int 1] (hi, hl, X) _
        refine w_icmp_ge_f (t := 63) rfl rfl (by decide) ?_
        refine w_N 1 37 [.ref 95, .ref 3, .int 1] [.ref 95] rfl ?_
        refine w_gr 96 rfl rfl rfl (A_k S 95 (by decide)) (A_r S 95 0 (by decide)) ?_
        refine w_N 1 41 [.ref 95, .ref 3, .int 1] [.ref 95, .ref 96] rfl ?_
        refine w_gi (v := nI (tkF tl ts p)) rfl rfl rfl (A_k S 95 (by decide)) (HP.2.2.1) ?_
        refine w_N 2 46 [.ref 95, .ref 3, .int 1] [.int ((nI (tkF tl ts p)) + 1), .ref 96] rfl ?_
        refine w_ia (tkF tl ts p + 1) (v := tl (tkF tl ts p + 1)) rfl (A_k S 96 (by decide)) (show X.2.2.1 96 = 250 from A_l S 96 (by decide)) (nI_add' _ 1) (by omega) (by decide) (HP.2.1 (tkF tl ts p + 1) (by omega)) ?_
        refine w_N 2 49 [.ref 95, .ref 3, .int 1] [.int 1, .ref 3, .int (tl (tkF tl ts p + 1))] rfl ?_
        refine w_cc (w_vst rfl rfl rfl (Nat.le_of_ble_eq_true rfl) (Nat.le_of_ble_eq_true rfl) (tx_kd (i := 2) Q (by decide))) (tx_char (i := 2) (k := 1) (c := 97) Q (by decide) (by decide) rfl) ?_
        show lm_wp _ 41 52 [.ref 95, .ref 3, .int 1] [.int 97, .int (tl (tkF tl ts p + 1))] (hi, hl, X) _
        refine w_icmp_eq (t := 57) rfl rfl (fun c4 => ?_) (fun c4 => ?_)
        · refine w_N 4 30 [.ref 95, .ref 3, .int 2] [.ref 3, .int 2] rfl ?_
          refine w_cc (w_vst rfl rfl rfl (Nat.le_of_ble_eq_true rfl) (Nat.le_of_ble_eq_true rfl) (tx_kd (i := 2) Q (by decide))) (tx_len (i := 2) (L := 3) Q (by decide) rfl) ?_
          show lm_wp _ 41 33 [.ref 95, .ref 3, .int 2] [.int 3, .int 2] (hi, hl, X) _
          refine w_icmp_ge_f (t := 63) rfl rfl (by decide) ?_
          refine w_N 1 37 [.ref 95, .ref 3, .int 2] [.ref 95] rfl ?_
          refine w_gr 96 rfl rfl rfl (A_k S 95 (by decide)) (A_r S 95 0 (by decide)) ?_
          refine w_N 1 41 [.ref 95, .ref 3, .int 2] [.ref 95, .ref 96] rfl ?_
          refine w_gi (v := nI (tkF tl ts p)) rfl rfl rfl (A_k S 95 (by decide)) (HP.2.2.1) ?_
          refine w_N 2 46 [.ref 95, .ref 3, .int 2] [.int ((nI (tkF tl ts p)) + 2), .ref 96] rfl ?_
          refine w_ia (tkF tl ts p + 2) (v := tl (tkF tl ts p + 2)) rfl (A_k S 96 (by decide)) (show X.2.2.1 96 = 250 from A_l S 96 (by decide)) (nI_add' _ 2) (by omega) (by decide) (HP.2.1 (tkF tl ts p + 2) (by omega)) ?_
          refine w_N 2 49 [.ref 95, .ref 3, .int 2] [.int 2, .ref 3, .int (tl (tkF tl ts p + 2))] rfl ?_
          refine w_cc (w_vst rfl rfl rfl (Nat.le_of_ble_eq_true rfl) (Nat.le_of_ble_eq_true rfl) (tx_kd (i := 2) Q (by decide))) (tx_char (i := 2) (k := 2) (c := 114) Q (by decide) (by decide) rfl) ?_
          show lm_wp _ 41 52 [.ref 95, .ref 3, .int 2] [.int 114, .int (tl (tkF tl ts p + 2))] (hi, hl, X) _
          refine w_icmp_eq (t := 57) rfl rfl (fun c5 => ?_) (fun c5 => ?_)
          · refine w_N 4 30 [.ref 95, .ref 3, .int 3] [.ref 3, .int 3] rfl ?_
            refine w_cc (w_vst rfl rfl rfl (Nat.le_of_ble_eq_true rfl) (Nat.le_of_ble_eq_true rfl) (tx_kd (i := 2) Q (by decide))) (tx_len (i := 2) (L := 3) Q (by decide) rfl) ?_
            show lm_wp _ 41 33 [.ref 95, .ref 3, .int 3] [.int 3, .int 3] (hi, hl, X) _
            refine w_icmp_ge_t (t := 63) rfl rfl (by decide) ?_
            refine w_N 1 64 [.ref 95, .ref 3, .int 3] [.int 1] rfl ?_
            refine w_rz rfl rfl (by decide) ?_
            show (some (Value.int 1), _) = _
            have e : wdq tl ts p wL2 = true := by
              have hl : nI wL2.length = 3 := rfl
              unfold wdq
              rw [hl]
              simp [chk, Nat.add_assoc, c1, c2, c3, c4, c5]
            rw [e]; rfl
          · refine w_N 1 56 [.ref 95, .ref 3, .int 2] [.int 0] rfl ?_
            refine w_rz rfl rfl (by decide) ?_
            show (some (Value.int 0), _) = _
            have e : wdq tl ts p wL2 = false := by
              have hl : nI wL2.length = 3 := rfl
              unfold wdq
              rw [hl]
              simp [chk, Nat.add_assoc, c1, c2, c3, c4, c5]
            rw [e]; rfl
        · refine w_N 1 56 [.ref 95, .ref 3, .int 1] [.int 0] rfl ?_
          refine w_rz rfl rfl (by decide) ?_
          show (some (Value.int 0), _) = _
          have e : wdq tl ts p wL2 = false := by
            have hl : nI wL2.length = 3 := rfl
            unfold wdq
            rw [hl]
            simp [chk, Nat.add_assoc, c1, c2, c3, c4]
          rw [e]; rfl
      · refine w_N 1 56 [.ref 95, .ref 3, .int 0] [.int 0] rfl ?_
        refine w_rz rfl rfl (by decide) ?_
        show (some (Value.int 0), _) = _
        have e : wdq tl ts p wL2 = false := by
          have hl : nI wL2.length = 3 := rfl
          unfold wdq
          rw [hl]
          simp [chk, Nat.add_assoc, c1, c2, c3]
        rw [e]; rfl
    · refine w_N 1 25 [.ref 95, .ref 3, lm_jk] [.int 0] rfl ?_
      refine w_rz rfl rfl (by decide) ?_
      show (some (Value.int 0), _) = _
      have e : wdq tl ts p wL2 = false := by
        have hl : nI wL2.length = 3 := rfl
        unfold wdq
        rw [hl]
        simp [chk, Nat.add_assoc, c1, c2]
      rw [e]; rfl
theorem t_isWord3 {d : Nat} {hi : Nat → Nat → Int32} {hl : Nat → Nat → Int64} {X : lm_X} {ts p : Nat} {tl : Nat → Int32} (S : sh_A X) (Q : isTx hi X) (hts : ts ≤ 250) (hp : p ≤ ts) (HP : tpC tl ts hi p) : lm_c (d + 2) 41 [.ref 95, .ref 4] (hi, hl, X) (some (.int (bz (wdq tl ts p wL3))), (hi, hl, X)) := by
  refine lm_c_of (lm_w_in (Nat.le_of_ble_eq_true rfl) ?_)
  show lm_wp (d + 2) 41 0 [.ref 95, .ref 4, lm_jk] [] (hi, hl, X) _
  refine w_N 1 1 [.ref 95, .ref 4, lm_jk] [.ref 95] rfl ?_
  refine w_gi (v := tkS tl ts p) rfl rfl rfl (A_k S 95 (by decide)) (HP.2.2.2.2) ?_
  refine w_N 1 5 [.ref 95, .ref 4, lm_jk] [.int 1, .int (tkS tl ts p)] rfl ?_
  refine w_icmp_ne (t := 24) rfl rfl (fun c1 => ?_) (fun c1 => ?_)
  · refine w_N 1 25 [.ref 95, .ref 4, lm_jk] [.int 0] rfl ?_
    refine w_rz rfl rfl (by decide) ?_
    show (some (Value.int 0), _) = _
    have e : wdq tl ts p wL3 = false := by
      have hl : nI wL3.length = 4 := rfl
      unfold wdq
      rw [hl]
      simp [chk, Nat.add_assoc, c1]
    rw [e]; rfl
  · refine w_N 1 9 [.ref 95, .ref 4, lm_jk] [.ref 95] rfl ?_
    refine w_gi (v := nI (tkE tl ts p)) rfl rfl rfl (A_k S 95 (by decide)) (HP.2.2.2.1) ?_
    refine w_N 1 13 [.ref 95, .ref 4, lm_jk] [.ref 95, .int (nI (tkE tl ts p))] rfl ?_
    refine w_gi (v := nI (tkF tl ts p)) rfl rfl rfl (A_k S 95 (by decide)) (HP.2.2.1) ?_
    refine w_N 2 18 [.ref 95, .ref 4, lm_jk] [.ref 4, .int ((nI (tkE tl ts p)) - (nI (tkF tl ts p)))] rfl ?_
    refine w_cc (w_vst rfl rfl rfl (Nat.le_of_ble_eq_true rfl) (Nat.le_of_ble_eq_true rfl) (tx_kd (i := 3) Q (by decide))) (tx_len (i := 3) (L := 4) Q (by decide) rfl) ?_
    show lm_wp _ 41 21 [.ref 95, .ref 4, lm_jk] [.int 4, .int ((nI (tkE tl ts p)) - (nI (tkF tl ts p)))] (hi, hl, X) _
    refine w_icmp_eq (t := 26) rfl rfl (fun c2 => ?_) (fun c2 => ?_)
    · have hE := len_e (L := 4) hts hp (by decide) c2
      have hb := tk_b (tl := tl) hp
      refine w_N 4 30 [.ref 95, .ref 4, .int 0] [.ref 4, .int 0] rfl ?_
      refine w_cc (w_vst rfl rfl rfl (Nat.le_of_ble_eq_true rfl) (Nat.le_of_ble_eq_true rfl) (tx_kd (i := 3) Q (by decide))) (tx_len (i := 3) (L := 4) Q (by decide) rfl) ?_
      show lm_wp _ 41 33 [.ref 95, .ref 4, .int 0] [.int 4, .int 0] (hi, hl, X) _
      refine w_icmp_ge_f (t := 63) rfl rfl (by decide) ?_
      refine w_N 1 37 [.ref 95, .ref 4, .int 0] [.ref 95] rfl ?_
      refine w_gr 96 rfl rfl rfl (A_k S 95 (by decide)) (A_r S 95 0 (by decide)) ?_
      refine w_N 1 41 [.ref 95, .ref 4, .int 0] [.ref 95, .ref 96] rfl ?_
      refine w_gi (v := nI (tkF tl ts p)) rfl rfl rfl (A_k S 95 (by decide)) (HP.2.2.1) ?_
      refine w_N 2 46 [.ref 95, .ref 4, .int 0] [.int ((nI (tkF tl ts p)) + 0), .ref 96] rfl ?_
      refine w_ia (tkF tl ts p) (v := tl (tkF tl ts p)) rfl (A_k S 96 (by decide)) (show X.2.2.1 96 = 250 from A_l S 96 (by decide)) (Int32.add_zero _) (by omega) (by decide) (HP.2.1 (tkF tl ts p) (by omega)) ?_
      refine w_N 2 49 [.ref 95, .ref 4, .int 0] [.int 0, .ref 4, .int (tl (tkF tl ts p))] rfl ?_
      refine w_cc (w_vst rfl rfl rfl (Nat.le_of_ble_eq_true rfl) (Nat.le_of_ble_eq_true rfl) (tx_kd (i := 3) Q (by decide))) (tx_char (i := 3) (k := 0) (c := 109) Q (by decide) (by decide) rfl) ?_
      show lm_wp _ 41 52 [.ref 95, .ref 4, .int 0] [.int 109, .int (tl (tkF tl ts p))] (hi, hl, X) _
      refine w_icmp_eq (t := 57) rfl rfl (fun c3 => ?_) (fun c3 => ?_)
      · refine w_N 4 30 [.ref 95, .ref 4, .int 1] [.ref 4, .int 1] rfl ?_
        refine w_cc (w_vst rfl rfl rfl (Nat.le_of_ble_eq_true rfl) (Nat.le_of_ble_eq_true rfl) (tx_kd (i := 3) Q (by decide))) (tx_len (i := 3) (L := 4) Q (by decide) rfl) ?_
        show lm_wp _ 41 33 [.ref 95, .ref 4, .int 1] [.int 4, .int 1] (hi, hl, X) _
        refine w_icmp_ge_f (t := 63) rfl rfl (by decide) ?_
        refine w_N 1 37 [.ref 95, .ref 4, .int 1] [.ref 95] rfl ?_
        refine w_gr 96 rfl rfl rfl (A_k S 95 (by decide)) (A_r S 95 0 (by decide)) ?_
        refine w_N 1 41 [.ref 95, .ref 4, .int 1] [.ref 95, .ref 96] rfl ?_
        refine w_gi (v := nI (tkF tl ts p)) rfl rfl rfl (A_k S 95 (by decide)) (HP.2.2.1) ?_
        refine w_N 2 46 [.ref 95, .ref 4, .int 1] [.int ((nI (tkF tl ts p)) + 1), .ref 96] rfl ?_
        refine w_ia (tkF tl ts p + 1) (v := tl (tkF tl ts p + 1)) rfl (A_k S 96 (by decide)) (show X.2.2.1 96 = 250 from A_l S 96 (by decide)) (nI_add' _ 1) (by omega) (by decide) (HP.2.1 (tkF tl ts p + 1) (by omega)) ?_
        refine w_N 2 49 [.ref 95, .ref 4, .int 1] [.int 1, .ref 4, .int (tl (tkF tl ts p + 1))] rfl ?_
        refine w_cc (w_vst rfl rfl rfl (Nat.le_of_ble_eq_true rfl) (Nat.le_of_ble_eq_true rfl) (tx_kd (i := 3) Q (by decide))) (tx_char (i := 3) (k := 1) (c := 97) Q (by decide) (by decide) rfl) ?_
        show lm_wp _ 41 52 [.ref 95, .ref 4, .int 1] [.int 97, .int (tl (tkF tl ts p + 1))] (hi, hl, X) _
        refine w_icmp_eq (t := 57) rfl rfl (fun c4 => ?_) (fun c4 => ?_)
        · refine w_N 4 30 [.ref 95, .ref 4, .int 2] [.ref 4, .int 2] rfl ?_
          refine w_cc (w_vst rfl rfl rfl (Nat.le_of_ble_eq_true rfl) (Nat.le_of_ble_eq_true rfl) (tx_kd (i := 3) Q (by decide))) (tx_len (i := 3) (L := 4) Q (by decide) rfl) ?_
          show lm_wp _ 41 33 [.ref 95, .ref 4, .int 2] [.int 4, .int 2] (hi, hl, X) _
          refine w_icmp_ge_f (t := 63) rfl rfl (by decide) ?_
          refine w_N 1 37 [.ref 95, .ref 4, .int 2] [.ref 95] rfl ?_
          refine w_gr 96 rfl rfl rfl (A_k S 95 (by decide)) (A_r S 95 0 (by decide)) ?_
          refine w_N 1 41 [.ref 95, .ref 4, .int 2] [.ref 95, .ref 96] rfl ?_
          refine w_gi (v := nI (tkF tl ts p)) rfl rfl rfl (A_k S 95 (by decide)) (HP.2.2.1) ?_
          refine w_N 2 46 [.ref 95, .ref 4, .int 2] [.int ((nI (tkF tl ts p)) + 2), .ref 96] rfl ?_
          refine w_ia (tkF tl ts p + 2) (v := tl (tkF tl ts p + 2)) rfl (A_k S 96 (by decide)) (show X.2.2.1 96 = 250 from A_l S 96 (by decide)) (nI_add' _ 2) (by omega) (by decide) (HP.2.1 (tkF tl ts p + 2) (by omega)) ?_
          refine w_N 2 49 [.ref 95, .ref 4, .int 2] [.int 2, .ref 4, .int (tl (tkF tl ts p + 2))] rfl ?_
          refine w_cc (w_vst rfl rfl rfl (Nat.le_of_ble_eq_true rfl) (Nat.le_of_ble_eq_true rfl) (tx_kd (i := 3) Q (by decide))) (tx_char (i := 3) (k := 2) (c := 114) Q (by decide) (by decide) rfl) ?_
          show lm_wp _ 41 52 [.ref 95, .ref 4, .int 2] [.int 114, .int (tl (tkF tl ts p + 2))] (hi, hl, X) _
          refine w_icmp_eq (t := 57) rfl rfl (fun c5 => ?_) (fun c5 => ?_)
          · refine w_N 4 30 [.ref 95, .ref 4, .int 3] [.ref 4, .int 3] rfl ?_
            refine w_cc (w_vst rfl rfl rfl (Nat.le_of_ble_eq_true rfl) (Nat.le_of_ble_eq_true rfl) (tx_kd (i := 3) Q (by decide))) (tx_len (i := 3) (L := 4) Q (by decide) rfl) ?_
            show lm_wp _ 41 33 [.ref 95, .ref 4, .int 3] [.int 4, .int 3] (hi, hl, X) _
            refine w_icmp_ge_f (t := 63) rfl rfl (by decide) ?_
            refine w_N 1 37 [.ref 95, .ref 4, .int 3] [.ref 95] rfl ?_
            refine w_gr 96 rfl rfl rfl (A_k S 95 (by decide)) (A_r S 95 0 (by decide)) ?_
            refine w_N 1 41 [.ref 95, .ref 4, .int 3] [.ref 95, .ref 96] rfl ?_
            refine w_gi (v := nI (tkF tl ts p)) rfl rfl rfl (A_k S 95 (by decide)) (HP.2.2.1) ?_
            refine w_N 2 46 [.ref 95, .ref 4, .int 3] [.int ((nI (tkF tl ts p)) + 3), .ref 96] rfl ?_
            refine w_ia (tkF tl ts p + 3) (v := tl (tkF tl ts p + 3)) rfl (A_k S 96 (by decide)) (show X.2.2.1 96 = 250 from A_l S 96 (by decide)) (nI_add' _ 3) (by omega) (by decide) (HP.2.1 (tkF tl ts p + 3) (by omega)) ?_
            refine w_N 2 49 [.ref 95, .ref 4, .int 3] [.int 3, .ref 4, .int (tl (tkF tl ts p + 3))] rfl ?_
            refine w_cc (w_vst rfl rfl rfl (Nat.le_of_ble_eq_true rfl) (Nat.le_of_ble_eq_true rfl) (tx_kd (i := 3) Q (by decide))) (tx_char (i := 3) (k := 3) (c := 107) Q (by decide) (by decide) rfl) ?_
            show lm_wp _ 41 52 [.ref 95, .ref 4, .int 3] [.int 107, .int (tl (tkF tl ts p + 3))] (hi, hl, X) _
            refine w_icmp_eq (t := 57) rfl rfl (fun c6 => ?_) (fun c6 => ?_)
            · refine w_N 4 30 [.ref 95, .ref 4, .int 4] [.ref 4, .int 4] rfl ?_
              refine w_cc (w_vst rfl rfl rfl (Nat.le_of_ble_eq_true rfl) (Nat.le_of_ble_eq_true rfl) (tx_kd (i := 3) Q (by decide))) (tx_len (i := 3) (L := 4) Q (by decide) rfl) ?_
              show lm_wp _ 41 33 [.ref 95, .ref 4, .int 4] [.int 4, .int 4] (hi, hl, X) _
              refine w_icmp_ge_t (t := 63) rfl rfl (by decide) ?_
              refine w_N 1 64 [.ref 95, .ref 4, .int 4] [.int 1] rfl ?_
              refine w_rz rfl rfl (by decide) ?_
              show (some (Value.int 1), _) = _
              have e : wdq tl ts p wL3 = true := by
                have hl : nI wL3.length = 4 := rfl
                unfold wdq
                rw [hl]
                simp [chk, Nat.add_assoc, c1, c2, c3, c4, c5, c6]
              rw [e]; rfl
            · refine w_N 1 56 [.ref 95, .ref 4, .int 3] [.int 0] rfl ?_
              refine w_rz rfl rfl (by decide) ?_
              show (some (Value.int 0), _) = _
              have e : wdq tl ts p wL3 = false := by
                have hl : nI wL3.length = 4 := rfl
                unfold wdq
                rw [hl]
                simp [chk, Nat.add_assoc, c1, c2, c3, c4, c5, c6]
              rw [e]; rfl
          · refine w_N 1 56 [.ref 95, .ref 4, .int 2] [.int 0] rfl ?_
            refine w_rz rfl rfl (by decide) ?_
            show (some (Value.int 0), _) = _
            have e : wdq tl ts p wL3 = false := by
              have hl : nI wL3.length = 4 := rfl
              unfold wdq
              rw [hl]
              simp [chk, Nat.add_assoc, c1, c2, c3, c4, c5]
            rw [e]; rfl
        · refine w_N 1 56 [.ref 95, .ref 4, .int 1] [.int 0] rfl ?_
          refine w_rz rfl rfl (by decide) ?_
          show (some (Value.int 0), _) = _
          have e : wdq tl ts p wL3 = false := by
            have hl : nI wL3.length = 4 := rfl
            unfold wdq
            rw [hl]
            simp [chk, Nat.add_assoc, c1, c2, c3, c4]
          rw [e]; rfl
      · refine w_N 1 56 [.ref 95, .ref 4, .int 0] [.int 0] rfl ?_
        refine w_rz rfl rfl (by decide) ?_
        show (some (Value.int 0), _) = _
        have e : wdq tl ts p wL3 = false := by
          have hl : nI wL3.length = 4 := rfl
          unfold wdq
          rw [hl]
          simp [chk, Nat.add_assoc, c1, c2, c3]
        rw [e]; rfl
    · refine w_N 1 25 [.ref 95, .ref 4, lm_jk] [.int 0] rfl ?_
      refine w_rz rfl rfl (by decide) ?_
      show (some (Value.int 0), _) = _
      have e : wdq tl ts p wL3 = false := by
        have hl : nI wL3.length = 4 := rfl
        unfold wdq
        rw [hl]
        simp [chk, Nat.add_assoc, c1, c2]
      rw [e]; rfl
theorem t_isWord4 {d : Nat} {hi : Nat → Nat → Int32} {hl : Nat → Nat → Int64} {X : lm_X} {ts p : Nat} {tl : Nat → Int32} (S : sh_A X) (Q : isTx hi X) (hts : ts ≤ 250) (hp : p ≤ ts) (HP : tpC tl ts hi p) : lm_c (d + 2) 41 [.ref 95, .ref 5] (hi, hl, X) (some (.int (bz (wdq tl ts p wL4))), (hi, hl, X)) := by
  refine lm_c_of (lm_w_in (Nat.le_of_ble_eq_true rfl) ?_)
  show lm_wp (d + 2) 41 0 [.ref 95, .ref 5, lm_jk] [] (hi, hl, X) _
  refine w_N 1 1 [.ref 95, .ref 5, lm_jk] [.ref 95] rfl ?_
  refine w_gi (v := tkS tl ts p) rfl rfl rfl (A_k S 95 (by decide)) (HP.2.2.2.2) ?_
  refine w_N 1 5 [.ref 95, .ref 5, lm_jk] [.int 1, .int (tkS tl ts p)] rfl ?_
  refine w_icmp_ne (t := 24) rfl rfl (fun c1 => ?_) (fun c1 => ?_)
  · refine w_N 1 25 [.ref 95, .ref 5, lm_jk] [.int 0] rfl ?_
    refine w_rz rfl rfl (by decide) ?_
    show (some (Value.int 0), _) = _
    have e : wdq tl ts p wL4 = false := by
      have hl : nI wL4.length = 5 := rfl
      unfold wdq
      rw [hl]
      simp [chk, Nat.add_assoc, c1]
    rw [e]; rfl
  · refine w_N 1 9 [.ref 95, .ref 5, lm_jk] [.ref 95] rfl ?_
    refine w_gi (v := nI (tkE tl ts p)) rfl rfl rfl (A_k S 95 (by decide)) (HP.2.2.2.1) ?_
    refine w_N 1 13 [.ref 95, .ref 5, lm_jk] [.ref 95, .int (nI (tkE tl ts p))] rfl ?_
    refine w_gi (v := nI (tkF tl ts p)) rfl rfl rfl (A_k S 95 (by decide)) (HP.2.2.1) ?_
    refine w_N 2 18 [.ref 95, .ref 5, lm_jk] [.ref 5, .int ((nI (tkE tl ts p)) - (nI (tkF tl ts p)))] rfl ?_
    refine w_cc (w_vst rfl rfl rfl (Nat.le_of_ble_eq_true rfl) (Nat.le_of_ble_eq_true rfl) (tx_kd (i := 4) Q (by decide))) (tx_len (i := 4) (L := 5) Q (by decide) rfl) ?_
    show lm_wp _ 41 21 [.ref 95, .ref 5, lm_jk] [.int 5, .int ((nI (tkE tl ts p)) - (nI (tkF tl ts p)))] (hi, hl, X) _
    refine w_icmp_eq (t := 26) rfl rfl (fun c2 => ?_) (fun c2 => ?_)
    · have hE := len_e (L := 5) hts hp (by decide) c2
      have hb := tk_b (tl := tl) hp
      refine w_N 4 30 [.ref 95, .ref 5, .int 0] [.ref 5, .int 0] rfl ?_
      refine w_cc (w_vst rfl rfl rfl (Nat.le_of_ble_eq_true rfl) (Nat.le_of_ble_eq_true rfl) (tx_kd (i := 4) Q (by decide))) (tx_len (i := 4) (L := 5) Q (by decide) rfl) ?_
      show lm_wp _ 41 33 [.ref 95, .ref 5, .int 0] [.int 5, .int 0] (hi, hl, X) _
      refine w_icmp_ge_f (t := 63) rfl rfl (by decide) ?_
      refine w_N 1 37 [.ref 95, .ref 5, .int 0] [.ref 95] rfl ?_
      refine w_gr 96 rfl rfl rfl (A_k S 95 (by decide)) (A_r S 95 0 (by decide)) ?_
      refine w_N 1 41 [.ref 95, .ref 5, .int 0] [.ref 95, .ref 96] rfl ?_
      refine w_gi (v := nI (tkF tl ts p)) rfl rfl rfl (A_k S 95 (by decide)) (HP.2.2.1) ?_
      refine w_N 2 46 [.ref 95, .ref 5, .int 0] [.int ((nI (tkF tl ts p)) + 0), .ref 96] rfl ?_
      refine w_ia (tkF tl ts p) (v := tl (tkF tl ts p)) rfl (A_k S 96 (by decide)) (show X.2.2.1 96 = 250 from A_l S 96 (by decide)) (Int32.add_zero _) (by omega) (by decide) (HP.2.1 (tkF tl ts p) (by omega)) ?_
      refine w_N 2 49 [.ref 95, .ref 5, .int 0] [.int 0, .ref 5, .int (tl (tkF tl ts p))] rfl ?_
      refine w_cc (w_vst rfl rfl rfl (Nat.le_of_ble_eq_true rfl) (Nat.le_of_ble_eq_true rfl) (tx_kd (i := 4) Q (by decide))) (tx_char (i := 4) (k := 0) (c := 99) Q (by decide) (by decide) rfl) ?_
      show lm_wp _ 41 52 [.ref 95, .ref 5, .int 0] [.int 99, .int (tl (tkF tl ts p))] (hi, hl, X) _
      refine w_icmp_eq (t := 57) rfl rfl (fun c3 => ?_) (fun c3 => ?_)
      · refine w_N 4 30 [.ref 95, .ref 5, .int 1] [.ref 5, .int 1] rfl ?_
        refine w_cc (w_vst rfl rfl rfl (Nat.le_of_ble_eq_true rfl) (Nat.le_of_ble_eq_true rfl) (tx_kd (i := 4) Q (by decide))) (tx_len (i := 4) (L := 5) Q (by decide) rfl) ?_
        show lm_wp _ 41 33 [.ref 95, .ref 5, .int 1] [.int 5, .int 1] (hi, hl, X) _
        refine w_icmp_ge_f (t := 63) rfl rfl (by decide) ?_
        refine w_N 1 37 [.ref 95, .ref 5, .int 1] [.ref 95] rfl ?_
        refine w_gr 96 rfl rfl rfl (A_k S 95 (by decide)) (A_r S 95 0 (by decide)) ?_
        refine w_N 1 41 [.ref 95, .ref 5, .int 1] [.ref 95, .ref 96] rfl ?_
        refine w_gi (v := nI (tkF tl ts p)) rfl rfl rfl (A_k S 95 (by decide)) (HP.2.2.1) ?_
        refine w_N 2 46 [.ref 95, .ref 5, .int 1] [.int ((nI (tkF tl ts p)) + 1), .ref 96] rfl ?_
        refine w_ia (tkF tl ts p + 1) (v := tl (tkF tl ts p + 1)) rfl (A_k S 96 (by decide)) (show X.2.2.1 96 = 250 from A_l S 96 (by decide)) (nI_add' _ 1) (by omega) (by decide) (HP.2.1 (tkF tl ts p + 1) (by omega)) ?_
        refine w_N 2 49 [.ref 95, .ref 5, .int 1] [.int 1, .ref 5, .int (tl (tkF tl ts p + 1))] rfl ?_
        refine w_cc (w_vst rfl rfl rfl (Nat.le_of_ble_eq_true rfl) (Nat.le_of_ble_eq_true rfl) (tx_kd (i := 4) Q (by decide))) (tx_char (i := 4) (k := 1) (c := 111) Q (by decide) (by decide) rfl) ?_
        show lm_wp _ 41 52 [.ref 95, .ref 5, .int 1] [.int 111, .int (tl (tkF tl ts p + 1))] (hi, hl, X) _
        refine w_icmp_eq (t := 57) rfl rfl (fun c4 => ?_) (fun c4 => ?_)
        · refine w_N 4 30 [.ref 95, .ref 5, .int 2] [.ref 5, .int 2] rfl ?_
          refine w_cc (w_vst rfl rfl rfl (Nat.le_of_ble_eq_true rfl) (Nat.le_of_ble_eq_true rfl) (tx_kd (i := 4) Q (by decide))) (tx_len (i := 4) (L := 5) Q (by decide) rfl) ?_
          show lm_wp _ 41 33 [.ref 95, .ref 5, .int 2] [.int 5, .int 2] (hi, hl, X) _
          refine w_icmp_ge_f (t := 63) rfl rfl (by decide) ?_
          refine w_N 1 37 [.ref 95, .ref 5, .int 2] [.ref 95] rfl ?_
          refine w_gr 96 rfl rfl rfl (A_k S 95 (by decide)) (A_r S 95 0 (by decide)) ?_
          refine w_N 1 41 [.ref 95, .ref 5, .int 2] [.ref 95, .ref 96] rfl ?_
          refine w_gi (v := nI (tkF tl ts p)) rfl rfl rfl (A_k S 95 (by decide)) (HP.2.2.1) ?_
          refine w_N 2 46 [.ref 95, .ref 5, .int 2] [.int ((nI (tkF tl ts p)) + 2), .ref 96] rfl ?_
          refine w_ia (tkF tl ts p + 2) (v := tl (tkF tl ts p + 2)) rfl (A_k S 96 (by decide)) (show X.2.2.1 96 = 250 from A_l S 96 (by decide)) (nI_add' _ 2) (by omega) (by decide) (HP.2.1 (tkF tl ts p + 2) (by omega)) ?_
          refine w_N 2 49 [.ref 95, .ref 5, .int 2] [.int 2, .ref 5, .int (tl (tkF tl ts p + 2))] rfl ?_
          refine w_cc (w_vst rfl rfl rfl (Nat.le_of_ble_eq_true rfl) (Nat.le_of_ble_eq_true rfl) (tx_kd (i := 4) Q (by decide))) (tx_char (i := 4) (k := 2) (c := 117) Q (by decide) (by decide) rfl) ?_
          show lm_wp _ 41 52 [.ref 95, .ref 5, .int 2] [.int 117, .int (tl (tkF tl ts p + 2))] (hi, hl, X) _
          refine w_icmp_eq (t := 57) rfl rfl (fun c5 => ?_) (fun c5 => ?_)
          · refine w_N 4 30 [.ref 95, .ref 5, .int 3] [.ref 5, .int 3] rfl ?_
            refine w_cc (w_vst rfl rfl rfl (Nat.le_of_ble_eq_true rfl) (Nat.le_of_ble_eq_true rfl) (tx_kd (i := 4) Q (by decide))) (tx_len (i := 4) (L := 5) Q (by decide) rfl) ?_
            show lm_wp _ 41 33 [.ref 95, .ref 5, .int 3] [.int 5, .int 3] (hi, hl, X) _
            refine w_icmp_ge_f (t := 63) rfl rfl (by decide) ?_
            refine w_N 1 37 [.ref 95, .ref 5, .int 3] [.ref 95] rfl ?_
            refine w_gr 96 rfl rfl rfl (A_k S 95 (by decide)) (A_r S 95 0 (by decide)) ?_
            refine w_N 1 41 [.ref 95, .ref 5, .int 3] [.ref 95, .ref 96] rfl ?_
            refine w_gi (v := nI (tkF tl ts p)) rfl rfl rfl (A_k S 95 (by decide)) (HP.2.2.1) ?_
            refine w_N 2 46 [.ref 95, .ref 5, .int 3] [.int ((nI (tkF tl ts p)) + 3), .ref 96] rfl ?_
            refine w_ia (tkF tl ts p + 3) (v := tl (tkF tl ts p + 3)) rfl (A_k S 96 (by decide)) (show X.2.2.1 96 = 250 from A_l S 96 (by decide)) (nI_add' _ 3) (by omega) (by decide) (HP.2.1 (tkF tl ts p + 3) (by omega)) ?_
            refine w_N 2 49 [.ref 95, .ref 5, .int 3] [.int 3, .ref 5, .int (tl (tkF tl ts p + 3))] rfl ?_
            refine w_cc (w_vst rfl rfl rfl (Nat.le_of_ble_eq_true rfl) (Nat.le_of_ble_eq_true rfl) (tx_kd (i := 4) Q (by decide))) (tx_char (i := 4) (k := 3) (c := 110) Q (by decide) (by decide) rfl) ?_
            show lm_wp _ 41 52 [.ref 95, .ref 5, .int 3] [.int 110, .int (tl (tkF tl ts p + 3))] (hi, hl, X) _
            refine w_icmp_eq (t := 57) rfl rfl (fun c6 => ?_) (fun c6 => ?_)
            · refine w_N 4 30 [.ref 95, .ref 5, .int 4] [.ref 5, .int 4] rfl ?_
              refine w_cc (w_vst rfl rfl rfl (Nat.le_of_ble_eq_true rfl) (Nat.le_of_ble_eq_true rfl) (tx_kd (i := 4) Q (by decide))) (tx_len (i := 4) (L := 5) Q (by decide) rfl) ?_
              show lm_wp _ 41 33 [.ref 95, .ref 5, .int 4] [.int 5, .int 4] (hi, hl, X) _
              refine w_icmp_ge_f (t := 63) rfl rfl (by decide) ?_
              refine w_N 1 37 [.ref 95, .ref 5, .int 4] [.ref 95] rfl ?_
              refine w_gr 96 rfl rfl rfl (A_k S 95 (by decide)) (A_r S 95 0 (by decide)) ?_
              refine w_N 1 41 [.ref 95, .ref 5, .int 4] [.ref 95, .ref 96] rfl ?_
              refine w_gi (v := nI (tkF tl ts p)) rfl rfl rfl (A_k S 95 (by decide)) (HP.2.2.1) ?_
              refine w_N 2 46 [.ref 95, .ref 5, .int 4] [.int ((nI (tkF tl ts p)) + 4), .ref 96] rfl ?_
              refine w_ia (tkF tl ts p + 4) (v := tl (tkF tl ts p + 4)) rfl (A_k S 96 (by decide)) (show X.2.2.1 96 = 250 from A_l S 96 (by decide)) (nI_add' _ 4) (by omega) (by decide) (HP.2.1 (tkF tl ts p + 4) (by omega)) ?_
              refine w_N 2 49 [.ref 95, .ref 5, .int 4] [.int 4, .ref 5, .int (tl (tkF tl ts p + 4))] rfl ?_
              refine w_cc (w_vst rfl rfl rfl (Nat.le_of_ble_eq_true rfl) (Nat.le_of_ble_eq_true rfl) (tx_kd (i := 4) Q (by decide))) (tx_char (i := 4) (k := 4) (c := 116) Q (by decide) (by decide) rfl) ?_
              show lm_wp _ 41 52 [.ref 95, .ref 5, .int 4] [.int 116, .int (tl (tkF tl ts p + 4))] (hi, hl, X) _
              refine w_icmp_eq (t := 57) rfl rfl (fun c7 => ?_) (fun c7 => ?_)
              · refine w_N 4 30 [.ref 95, .ref 5, .int 5] [.ref 5, .int 5] rfl ?_
                refine w_cc (w_vst rfl rfl rfl (Nat.le_of_ble_eq_true rfl) (Nat.le_of_ble_eq_true rfl) (tx_kd (i := 4) Q (by decide))) (tx_len (i := 4) (L := 5) Q (by decide) rfl) ?_
                show lm_wp _ 41 33 [.ref 95, .ref 5, .int 5] [.int 5, .int 5] (hi, hl, X) _
                refine w_icmp_ge_t (t := 63) rfl rfl (by decide) ?_
                refine w_N 1 64 [.ref 95, .ref 5, .int 5] [.int 1] rfl ?_
                refine w_rz rfl rfl (by decide) ?_
                show (some (Value.int 1), _) = _
                have e : wdq tl ts p wL4 = true := by
                  have hl : nI wL4.length = 5 := rfl
                  unfold wdq
                  rw [hl]
                  simp [chk, Nat.add_assoc, c1, c2, c3, c4, c5, c6, c7]
                rw [e]; rfl
              · refine w_N 1 56 [.ref 95, .ref 5, .int 4] [.int 0] rfl ?_
                refine w_rz rfl rfl (by decide) ?_
                show (some (Value.int 0), _) = _
                have e : wdq tl ts p wL4 = false := by
                  have hl : nI wL4.length = 5 := rfl
                  unfold wdq
                  rw [hl]
                  simp [chk, Nat.add_assoc, c1, c2, c3, c4, c5, c6, c7]
                rw [e]; rfl
            · refine w_N 1 56 [.ref 95, .ref 5, .int 3] [.int 0] rfl ?_
              refine w_rz rfl rfl (by decide) ?_
              show (some (Value.int 0), _) = _
              have e : wdq tl ts p wL4 = false := by
                have hl : nI wL4.length = 5 := rfl
                unfold wdq
                rw [hl]
                simp [chk, Nat.add_assoc, c1, c2, c3, c4, c5, c6]
              rw [e]; rfl
          · refine w_N 1 56 [.ref 95, .ref 5, .int 2] [.int 0] rfl ?_
            refine w_rz rfl rfl (by decide) ?_
            show (some (Value.int 0), _) = _
            have e : wdq tl ts p wL4 = false := by
              have hl : nI wL4.length = 5 := rfl
              unfold wdq
              rw [hl]
              simp [chk, Nat.add_assoc, c1, c2, c3, c4, c5]
            rw [e]; rfl
        · refine w_N 1 56 [.ref 95, .ref 5, .int 1] [.int 0] rfl ?_
          refine w_rz rfl rfl (by decide) ?_
          show (some (Value.int 0), _) = _
          have e : wdq tl ts p wL4 = false := by
            have hl : nI wL4.length = 5 := rfl
            unfold wdq
            rw [hl]
            simp [chk, Nat.add_assoc, c1, c2, c3, c4]
          rw [e]; rfl
      · refine w_N 1 56 [.ref 95, .ref 5, .int 0] [.int 0] rfl ?_
        refine w_rz rfl rfl (by decide) ?_
        show (some (Value.int 0), _) = _
        have e : wdq tl ts p wL4 = false := by
          have hl : nI wL4.length = 5 := rfl
          unfold wdq
          rw [hl]
          simp [chk, Nat.add_assoc, c1, c2, c3]
        rw [e]; rfl
    · refine w_N 1 25 [.ref 95, .ref 5, lm_jk] [.int 0] rfl ?_
      refine w_rz rfl rfl (by decide) ?_
      show (some (Value.int 0), _) = _
      have e : wdq tl ts p wL4 = false := by
        have hl : nI wL4.length = 5 := rfl
        unfold wdq
        rw [hl]
        simp [chk, Nat.add_assoc, c1, c2]
      rw [e]; rfl
theorem t_isWord5 {d : Nat} {hi : Nat → Nat → Int32} {hl : Nat → Nat → Int64} {X : lm_X} {ts p : Nat} {tl : Nat → Int32} (S : sh_A X) (Q : isTx hi X) (hts : ts ≤ 250) (hp : p ≤ ts) (HP : tpC tl ts hi p) : lm_c (d + 2) 41 [.ref 95, .ref 6] (hi, hl, X) (some (.int (bz (wdq tl ts p wL5))), (hi, hl, X)) := by
  refine lm_c_of (lm_w_in (Nat.le_of_ble_eq_true rfl) ?_)
  show lm_wp (d + 2) 41 0 [.ref 95, .ref 6, lm_jk] [] (hi, hl, X) _
  refine w_N 1 1 [.ref 95, .ref 6, lm_jk] [.ref 95] rfl ?_
  refine w_gi (v := tkS tl ts p) rfl rfl rfl (A_k S 95 (by decide)) (HP.2.2.2.2) ?_
  refine w_N 1 5 [.ref 95, .ref 6, lm_jk] [.int 1, .int (tkS tl ts p)] rfl ?_
  refine w_icmp_ne (t := 24) rfl rfl (fun c1 => ?_) (fun c1 => ?_)
  · refine w_N 1 25 [.ref 95, .ref 6, lm_jk] [.int 0] rfl ?_
    refine w_rz rfl rfl (by decide) ?_
    show (some (Value.int 0), _) = _
    have e : wdq tl ts p wL5 = false := by
      have hl : nI wL5.length = 5 := rfl
      unfold wdq
      rw [hl]
      simp [chk, Nat.add_assoc, c1]
    rw [e]; rfl
  · refine w_N 1 9 [.ref 95, .ref 6, lm_jk] [.ref 95] rfl ?_
    refine w_gi (v := nI (tkE tl ts p)) rfl rfl rfl (A_k S 95 (by decide)) (HP.2.2.2.1) ?_
    refine w_N 1 13 [.ref 95, .ref 6, lm_jk] [.ref 95, .int (nI (tkE tl ts p))] rfl ?_
    refine w_gi (v := nI (tkF tl ts p)) rfl rfl rfl (A_k S 95 (by decide)) (HP.2.2.1) ?_
    refine w_N 2 18 [.ref 95, .ref 6, lm_jk] [.ref 6, .int ((nI (tkE tl ts p)) - (nI (tkF tl ts p)))] rfl ?_
    refine w_cc (w_vst rfl rfl rfl (Nat.le_of_ble_eq_true rfl) (Nat.le_of_ble_eq_true rfl) (tx_kd (i := 5) Q (by decide))) (tx_len (i := 5) (L := 5) Q (by decide) rfl) ?_
    show lm_wp _ 41 21 [.ref 95, .ref 6, lm_jk] [.int 5, .int ((nI (tkE tl ts p)) - (nI (tkF tl ts p)))] (hi, hl, X) _
    refine w_icmp_eq (t := 26) rfl rfl (fun c2 => ?_) (fun c2 => ?_)
    · have hE := len_e (L := 5) hts hp (by decide) c2
      have hb := tk_b (tl := tl) hp
      refine w_N 4 30 [.ref 95, .ref 6, .int 0] [.ref 6, .int 0] rfl ?_
      refine w_cc (w_vst rfl rfl rfl (Nat.le_of_ble_eq_true rfl) (Nat.le_of_ble_eq_true rfl) (tx_kd (i := 5) Q (by decide))) (tx_len (i := 5) (L := 5) Q (by decide) rfl) ?_
      show lm_wp _ 41 33 [.ref 95, .ref 6, .int 0] [.int 5, .int 0] (hi, hl, X) _
      refine w_icmp_ge_f (t := 63) rfl rfl (by decide) ?_
      refine w_N 1 37 [.ref 95, .ref 6, .int 0] [.ref 95] rfl ?_
      refine w_gr 96 rfl rfl rfl (A_k S 95 (by decide)) (A_r S 95 0 (by decide)) ?_
      refine w_N 1 41 [.ref 95, .ref 6, .int 0] [.ref 95, .ref 96] rfl ?_
      refine w_gi (v := nI (tkF tl ts p)) rfl rfl rfl (A_k S 95 (by decide)) (HP.2.2.1) ?_
      refine w_N 2 46 [.ref 95, .ref 6, .int 0] [.int ((nI (tkF tl ts p)) + 0), .ref 96] rfl ?_
      refine w_ia (tkF tl ts p) (v := tl (tkF tl ts p)) rfl (A_k S 96 (by decide)) (show X.2.2.1 96 = 250 from A_l S 96 (by decide)) (Int32.add_zero _) (by omega) (by decide) (HP.2.1 (tkF tl ts p) (by omega)) ?_
      refine w_N 2 49 [.ref 95, .ref 6, .int 0] [.int 0, .ref 6, .int (tl (tkF tl ts p))] rfl ?_
      refine w_cc (w_vst rfl rfl rfl (Nat.le_of_ble_eq_true rfl) (Nat.le_of_ble_eq_true rfl) (tx_kd (i := 5) Q (by decide))) (tx_char (i := 5) (k := 0) (c := 108) Q (by decide) (by decide) rfl) ?_
      show lm_wp _ 41 52 [.ref 95, .ref 6, .int 0] [.int 108, .int (tl (tkF tl ts p))] (hi, hl, X) _
      refine w_icmp_eq (t := 57) rfl rfl (fun c3 => ?_) (fun c3 => ?_)
      · refine w_N 4 30 [.ref 95, .ref 6, .int 1] [.ref 6, .int 1] rfl ?_
        refine w_cc (w_vst rfl rfl rfl (Nat.le_of_ble_eq_true rfl) (Nat.le_of_ble_eq_true rfl) (tx_kd (i := 5) Q (by decide))) (tx_len (i := 5) (L := 5) Q (by decide) rfl) ?_
        show lm_wp _ 41 33 [.ref 95, .ref 6, .int 1] [.int 5, .int 1] (hi, hl, X) _
        refine w_icmp_ge_f (t := 63) rfl rfl (by decide) ?_
        refine w_N 1 37 [.ref 95, .ref 6, .int 1] [.ref 95] rfl ?_
        refine w_gr 96 rfl rfl rfl (A_k S 95 (by decide)) (A_r S 95 0 (by decide)) ?_
        refine w_N 1 41 [.ref 95, .ref 6, .int 1] [.ref 95, .ref 96] rfl ?_
        refine w_gi (v := nI (tkF tl ts p)) rfl rfl rfl (A_k S 95 (by decide)) (HP.2.2.1) ?_
        refine w_N 2 46 [.ref 95, .ref 6, .int 1] [.int ((nI (tkF tl ts p)) + 1), .ref 96] rfl ?_
        refine w_ia (tkF tl ts p + 1) (v := tl (tkF tl ts p + 1)) rfl (A_k S 96 (by decide)) (show X.2.2.1 96 = 250 from A_l S 96 (by decide)) (nI_add' _ 1) (by omega) (by decide) (HP.2.1 (tkF tl ts p + 1) (by omega)) ?_
        refine w_N 2 49 [.ref 95, .ref 6, .int 1] [.int 1, .ref 6, .int (tl (tkF tl ts p + 1))] rfl ?_
        refine w_cc (w_vst rfl rfl rfl (Nat.le_of_ble_eq_true rfl) (Nat.le_of_ble_eq_true rfl) (tx_kd (i := 5) Q (by decide))) (tx_char (i := 5) (k := 1) (c := 105) Q (by decide) (by decide) rfl) ?_
        show lm_wp _ 41 52 [.ref 95, .ref 6, .int 1] [.int 105, .int (tl (tkF tl ts p + 1))] (hi, hl, X) _
        refine w_icmp_eq (t := 57) rfl rfl (fun c4 => ?_) (fun c4 => ?_)
        · refine w_N 4 30 [.ref 95, .ref 6, .int 2] [.ref 6, .int 2] rfl ?_
          refine w_cc (w_vst rfl rfl rfl (Nat.le_of_ble_eq_true rfl) (Nat.le_of_ble_eq_true rfl) (tx_kd (i := 5) Q (by decide))) (tx_len (i := 5) (L := 5) Q (by decide) rfl) ?_
          show lm_wp _ 41 33 [.ref 95, .ref 6, .int 2] [.int 5, .int 2] (hi, hl, X) _
          refine w_icmp_ge_f (t := 63) rfl rfl (by decide) ?_
          refine w_N 1 37 [.ref 95, .ref 6, .int 2] [.ref 95] rfl ?_
          refine w_gr 96 rfl rfl rfl (A_k S 95 (by decide)) (A_r S 95 0 (by decide)) ?_
          refine w_N 1 41 [.ref 95, .ref 6, .int 2] [.ref 95, .ref 96] rfl ?_
          refine w_gi (v := nI (tkF tl ts p)) rfl rfl rfl (A_k S 95 (by decide)) (HP.2.2.1) ?_
          refine w_N 2 46 [.ref 95, .ref 6, .int 2] [.int ((nI (tkF tl ts p)) + 2), .ref 96] rfl ?_
          refine w_ia (tkF tl ts p + 2) (v := tl (tkF tl ts p + 2)) rfl (A_k S 96 (by decide)) (show X.2.2.1 96 = 250 from A_l S 96 (by decide)) (nI_add' _ 2) (by omega) (by decide) (HP.2.1 (tkF tl ts p + 2) (by omega)) ?_
          refine w_N 2 49 [.ref 95, .ref 6, .int 2] [.int 2, .ref 6, .int (tl (tkF tl ts p + 2))] rfl ?_
          refine w_cc (w_vst rfl rfl rfl (Nat.le_of_ble_eq_true rfl) (Nat.le_of_ble_eq_true rfl) (tx_kd (i := 5) Q (by decide))) (tx_char (i := 5) (k := 2) (c := 107) Q (by decide) (by decide) rfl) ?_
          show lm_wp _ 41 52 [.ref 95, .ref 6, .int 2] [.int 107, .int (tl (tkF tl ts p + 2))] (hi, hl, X) _
          refine w_icmp_eq (t := 57) rfl rfl (fun c5 => ?_) (fun c5 => ?_)
          · refine w_N 4 30 [.ref 95, .ref 6, .int 3] [.ref 6, .int 3] rfl ?_
            refine w_cc (w_vst rfl rfl rfl (Nat.le_of_ble_eq_true rfl) (Nat.le_of_ble_eq_true rfl) (tx_kd (i := 5) Q (by decide))) (tx_len (i := 5) (L := 5) Q (by decide) rfl) ?_
            show lm_wp _ 41 33 [.ref 95, .ref 6, .int 3] [.int 5, .int 3] (hi, hl, X) _
            refine w_icmp_ge_f (t := 63) rfl rfl (by decide) ?_
            refine w_N 1 37 [.ref 95, .ref 6, .int 3] [.ref 95] rfl ?_
            refine w_gr 96 rfl rfl rfl (A_k S 95 (by decide)) (A_r S 95 0 (by decide)) ?_
            refine w_N 1 41 [.ref 95, .ref 6, .int 3] [.ref 95, .ref 96] rfl ?_
            refine w_gi (v := nI (tkF tl ts p)) rfl rfl rfl (A_k S 95 (by decide)) (HP.2.2.1) ?_
            refine w_N 2 46 [.ref 95, .ref 6, .int 3] [.int ((nI (tkF tl ts p)) + 3), .ref 96] rfl ?_
            refine w_ia (tkF tl ts p + 3) (v := tl (tkF tl ts p + 3)) rfl (A_k S 96 (by decide)) (show X.2.2.1 96 = 250 from A_l S 96 (by decide)) (nI_add' _ 3) (by omega) (by decide) (HP.2.1 (tkF tl ts p + 3) (by omega)) ?_
            refine w_N 2 49 [.ref 95, .ref 6, .int 3] [.int 3, .ref 6, .int (tl (tkF tl ts p + 3))] rfl ?_
            refine w_cc (w_vst rfl rfl rfl (Nat.le_of_ble_eq_true rfl) (Nat.le_of_ble_eq_true rfl) (tx_kd (i := 5) Q (by decide))) (tx_char (i := 5) (k := 3) (c := 101) Q (by decide) (by decide) rfl) ?_
            show lm_wp _ 41 52 [.ref 95, .ref 6, .int 3] [.int 101, .int (tl (tkF tl ts p + 3))] (hi, hl, X) _
            refine w_icmp_eq (t := 57) rfl rfl (fun c6 => ?_) (fun c6 => ?_)
            · refine w_N 4 30 [.ref 95, .ref 6, .int 4] [.ref 6, .int 4] rfl ?_
              refine w_cc (w_vst rfl rfl rfl (Nat.le_of_ble_eq_true rfl) (Nat.le_of_ble_eq_true rfl) (tx_kd (i := 5) Q (by decide))) (tx_len (i := 5) (L := 5) Q (by decide) rfl) ?_
              show lm_wp _ 41 33 [.ref 95, .ref 6, .int 4] [.int 5, .int 4] (hi, hl, X) _
              refine w_icmp_ge_f (t := 63) rfl rfl (by decide) ?_
              refine w_N 1 37 [.ref 95, .ref 6, .int 4] [.ref 95] rfl ?_
              refine w_gr 96 rfl rfl rfl (A_k S 95 (by decide)) (A_r S 95 0 (by decide)) ?_
              refine w_N 1 41 [.ref 95, .ref 6, .int 4] [.ref 95, .ref 96] rfl ?_
              refine w_gi (v := nI (tkF tl ts p)) rfl rfl rfl (A_k S 95 (by decide)) (HP.2.2.1) ?_
              refine w_N 2 46 [.ref 95, .ref 6, .int 4] [.int ((nI (tkF tl ts p)) + 4), .ref 96] rfl ?_
              refine w_ia (tkF tl ts p + 4) (v := tl (tkF tl ts p + 4)) rfl (A_k S 96 (by decide)) (show X.2.2.1 96 = 250 from A_l S 96 (by decide)) (nI_add' _ 4) (by omega) (by decide) (HP.2.1 (tkF tl ts p + 4) (by omega)) ?_
              refine w_N 2 49 [.ref 95, .ref 6, .int 4] [.int 4, .ref 6, .int (tl (tkF tl ts p + 4))] rfl ?_
              refine w_cc (w_vst rfl rfl rfl (Nat.le_of_ble_eq_true rfl) (Nat.le_of_ble_eq_true rfl) (tx_kd (i := 5) Q (by decide))) (tx_char (i := 5) (k := 4) (c := 115) Q (by decide) (by decide) rfl) ?_
              show lm_wp _ 41 52 [.ref 95, .ref 6, .int 4] [.int 115, .int (tl (tkF tl ts p + 4))] (hi, hl, X) _
              refine w_icmp_eq (t := 57) rfl rfl (fun c7 => ?_) (fun c7 => ?_)
              · refine w_N 4 30 [.ref 95, .ref 6, .int 5] [.ref 6, .int 5] rfl ?_
                refine w_cc (w_vst rfl rfl rfl (Nat.le_of_ble_eq_true rfl) (Nat.le_of_ble_eq_true rfl) (tx_kd (i := 5) Q (by decide))) (tx_len (i := 5) (L := 5) Q (by decide) rfl) ?_
                show lm_wp _ 41 33 [.ref 95, .ref 6, .int 5] [.int 5, .int 5] (hi, hl, X) _
                refine w_icmp_ge_t (t := 63) rfl rfl (by decide) ?_
                refine w_N 1 64 [.ref 95, .ref 6, .int 5] [.int 1] rfl ?_
                refine w_rz rfl rfl (by decide) ?_
                show (some (Value.int 1), _) = _
                have e : wdq tl ts p wL5 = true := by
                  have hl : nI wL5.length = 5 := rfl
                  unfold wdq
                  rw [hl]
                  simp [chk, Nat.add_assoc, c1, c2, c3, c4, c5, c6, c7]
                rw [e]; rfl
              · refine w_N 1 56 [.ref 95, .ref 6, .int 4] [.int 0] rfl ?_
                refine w_rz rfl rfl (by decide) ?_
                show (some (Value.int 0), _) = _
                have e : wdq tl ts p wL5 = false := by
                  have hl : nI wL5.length = 5 := rfl
                  unfold wdq
                  rw [hl]
                  simp [chk, Nat.add_assoc, c1, c2, c3, c4, c5, c6, c7]
                rw [e]; rfl
            · refine w_N 1 56 [.ref 95, .ref 6, .int 3] [.int 0] rfl ?_
              refine w_rz rfl rfl (by decide) ?_
              show (some (Value.int 0), _) = _
              have e : wdq tl ts p wL5 = false := by
                have hl : nI wL5.length = 5 := rfl
                unfold wdq
                rw [hl]
                simp [chk, Nat.add_assoc, c1, c2, c3, c4, c5, c6]
              rw [e]; rfl
          · refine w_N 1 56 [.ref 95, .ref 6, .int 2] [.int 0] rfl ?_
            refine w_rz rfl rfl (by decide) ?_
            show (some (Value.int 0), _) = _
            have e : wdq tl ts p wL5 = false := by
              have hl : nI wL5.length = 5 := rfl
              unfold wdq
              rw [hl]
              simp [chk, Nat.add_assoc, c1, c2, c3, c4, c5]
            rw [e]; rfl
        · refine w_N 1 56 [.ref 95, .ref 6, .int 1] [.int 0] rfl ?_
          refine w_rz rfl rfl (by decide) ?_
          show (some (Value.int 0), _) = _
          have e : wdq tl ts p wL5 = false := by
            have hl : nI wL5.length = 5 := rfl
            unfold wdq
            rw [hl]
            simp [chk, Nat.add_assoc, c1, c2, c3, c4]
          rw [e]; rfl
      · refine w_N 1 56 [.ref 95, .ref 6, .int 0] [.int 0] rfl ?_
        refine w_rz rfl rfl (by decide) ?_
        show (some (Value.int 0), _) = _
        have e : wdq tl ts p wL5 = false := by
          have hl : nI wL5.length = 5 := rfl
          unfold wdq
          rw [hl]
          simp [chk, Nat.add_assoc, c1, c2, c3]
        rw [e]; rfl
    · refine w_N 1 25 [.ref 95, .ref 6, lm_jk] [.int 0] rfl ?_
      refine w_rz rfl rfl (by decide) ?_
      show (some (Value.int 0), _) = _
      have e : wdq tl ts p wL5 = false := by
        have hl : nI wL5.length = 5 := rfl
        unfold wdq
        rw [hl]
        simp [chk, Nat.add_assoc, c1, c2]
      rw [e]; rfl
theorem t_isWord6 {d : Nat} {hi : Nat → Nat → Int32} {hl : Nat → Nat → Int64} {X : lm_X} {ts p : Nat} {tl : Nat → Int32} (S : sh_A X) (Q : isTx hi X) (hts : ts ≤ 250) (hp : p ≤ ts) (HP : tpC tl ts hi p) : lm_c (d + 2) 41 [.ref 95, .ref 7] (hi, hl, X) (some (.int (bz (wdq tl ts p wL6))), (hi, hl, X)) := by
  refine lm_c_of (lm_w_in (Nat.le_of_ble_eq_true rfl) ?_)
  show lm_wp (d + 2) 41 0 [.ref 95, .ref 7, lm_jk] [] (hi, hl, X) _
  refine w_N 1 1 [.ref 95, .ref 7, lm_jk] [.ref 95] rfl ?_
  refine w_gi (v := tkS tl ts p) rfl rfl rfl (A_k S 95 (by decide)) (HP.2.2.2.2) ?_
  refine w_N 1 5 [.ref 95, .ref 7, lm_jk] [.int 1, .int (tkS tl ts p)] rfl ?_
  refine w_icmp_ne (t := 24) rfl rfl (fun c1 => ?_) (fun c1 => ?_)
  · refine w_N 1 25 [.ref 95, .ref 7, lm_jk] [.int 0] rfl ?_
    refine w_rz rfl rfl (by decide) ?_
    show (some (Value.int 0), _) = _
    have e : wdq tl ts p wL6 = false := by
      have hl : nI wL6.length = 5 := rfl
      unfold wdq
      rw [hl]
      simp [chk, Nat.add_assoc, c1]
    rw [e]; rfl
  · refine w_N 1 9 [.ref 95, .ref 7, lm_jk] [.ref 95] rfl ?_
    refine w_gi (v := nI (tkE tl ts p)) rfl rfl rfl (A_k S 95 (by decide)) (HP.2.2.2.1) ?_
    refine w_N 1 13 [.ref 95, .ref 7, lm_jk] [.ref 95, .int (nI (tkE tl ts p))] rfl ?_
    refine w_gi (v := nI (tkF tl ts p)) rfl rfl rfl (A_k S 95 (by decide)) (HP.2.2.1) ?_
    refine w_N 2 18 [.ref 95, .ref 7, lm_jk] [.ref 7, .int ((nI (tkE tl ts p)) - (nI (tkF tl ts p)))] rfl ?_
    refine w_cc (w_vst rfl rfl rfl (Nat.le_of_ble_eq_true rfl) (Nat.le_of_ble_eq_true rfl) (tx_kd (i := 6) Q (by decide))) (tx_len (i := 6) (L := 5) Q (by decide) rfl) ?_
    show lm_wp _ 41 21 [.ref 95, .ref 7, lm_jk] [.int 5, .int ((nI (tkE tl ts p)) - (nI (tkF tl ts p)))] (hi, hl, X) _
    refine w_icmp_eq (t := 26) rfl rfl (fun c2 => ?_) (fun c2 => ?_)
    · have hE := len_e (L := 5) hts hp (by decide) c2
      have hb := tk_b (tl := tl) hp
      refine w_N 4 30 [.ref 95, .ref 7, .int 0] [.ref 7, .int 0] rfl ?_
      refine w_cc (w_vst rfl rfl rfl (Nat.le_of_ble_eq_true rfl) (Nat.le_of_ble_eq_true rfl) (tx_kd (i := 6) Q (by decide))) (tx_len (i := 6) (L := 5) Q (by decide) rfl) ?_
      show lm_wp _ 41 33 [.ref 95, .ref 7, .int 0] [.int 5, .int 0] (hi, hl, X) _
      refine w_icmp_ge_f (t := 63) rfl rfl (by decide) ?_
      refine w_N 1 37 [.ref 95, .ref 7, .int 0] [.ref 95] rfl ?_
      refine w_gr 96 rfl rfl rfl (A_k S 95 (by decide)) (A_r S 95 0 (by decide)) ?_
      refine w_N 1 41 [.ref 95, .ref 7, .int 0] [.ref 95, .ref 96] rfl ?_
      refine w_gi (v := nI (tkF tl ts p)) rfl rfl rfl (A_k S 95 (by decide)) (HP.2.2.1) ?_
      refine w_N 2 46 [.ref 95, .ref 7, .int 0] [.int ((nI (tkF tl ts p)) + 0), .ref 96] rfl ?_
      refine w_ia (tkF tl ts p) (v := tl (tkF tl ts p)) rfl (A_k S 96 (by decide)) (show X.2.2.1 96 = 250 from A_l S 96 (by decide)) (Int32.add_zero _) (by omega) (by decide) (HP.2.1 (tkF tl ts p) (by omega)) ?_
      refine w_N 2 49 [.ref 95, .ref 7, .int 0] [.int 0, .ref 7, .int (tl (tkF tl ts p))] rfl ?_
      refine w_cc (w_vst rfl rfl rfl (Nat.le_of_ble_eq_true rfl) (Nat.le_of_ble_eq_true rfl) (tx_kd (i := 6) Q (by decide))) (tx_char (i := 6) (k := 0) (c := 104) Q (by decide) (by decide) rfl) ?_
      show lm_wp _ 41 52 [.ref 95, .ref 7, .int 0] [.int 104, .int (tl (tkF tl ts p))] (hi, hl, X) _
      refine w_icmp_eq (t := 57) rfl rfl (fun c3 => ?_) (fun c3 => ?_)
      · refine w_N 4 30 [.ref 95, .ref 7, .int 1] [.ref 7, .int 1] rfl ?_
        refine w_cc (w_vst rfl rfl rfl (Nat.le_of_ble_eq_true rfl) (Nat.le_of_ble_eq_true rfl) (tx_kd (i := 6) Q (by decide))) (tx_len (i := 6) (L := 5) Q (by decide) rfl) ?_
        show lm_wp _ 41 33 [.ref 95, .ref 7, .int 1] [.int 5, .int 1] (hi, hl, X) _
        refine w_icmp_ge_f (t := 63) rfl rfl (by decide) ?_
        refine w_N 1 37 [.ref 95, .ref 7, .int 1] [.ref 95] rfl ?_
        refine w_gr 96 rfl rfl rfl (A_k S 95 (by decide)) (A_r S 95 0 (by decide)) ?_
        refine w_N 1 41 [.ref 95, .ref 7, .int 1] [.ref 95, .ref 96] rfl ?_
        refine w_gi (v := nI (tkF tl ts p)) rfl rfl rfl (A_k S 95 (by decide)) (HP.2.2.1) ?_
        refine w_N 2 46 [.ref 95, .ref 7, .int 1] [.int ((nI (tkF tl ts p)) + 1), .ref 96] rfl ?_
        refine w_ia (tkF tl ts p + 1) (v := tl (tkF tl ts p + 1)) rfl (A_k S 96 (by decide)) (show X.2.2.1 96 = 250 from A_l S 96 (by decide)) (nI_add' _ 1) (by omega) (by decide) (HP.2.1 (tkF tl ts p + 1) (by omega)) ?_
        refine w_N 2 49 [.ref 95, .ref 7, .int 1] [.int 1, .ref 7, .int (tl (tkF tl ts p + 1))] rfl ?_
        refine w_cc (w_vst rfl rfl rfl (Nat.le_of_ble_eq_true rfl) (Nat.le_of_ble_eq_true rfl) (tx_kd (i := 6) Q (by decide))) (tx_char (i := 6) (k := 1) (c := 97) Q (by decide) (by decide) rfl) ?_
        show lm_wp _ 41 52 [.ref 95, .ref 7, .int 1] [.int 97, .int (tl (tkF tl ts p + 1))] (hi, hl, X) _
        refine w_icmp_eq (t := 57) rfl rfl (fun c4 => ?_) (fun c4 => ?_)
        · refine w_N 4 30 [.ref 95, .ref 7, .int 2] [.ref 7, .int 2] rfl ?_
          refine w_cc (w_vst rfl rfl rfl (Nat.le_of_ble_eq_true rfl) (Nat.le_of_ble_eq_true rfl) (tx_kd (i := 6) Q (by decide))) (tx_len (i := 6) (L := 5) Q (by decide) rfl) ?_
          show lm_wp _ 41 33 [.ref 95, .ref 7, .int 2] [.int 5, .int 2] (hi, hl, X) _
          refine w_icmp_ge_f (t := 63) rfl rfl (by decide) ?_
          refine w_N 1 37 [.ref 95, .ref 7, .int 2] [.ref 95] rfl ?_
          refine w_gr 96 rfl rfl rfl (A_k S 95 (by decide)) (A_r S 95 0 (by decide)) ?_
          refine w_N 1 41 [.ref 95, .ref 7, .int 2] [.ref 95, .ref 96] rfl ?_
          refine w_gi (v := nI (tkF tl ts p)) rfl rfl rfl (A_k S 95 (by decide)) (HP.2.2.1) ?_
          refine w_N 2 46 [.ref 95, .ref 7, .int 2] [.int ((nI (tkF tl ts p)) + 2), .ref 96] rfl ?_
          refine w_ia (tkF tl ts p + 2) (v := tl (tkF tl ts p + 2)) rfl (A_k S 96 (by decide)) (show X.2.2.1 96 = 250 from A_l S 96 (by decide)) (nI_add' _ 2) (by omega) (by decide) (HP.2.1 (tkF tl ts p + 2) (by omega)) ?_
          refine w_N 2 49 [.ref 95, .ref 7, .int 2] [.int 2, .ref 7, .int (tl (tkF tl ts p + 2))] rfl ?_
          refine w_cc (w_vst rfl rfl rfl (Nat.le_of_ble_eq_true rfl) (Nat.le_of_ble_eq_true rfl) (tx_kd (i := 6) Q (by decide))) (tx_char (i := 6) (k := 2) (c := 116) Q (by decide) (by decide) rfl) ?_
          show lm_wp _ 41 52 [.ref 95, .ref 7, .int 2] [.int 116, .int (tl (tkF tl ts p + 2))] (hi, hl, X) _
          refine w_icmp_eq (t := 57) rfl rfl (fun c5 => ?_) (fun c5 => ?_)
          · refine w_N 4 30 [.ref 95, .ref 7, .int 3] [.ref 7, .int 3] rfl ?_
            refine w_cc (w_vst rfl rfl rfl (Nat.le_of_ble_eq_true rfl) (Nat.le_of_ble_eq_true rfl) (tx_kd (i := 6) Q (by decide))) (tx_len (i := 6) (L := 5) Q (by decide) rfl) ?_
            show lm_wp _ 41 33 [.ref 95, .ref 7, .int 3] [.int 5, .int 3] (hi, hl, X) _
            refine w_icmp_ge_f (t := 63) rfl rfl (by decide) ?_
            refine w_N 1 37 [.ref 95, .ref 7, .int 3] [.ref 95] rfl ?_
            refine w_gr 96 rfl rfl rfl (A_k S 95 (by decide)) (A_r S 95 0 (by decide)) ?_
            refine w_N 1 41 [.ref 95, .ref 7, .int 3] [.ref 95, .ref 96] rfl ?_
            refine w_gi (v := nI (tkF tl ts p)) rfl rfl rfl (A_k S 95 (by decide)) (HP.2.2.1) ?_
            refine w_N 2 46 [.ref 95, .ref 7, .int 3] [.int ((nI (tkF tl ts p)) + 3), .ref 96] rfl ?_
            refine w_ia (tkF tl ts p + 3) (v := tl (tkF tl ts p + 3)) rfl (A_k S 96 (by decide)) (show X.2.2.1 96 = 250 from A_l S 96 (by decide)) (nI_add' _ 3) (by omega) (by decide) (HP.2.1 (tkF tl ts p + 3) (by omega)) ?_
            refine w_N 2 49 [.ref 95, .ref 7, .int 3] [.int 3, .ref 7, .int (tl (tkF tl ts p + 3))] rfl ?_
            refine w_cc (w_vst rfl rfl rfl (Nat.le_of_ble_eq_true rfl) (Nat.le_of_ble_eq_true rfl) (tx_kd (i := 6) Q (by decide))) (tx_char (i := 6) (k := 3) (c := 101) Q (by decide) (by decide) rfl) ?_
            show lm_wp _ 41 52 [.ref 95, .ref 7, .int 3] [.int 101, .int (tl (tkF tl ts p + 3))] (hi, hl, X) _
            refine w_icmp_eq (t := 57) rfl rfl (fun c6 => ?_) (fun c6 => ?_)
            · refine w_N 4 30 [.ref 95, .ref 7, .int 4] [.ref 7, .int 4] rfl ?_
              refine w_cc (w_vst rfl rfl rfl (Nat.le_of_ble_eq_true rfl) (Nat.le_of_ble_eq_true rfl) (tx_kd (i := 6) Q (by decide))) (tx_len (i := 6) (L := 5) Q (by decide) rfl) ?_
              show lm_wp _ 41 33 [.ref 95, .ref 7, .int 4] [.int 5, .int 4] (hi, hl, X) _
              refine w_icmp_ge_f (t := 63) rfl rfl (by decide) ?_
              refine w_N 1 37 [.ref 95, .ref 7, .int 4] [.ref 95] rfl ?_
              refine w_gr 96 rfl rfl rfl (A_k S 95 (by decide)) (A_r S 95 0 (by decide)) ?_
              refine w_N 1 41 [.ref 95, .ref 7, .int 4] [.ref 95, .ref 96] rfl ?_
              refine w_gi (v := nI (tkF tl ts p)) rfl rfl rfl (A_k S 95 (by decide)) (HP.2.2.1) ?_
              refine w_N 2 46 [.ref 95, .ref 7, .int 4] [.int ((nI (tkF tl ts p)) + 4), .ref 96] rfl ?_
              refine w_ia (tkF tl ts p + 4) (v := tl (tkF tl ts p + 4)) rfl (A_k S 96 (by decide)) (show X.2.2.1 96 = 250 from A_l S 96 (by decide)) (nI_add' _ 4) (by omega) (by decide) (HP.2.1 (tkF tl ts p + 4) (by omega)) ?_
              refine w_N 2 49 [.ref 95, .ref 7, .int 4] [.int 4, .ref 7, .int (tl (tkF tl ts p + 4))] rfl ?_
              refine w_cc (w_vst rfl rfl rfl (Nat.le_of_ble_eq_true rfl) (Nat.le_of_ble_eq_true rfl) (tx_kd (i := 6) Q (by decide))) (tx_char (i := 6) (k := 4) (c := 115) Q (by decide) (by decide) rfl) ?_
              show lm_wp _ 41 52 [.ref 95, .ref 7, .int 4] [.int 115, .int (tl (tkF tl ts p + 4))] (hi, hl, X) _
              refine w_icmp_eq (t := 57) rfl rfl (fun c7 => ?_) (fun c7 => ?_)
              · refine w_N 4 30 [.ref 95, .ref 7, .int 5] [.ref 7, .int 5] rfl ?_
                refine w_cc (w_vst rfl rfl rfl (Nat.le_of_ble_eq_true rfl) (Nat.le_of_ble_eq_true rfl) (tx_kd (i := 6) Q (by decide))) (tx_len (i := 6) (L := 5) Q (by decide) rfl) ?_
                show lm_wp _ 41 33 [.ref 95, .ref 7, .int 5] [.int 5, .int 5] (hi, hl, X) _
                refine w_icmp_ge_t (t := 63) rfl rfl (by decide) ?_
                refine w_N 1 64 [.ref 95, .ref 7, .int 5] [.int 1] rfl ?_
                refine w_rz rfl rfl (by decide) ?_
                show (some (Value.int 1), _) = _
                have e : wdq tl ts p wL6 = true := by
                  have hl : nI wL6.length = 5 := rfl
                  unfold wdq
                  rw [hl]
                  simp [chk, Nat.add_assoc, c1, c2, c3, c4, c5, c6, c7]
                rw [e]; rfl
              · refine w_N 1 56 [.ref 95, .ref 7, .int 4] [.int 0] rfl ?_
                refine w_rz rfl rfl (by decide) ?_
                show (some (Value.int 0), _) = _
                have e : wdq tl ts p wL6 = false := by
                  have hl : nI wL6.length = 5 := rfl
                  unfold wdq
                  rw [hl]
                  simp [chk, Nat.add_assoc, c1, c2, c3, c4, c5, c6, c7]
                rw [e]; rfl
            · refine w_N 1 56 [.ref 95, .ref 7, .int 3] [.int 0] rfl ?_
              refine w_rz rfl rfl (by decide) ?_
              show (some (Value.int 0), _) = _
              have e : wdq tl ts p wL6 = false := by
                have hl : nI wL6.length = 5 := rfl
                unfold wdq
                rw [hl]
                simp [chk, Nat.add_assoc, c1, c2, c3, c4, c5, c6]
              rw [e]; rfl
          · refine w_N 1 56 [.ref 95, .ref 7, .int 2] [.int 0] rfl ?_
            refine w_rz rfl rfl (by decide) ?_
            show (some (Value.int 0), _) = _
            have e : wdq tl ts p wL6 = false := by
              have hl : nI wL6.length = 5 := rfl
              unfold wdq
              rw [hl]
              simp [chk, Nat.add_assoc, c1, c2, c3, c4, c5]
            rw [e]; rfl
        · refine w_N 1 56 [.ref 95, .ref 7, .int 1] [.int 0] rfl ?_
          refine w_rz rfl rfl (by decide) ?_
          show (some (Value.int 0), _) = _
          have e : wdq tl ts p wL6 = false := by
            have hl : nI wL6.length = 5 := rfl
            unfold wdq
            rw [hl]
            simp [chk, Nat.add_assoc, c1, c2, c3, c4]
          rw [e]; rfl
      · refine w_N 1 56 [.ref 95, .ref 7, .int 0] [.int 0] rfl ?_
        refine w_rz rfl rfl (by decide) ?_
        show (some (Value.int 0), _) = _
        have e : wdq tl ts p wL6 = false := by
          have hl : nI wL6.length = 5 := rfl
          unfold wdq
          rw [hl]
          simp [chk, Nat.add_assoc, c1, c2, c3]
        rw [e]; rfl
    · refine w_N 1 25 [.ref 95, .ref 7, lm_jk] [.int 0] rfl ?_
      refine w_rz rfl rfl (by decide) ?_
      show (some (Value.int 0), _) = _
      have e : wdq tl ts p wL6 = false := by
        have hl : nI wL6.length = 5 := rfl
        unfold wdq
        rw [hl]
        simp [chk, Nat.add_assoc, c1, c2]
      rw [e]; rfl
theorem t_isWord7 {d : Nat} {hi : Nat → Nat → Int32} {hl : Nat → Nat → Int64} {X : lm_X} {ts p : Nat} {tl : Nat → Int32} (S : sh_A X) (Q : isTx hi X) (hts : ts ≤ 250) (hp : p ≤ ts) (HP : tpC tl ts hi p) : lm_c (d + 2) 41 [.ref 95, .ref 8] (hi, hl, X) (some (.int (bz (wdq tl ts p wL7))), (hi, hl, X)) := by
  refine lm_c_of (lm_w_in (Nat.le_of_ble_eq_true rfl) ?_)
  show lm_wp (d + 2) 41 0 [.ref 95, .ref 8, lm_jk] [] (hi, hl, X) _
  refine w_N 1 1 [.ref 95, .ref 8, lm_jk] [.ref 95] rfl ?_
  refine w_gi (v := tkS tl ts p) rfl rfl rfl (A_k S 95 (by decide)) (HP.2.2.2.2) ?_
  refine w_N 1 5 [.ref 95, .ref 8, lm_jk] [.int 1, .int (tkS tl ts p)] rfl ?_
  refine w_icmp_ne (t := 24) rfl rfl (fun c1 => ?_) (fun c1 => ?_)
  · refine w_N 1 25 [.ref 95, .ref 8, lm_jk] [.int 0] rfl ?_
    refine w_rz rfl rfl (by decide) ?_
    show (some (Value.int 0), _) = _
    have e : wdq tl ts p wL7 = false := by
      have hl : nI wL7.length = 6 := rfl
      unfold wdq
      rw [hl]
      simp [chk, Nat.add_assoc, c1]
    rw [e]; rfl
  · refine w_N 1 9 [.ref 95, .ref 8, lm_jk] [.ref 95] rfl ?_
    refine w_gi (v := nI (tkE tl ts p)) rfl rfl rfl (A_k S 95 (by decide)) (HP.2.2.2.1) ?_
    refine w_N 1 13 [.ref 95, .ref 8, lm_jk] [.ref 95, .int (nI (tkE tl ts p))] rfl ?_
    refine w_gi (v := nI (tkF tl ts p)) rfl rfl rfl (A_k S 95 (by decide)) (HP.2.2.1) ?_
    refine w_N 2 18 [.ref 95, .ref 8, lm_jk] [.ref 8, .int ((nI (tkE tl ts p)) - (nI (tkF tl ts p)))] rfl ?_
    refine w_cc (w_vst rfl rfl rfl (Nat.le_of_ble_eq_true rfl) (Nat.le_of_ble_eq_true rfl) (tx_kd (i := 7) Q (by decide))) (tx_len (i := 7) (L := 6) Q (by decide) rfl) ?_
    show lm_wp _ 41 21 [.ref 95, .ref 8, lm_jk] [.int 6, .int ((nI (tkE tl ts p)) - (nI (tkF tl ts p)))] (hi, hl, X) _
    refine w_icmp_eq (t := 26) rfl rfl (fun c2 => ?_) (fun c2 => ?_)
    · have hE := len_e (L := 6) hts hp (by decide) c2
      have hb := tk_b (tl := tl) hp
      refine w_N 4 30 [.ref 95, .ref 8, .int 0] [.ref 8, .int 0] rfl ?_
      refine w_cc (w_vst rfl rfl rfl (Nat.le_of_ble_eq_true rfl) (Nat.le_of_ble_eq_true rfl) (tx_kd (i := 7) Q (by decide))) (tx_len (i := 7) (L := 6) Q (by decide) rfl) ?_
      show lm_wp _ 41 33 [.ref 95, .ref 8, .int 0] [.int 6, .int 0] (hi, hl, X) _
      refine w_icmp_ge_f (t := 63) rfl rfl (by decide) ?_
      refine w_N 1 37 [.ref 95, .ref 8, .int 0] [.ref 95] rfl ?_
      refine w_gr 96 rfl rfl rfl (A_k S 95 (by decide)) (A_r S 95 0 (by decide)) ?_
      refine w_N 1 41 [.ref 95, .ref 8, .int 0] [.ref 95, .ref 96] rfl ?_
      refine w_gi (v := nI (tkF tl ts p)) rfl rfl rfl (A_k S 95 (by decide)) (HP.2.2.1) ?_
      refine w_N 2 46 [.ref 95, .ref 8, .int 0] [.int ((nI (tkF tl ts p)) + 0), .ref 96] rfl ?_
      refine w_ia (tkF tl ts p) (v := tl (tkF tl ts p)) rfl (A_k S 96 (by decide)) (show X.2.2.1 96 = 250 from A_l S 96 (by decide)) (Int32.add_zero _) (by omega) (by decide) (HP.2.1 (tkF tl ts p) (by omega)) ?_
      refine w_N 2 49 [.ref 95, .ref 8, .int 0] [.int 0, .ref 8, .int (tl (tkF tl ts p))] rfl ?_
      refine w_cc (w_vst rfl rfl rfl (Nat.le_of_ble_eq_true rfl) (Nat.le_of_ble_eq_true rfl) (tx_kd (i := 7) Q (by decide))) (tx_char (i := 7) (k := 0) (c := 99) Q (by decide) (by decide) rfl) ?_
      show lm_wp _ 41 52 [.ref 95, .ref 8, .int 0] [.int 99, .int (tl (tkF tl ts p))] (hi, hl, X) _
      refine w_icmp_eq (t := 57) rfl rfl (fun c3 => ?_) (fun c3 => ?_)
      · refine w_N 4 30 [.ref 95, .ref 8, .int 1] [.ref 8, .int 1] rfl ?_
        refine w_cc (w_vst rfl rfl rfl (Nat.le_of_ble_eq_true rfl) (Nat.le_of_ble_eq_true rfl) (tx_kd (i := 7) Q (by decide))) (tx_len (i := 7) (L := 6) Q (by decide) rfl) ?_
        show lm_wp _ 41 33 [.ref 95, .ref 8, .int 1] [.int 6, .int 1] (hi, hl, X) _
        refine w_icmp_ge_f (t := 63) rfl rfl (by decide) ?_
        refine w_N 1 37 [.ref 95, .ref 8, .int 1] [.ref 95] rfl ?_
        refine w_gr 96 rfl rfl rfl (A_k S 95 (by decide)) (A_r S 95 0 (by decide)) ?_
        refine w_N 1 41 [.ref 95, .ref 8, .int 1] [.ref 95, .ref 96] rfl ?_
        refine w_gi (v := nI (tkF tl ts p)) rfl rfl rfl (A_k S 95 (by decide)) (HP.2.2.1) ?_
        refine w_N 2 46 [.ref 95, .ref 8, .int 1] [.int ((nI (tkF tl ts p)) + 1), .ref 96] rfl ?_
        refine w_ia (tkF tl ts p + 1) (v := tl (tkF tl ts p + 1)) rfl (A_k S 96 (by decide)) (show X.2.2.1 96 = 250 from A_l S 96 (by decide)) (nI_add' _ 1) (by omega) (by decide) (HP.2.1 (tkF tl ts p + 1) (by omega)) ?_
        refine w_N 2 49 [.ref 95, .ref 8, .int 1] [.int 1, .ref 8, .int (tl (tkF tl ts p + 1))] rfl ?_
        refine w_cc (w_vst rfl rfl rfl (Nat.le_of_ble_eq_true rfl) (Nat.le_of_ble_eq_true rfl) (tx_kd (i := 7) Q (by decide))) (tx_char (i := 7) (k := 1) (c := 111) Q (by decide) (by decide) rfl) ?_
        show lm_wp _ 41 52 [.ref 95, .ref 8, .int 1] [.int 111, .int (tl (tkF tl ts p + 1))] (hi, hl, X) _
        refine w_icmp_eq (t := 57) rfl rfl (fun c4 => ?_) (fun c4 => ?_)
        · refine w_N 4 30 [.ref 95, .ref 8, .int 2] [.ref 8, .int 2] rfl ?_
          refine w_cc (w_vst rfl rfl rfl (Nat.le_of_ble_eq_true rfl) (Nat.le_of_ble_eq_true rfl) (tx_kd (i := 7) Q (by decide))) (tx_len (i := 7) (L := 6) Q (by decide) rfl) ?_
          show lm_wp _ 41 33 [.ref 95, .ref 8, .int 2] [.int 6, .int 2] (hi, hl, X) _
          refine w_icmp_ge_f (t := 63) rfl rfl (by decide) ?_
          refine w_N 1 37 [.ref 95, .ref 8, .int 2] [.ref 95] rfl ?_
          refine w_gr 96 rfl rfl rfl (A_k S 95 (by decide)) (A_r S 95 0 (by decide)) ?_
          refine w_N 1 41 [.ref 95, .ref 8, .int 2] [.ref 95, .ref 96] rfl ?_
          refine w_gi (v := nI (tkF tl ts p)) rfl rfl rfl (A_k S 95 (by decide)) (HP.2.2.1) ?_
          refine w_N 2 46 [.ref 95, .ref 8, .int 2] [.int ((nI (tkF tl ts p)) + 2), .ref 96] rfl ?_
          refine w_ia (tkF tl ts p + 2) (v := tl (tkF tl ts p + 2)) rfl (A_k S 96 (by decide)) (show X.2.2.1 96 = 250 from A_l S 96 (by decide)) (nI_add' _ 2) (by omega) (by decide) (HP.2.1 (tkF tl ts p + 2) (by omega)) ?_
          refine w_N 2 49 [.ref 95, .ref 8, .int 2] [.int 2, .ref 8, .int (tl (tkF tl ts p + 2))] rfl ?_
          refine w_cc (w_vst rfl rfl rfl (Nat.le_of_ble_eq_true rfl) (Nat.le_of_ble_eq_true rfl) (tx_kd (i := 7) Q (by decide))) (tx_char (i := 7) (k := 2) (c := 117) Q (by decide) (by decide) rfl) ?_
          show lm_wp _ 41 52 [.ref 95, .ref 8, .int 2] [.int 117, .int (tl (tkF tl ts p + 2))] (hi, hl, X) _
          refine w_icmp_eq (t := 57) rfl rfl (fun c5 => ?_) (fun c5 => ?_)
          · refine w_N 4 30 [.ref 95, .ref 8, .int 3] [.ref 8, .int 3] rfl ?_
            refine w_cc (w_vst rfl rfl rfl (Nat.le_of_ble_eq_true rfl) (Nat.le_of_ble_eq_true rfl) (tx_kd (i := 7) Q (by decide))) (tx_len (i := 7) (L := 6) Q (by decide) rfl) ?_
            show lm_wp _ 41 33 [.ref 95, .ref 8, .int 3] [.int 6, .int 3] (hi, hl, X) _
            refine w_icmp_ge_f (t := 63) rfl rfl (by decide) ?_
            refine w_N 1 37 [.ref 95, .ref 8, .int 3] [.ref 95] rfl ?_
            refine w_gr 96 rfl rfl rfl (A_k S 95 (by decide)) (A_r S 95 0 (by decide)) ?_
            refine w_N 1 41 [.ref 95, .ref 8, .int 3] [.ref 95, .ref 96] rfl ?_
            refine w_gi (v := nI (tkF tl ts p)) rfl rfl rfl (A_k S 95 (by decide)) (HP.2.2.1) ?_
            refine w_N 2 46 [.ref 95, .ref 8, .int 3] [.int ((nI (tkF tl ts p)) + 3), .ref 96] rfl ?_
            refine w_ia (tkF tl ts p + 3) (v := tl (tkF tl ts p + 3)) rfl (A_k S 96 (by decide)) (show X.2.2.1 96 = 250 from A_l S 96 (by decide)) (nI_add' _ 3) (by omega) (by decide) (HP.2.1 (tkF tl ts p + 3) (by omega)) ?_
            refine w_N 2 49 [.ref 95, .ref 8, .int 3] [.int 3, .ref 8, .int (tl (tkF tl ts p + 3))] rfl ?_
            refine w_cc (w_vst rfl rfl rfl (Nat.le_of_ble_eq_true rfl) (Nat.le_of_ble_eq_true rfl) (tx_kd (i := 7) Q (by decide))) (tx_char (i := 7) (k := 3) (c := 110) Q (by decide) (by decide) rfl) ?_
            show lm_wp _ 41 52 [.ref 95, .ref 8, .int 3] [.int 110, .int (tl (tkF tl ts p + 3))] (hi, hl, X) _
            refine w_icmp_eq (t := 57) rfl rfl (fun c6 => ?_) (fun c6 => ?_)
            · refine w_N 4 30 [.ref 95, .ref 8, .int 4] [.ref 8, .int 4] rfl ?_
              refine w_cc (w_vst rfl rfl rfl (Nat.le_of_ble_eq_true rfl) (Nat.le_of_ble_eq_true rfl) (tx_kd (i := 7) Q (by decide))) (tx_len (i := 7) (L := 6) Q (by decide) rfl) ?_
              show lm_wp _ 41 33 [.ref 95, .ref 8, .int 4] [.int 6, .int 4] (hi, hl, X) _
              refine w_icmp_ge_f (t := 63) rfl rfl (by decide) ?_
              refine w_N 1 37 [.ref 95, .ref 8, .int 4] [.ref 95] rfl ?_
              refine w_gr 96 rfl rfl rfl (A_k S 95 (by decide)) (A_r S 95 0 (by decide)) ?_
              refine w_N 1 41 [.ref 95, .ref 8, .int 4] [.ref 95, .ref 96] rfl ?_
              refine w_gi (v := nI (tkF tl ts p)) rfl rfl rfl (A_k S 95 (by decide)) (HP.2.2.1) ?_
              refine w_N 2 46 [.ref 95, .ref 8, .int 4] [.int ((nI (tkF tl ts p)) + 4), .ref 96] rfl ?_
              refine w_ia (tkF tl ts p + 4) (v := tl (tkF tl ts p + 4)) rfl (A_k S 96 (by decide)) (show X.2.2.1 96 = 250 from A_l S 96 (by decide)) (nI_add' _ 4) (by omega) (by decide) (HP.2.1 (tkF tl ts p + 4) (by omega)) ?_
              refine w_N 2 49 [.ref 95, .ref 8, .int 4] [.int 4, .ref 8, .int (tl (tkF tl ts p + 4))] rfl ?_
              refine w_cc (w_vst rfl rfl rfl (Nat.le_of_ble_eq_true rfl) (Nat.le_of_ble_eq_true rfl) (tx_kd (i := 7) Q (by decide))) (tx_char (i := 7) (k := 4) (c := 116) Q (by decide) (by decide) rfl) ?_
              show lm_wp _ 41 52 [.ref 95, .ref 8, .int 4] [.int 116, .int (tl (tkF tl ts p + 4))] (hi, hl, X) _
              refine w_icmp_eq (t := 57) rfl rfl (fun c7 => ?_) (fun c7 => ?_)
              · refine w_N 4 30 [.ref 95, .ref 8, .int 5] [.ref 8, .int 5] rfl ?_
                refine w_cc (w_vst rfl rfl rfl (Nat.le_of_ble_eq_true rfl) (Nat.le_of_ble_eq_true rfl) (tx_kd (i := 7) Q (by decide))) (tx_len (i := 7) (L := 6) Q (by decide) rfl) ?_
                show lm_wp _ 41 33 [.ref 95, .ref 8, .int 5] [.int 6, .int 5] (hi, hl, X) _
                refine w_icmp_ge_f (t := 63) rfl rfl (by decide) ?_
                refine w_N 1 37 [.ref 95, .ref 8, .int 5] [.ref 95] rfl ?_
                refine w_gr 96 rfl rfl rfl (A_k S 95 (by decide)) (A_r S 95 0 (by decide)) ?_
                refine w_N 1 41 [.ref 95, .ref 8, .int 5] [.ref 95, .ref 96] rfl ?_
                refine w_gi (v := nI (tkF tl ts p)) rfl rfl rfl (A_k S 95 (by decide)) (HP.2.2.1) ?_
                refine w_N 2 46 [.ref 95, .ref 8, .int 5] [.int ((nI (tkF tl ts p)) + 5), .ref 96] rfl ?_
                refine w_ia (tkF tl ts p + 5) (v := tl (tkF tl ts p + 5)) rfl (A_k S 96 (by decide)) (show X.2.2.1 96 = 250 from A_l S 96 (by decide)) (nI_add' _ 5) (by omega) (by decide) (HP.2.1 (tkF tl ts p + 5) (by omega)) ?_
                refine w_N 2 49 [.ref 95, .ref 8, .int 5] [.int 5, .ref 8, .int (tl (tkF tl ts p + 5))] rfl ?_
                refine w_cc (w_vst rfl rfl rfl (Nat.le_of_ble_eq_true rfl) (Nat.le_of_ble_eq_true rfl) (tx_kd (i := 7) Q (by decide))) (tx_char (i := 7) (k := 5) (c := 115) Q (by decide) (by decide) rfl) ?_
                show lm_wp _ 41 52 [.ref 95, .ref 8, .int 5] [.int 115, .int (tl (tkF tl ts p + 5))] (hi, hl, X) _
                refine w_icmp_eq (t := 57) rfl rfl (fun c8 => ?_) (fun c8 => ?_)
                · refine w_N 4 30 [.ref 95, .ref 8, .int 6] [.ref 8, .int 6] rfl ?_
                  refine w_cc (w_vst rfl rfl rfl (Nat.le_of_ble_eq_true rfl) (Nat.le_of_ble_eq_true rfl) (tx_kd (i := 7) Q (by decide))) (tx_len (i := 7) (L := 6) Q (by decide) rfl) ?_
                  show lm_wp _ 41 33 [.ref 95, .ref 8, .int 6] [.int 6, .int 6] (hi, hl, X) _
                  refine w_icmp_ge_t (t := 63) rfl rfl (by decide) ?_
                  refine w_N 1 64 [.ref 95, .ref 8, .int 6] [.int 1] rfl ?_
                  refine w_rz rfl rfl (by decide) ?_
                  show (some (Value.int 1), _) = _
                  have e : wdq tl ts p wL7 = true := by
                    have hl : nI wL7.length = 6 := rfl
                    unfold wdq
                    rw [hl]
                    simp [chk, Nat.add_assoc, c1, c2, c3, c4, c5, c6, c7, c8]
                  rw [e]; rfl
                · refine w_N 1 56 [.ref 95, .ref 8, .int 5] [.int 0] rfl ?_
                  refine w_rz rfl rfl (by decide) ?_
                  show (some (Value.int 0), _) = _
                  have e : wdq tl ts p wL7 = false := by
                    have hl : nI wL7.length = 6 := rfl
                    unfold wdq
                    rw [hl]
                    simp [chk, Nat.add_assoc, c1, c2, c3, c4, c5, c6, c7, c8]
                  rw [e]; rfl
              · refine w_N 1 56 [.ref 95, .ref 8, .int 4] [.int 0] rfl ?_
                refine w_rz rfl rfl (by decide) ?_
                show (some (Value.int 0), _) = _
                have e : wdq tl ts p wL7 = false := by
                  have hl : nI wL7.length = 6 := rfl
                  unfold wdq
                  rw [hl]
                  simp [chk, Nat.add_assoc, c1, c2, c3, c4, c5, c6, c7]
                rw [e]; rfl
            · refine w_N 1 56 [.ref 95, .ref 8, .int 3] [.int 0] rfl ?_
              refine w_rz rfl rfl (by decide) ?_
              show (some (Value.int 0), _) = _
              have e : wdq tl ts p wL7 = false := by
                have hl : nI wL7.length = 6 := rfl
                unfold wdq
                rw [hl]
                simp [chk, Nat.add_assoc, c1, c2, c3, c4, c5, c6]
              rw [e]; rfl
          · refine w_N 1 56 [.ref 95, .ref 8, .int 2] [.int 0] rfl ?_
            refine w_rz rfl rfl (by decide) ?_
            show (some (Value.int 0), _) = _
            have e : wdq tl ts p wL7 = false := by
              have hl : nI wL7.length = 6 := rfl
              unfold wdq
              rw [hl]
              simp [chk, Nat.add_assoc, c1, c2, c3, c4, c5]
            rw [e]; rfl
        · refine w_N 1 56 [.ref 95, .ref 8, .int 1] [.int 0] rfl ?_
          refine w_rz rfl rfl (by decide) ?_
          show (some (Value.int 0), _) = _
          have e : wdq tl ts p wL7 = false := by
            have hl : nI wL7.length = 6 := rfl
            unfold wdq
            rw [hl]
            simp [chk, Nat.add_assoc, c1, c2, c3, c4]
          rw [e]; rfl
      · refine w_N 1 56 [.ref 95, .ref 8, .int 0] [.int 0] rfl ?_
        refine w_rz rfl rfl (by decide) ?_
        show (some (Value.int 0), _) = _
        have e : wdq tl ts p wL7 = false := by
          have hl : nI wL7.length = 6 := rfl
          unfold wdq
          rw [hl]
          simp [chk, Nat.add_assoc, c1, c2, c3]
        rw [e]; rfl
    · refine w_N 1 25 [.ref 95, .ref 8, lm_jk] [.int 0] rfl ?_
      refine w_rz rfl rfl (by decide) ?_
      show (some (Value.int 0), _) = _
      have e : wdq tl ts p wL7 = false := by
        have hl : nI wL7.length = 6 := rfl
        unfold wdq
        rw [hl]
        simp [chk, Nat.add_assoc, c1, c2]
      rw [e]; rfl
theorem t_isWord8 {d : Nat} {hi : Nat → Nat → Int32} {hl : Nat → Nat → Int64} {X : lm_X} {ts p : Nat} {tl : Nat → Int32} (S : sh_A X) (Q : isTx hi X) (hts : ts ≤ 250) (hp : p ≤ ts) (HP : tpC tl ts hi p) : lm_c (d + 2) 41 [.ref 95, .ref 9] (hi, hl, X) (some (.int (bz (wdq tl ts p wL8))), (hi, hl, X)) := by
  refine lm_c_of (lm_w_in (Nat.le_of_ble_eq_true rfl) ?_)
  show lm_wp (d + 2) 41 0 [.ref 95, .ref 9, lm_jk] [] (hi, hl, X) _
  refine w_N 1 1 [.ref 95, .ref 9, lm_jk] [.ref 95] rfl ?_
  refine w_gi (v := tkS tl ts p) rfl rfl rfl (A_k S 95 (by decide)) (HP.2.2.2.2) ?_
  refine w_N 1 5 [.ref 95, .ref 9, lm_jk] [.int 1, .int (tkS tl ts p)] rfl ?_
  refine w_icmp_ne (t := 24) rfl rfl (fun c1 => ?_) (fun c1 => ?_)
  · refine w_N 1 25 [.ref 95, .ref 9, lm_jk] [.int 0] rfl ?_
    refine w_rz rfl rfl (by decide) ?_
    show (some (Value.int 0), _) = _
    have e : wdq tl ts p wL8 = false := by
      have hl : nI wL8.length = 5 := rfl
      unfold wdq
      rw [hl]
      simp [chk, Nat.add_assoc, c1]
    rw [e]; rfl
  · refine w_N 1 9 [.ref 95, .ref 9, lm_jk] [.ref 95] rfl ?_
    refine w_gi (v := nI (tkE tl ts p)) rfl rfl rfl (A_k S 95 (by decide)) (HP.2.2.2.1) ?_
    refine w_N 1 13 [.ref 95, .ref 9, lm_jk] [.ref 95, .int (nI (tkE tl ts p))] rfl ?_
    refine w_gi (v := nI (tkF tl ts p)) rfl rfl rfl (A_k S 95 (by decide)) (HP.2.2.1) ?_
    refine w_N 2 18 [.ref 95, .ref 9, lm_jk] [.ref 9, .int ((nI (tkE tl ts p)) - (nI (tkF tl ts p)))] rfl ?_
    refine w_cc (w_vst rfl rfl rfl (Nat.le_of_ble_eq_true rfl) (Nat.le_of_ble_eq_true rfl) (tx_kd (i := 8) Q (by decide))) (tx_len (i := 8) (L := 5) Q (by decide) rfl) ?_
    show lm_wp _ 41 21 [.ref 95, .ref 9, lm_jk] [.int 5, .int ((nI (tkE tl ts p)) - (nI (tkF tl ts p)))] (hi, hl, X) _
    refine w_icmp_eq (t := 26) rfl rfl (fun c2 => ?_) (fun c2 => ?_)
    · have hE := len_e (L := 5) hts hp (by decide) c2
      have hb := tk_b (tl := tl) hp
      refine w_N 4 30 [.ref 95, .ref 9, .int 0] [.ref 9, .int 0] rfl ?_
      refine w_cc (w_vst rfl rfl rfl (Nat.le_of_ble_eq_true rfl) (Nat.le_of_ble_eq_true rfl) (tx_kd (i := 8) Q (by decide))) (tx_len (i := 8) (L := 5) Q (by decide) rfl) ?_
      show lm_wp _ 41 33 [.ref 95, .ref 9, .int 0] [.int 5, .int 0] (hi, hl, X) _
      refine w_icmp_ge_f (t := 63) rfl rfl (by decide) ?_
      refine w_N 1 37 [.ref 95, .ref 9, .int 0] [.ref 95] rfl ?_
      refine w_gr 96 rfl rfl rfl (A_k S 95 (by decide)) (A_r S 95 0 (by decide)) ?_
      refine w_N 1 41 [.ref 95, .ref 9, .int 0] [.ref 95, .ref 96] rfl ?_
      refine w_gi (v := nI (tkF tl ts p)) rfl rfl rfl (A_k S 95 (by decide)) (HP.2.2.1) ?_
      refine w_N 2 46 [.ref 95, .ref 9, .int 0] [.int ((nI (tkF tl ts p)) + 0), .ref 96] rfl ?_
      refine w_ia (tkF tl ts p) (v := tl (tkF tl ts p)) rfl (A_k S 96 (by decide)) (show X.2.2.1 96 = 250 from A_l S 96 (by decide)) (Int32.add_zero _) (by omega) (by decide) (HP.2.1 (tkF tl ts p) (by omega)) ?_
      refine w_N 2 49 [.ref 95, .ref 9, .int 0] [.int 0, .ref 9, .int (tl (tkF tl ts p))] rfl ?_
      refine w_cc (w_vst rfl rfl rfl (Nat.le_of_ble_eq_true rfl) (Nat.le_of_ble_eq_true rfl) (tx_kd (i := 8) Q (by decide))) (tx_char (i := 8) (k := 0) (c := 99) Q (by decide) (by decide) rfl) ?_
      show lm_wp _ 41 52 [.ref 95, .ref 9, .int 0] [.int 99, .int (tl (tkF tl ts p))] (hi, hl, X) _
      refine w_icmp_eq (t := 57) rfl rfl (fun c3 => ?_) (fun c3 => ?_)
      · refine w_N 4 30 [.ref 95, .ref 9, .int 1] [.ref 9, .int 1] rfl ?_
        refine w_cc (w_vst rfl rfl rfl (Nat.le_of_ble_eq_true rfl) (Nat.le_of_ble_eq_true rfl) (tx_kd (i := 8) Q (by decide))) (tx_len (i := 8) (L := 5) Q (by decide) rfl) ?_
        show lm_wp _ 41 33 [.ref 95, .ref 9, .int 1] [.int 5, .int 1] (hi, hl, X) _
        refine w_icmp_ge_f (t := 63) rfl rfl (by decide) ?_
        refine w_N 1 37 [.ref 95, .ref 9, .int 1] [.ref 95] rfl ?_
        refine w_gr 96 rfl rfl rfl (A_k S 95 (by decide)) (A_r S 95 0 (by decide)) ?_
        refine w_N 1 41 [.ref 95, .ref 9, .int 1] [.ref 95, .ref 96] rfl ?_
        refine w_gi (v := nI (tkF tl ts p)) rfl rfl rfl (A_k S 95 (by decide)) (HP.2.2.1) ?_
        refine w_N 2 46 [.ref 95, .ref 9, .int 1] [.int ((nI (tkF tl ts p)) + 1), .ref 96] rfl ?_
        refine w_ia (tkF tl ts p + 1) (v := tl (tkF tl ts p + 1)) rfl (A_k S 96 (by decide)) (show X.2.2.1 96 = 250 from A_l S 96 (by decide)) (nI_add' _ 1) (by omega) (by decide) (HP.2.1 (tkF tl ts p + 1) (by omega)) ?_
        refine w_N 2 49 [.ref 95, .ref 9, .int 1] [.int 1, .ref 9, .int (tl (tkF tl ts p + 1))] rfl ?_
        refine w_cc (w_vst rfl rfl rfl (Nat.le_of_ble_eq_true rfl) (Nat.le_of_ble_eq_true rfl) (tx_kd (i := 8) Q (by decide))) (tx_char (i := 8) (k := 1) (c := 111) Q (by decide) (by decide) rfl) ?_
        show lm_wp _ 41 52 [.ref 95, .ref 9, .int 1] [.int 111, .int (tl (tkF tl ts p + 1))] (hi, hl, X) _
        refine w_icmp_eq (t := 57) rfl rfl (fun c4 => ?_) (fun c4 => ?_)
        · refine w_N 4 30 [.ref 95, .ref 9, .int 2] [.ref 9, .int 2] rfl ?_
          refine w_cc (w_vst rfl rfl rfl (Nat.le_of_ble_eq_true rfl) (Nat.le_of_ble_eq_true rfl) (tx_kd (i := 8) Q (by decide))) (tx_len (i := 8) (L := 5) Q (by decide) rfl) ?_
          show lm_wp _ 41 33 [.ref 95, .ref 9, .int 2] [.int 5, .int 2] (hi, hl, X) _
          refine w_icmp_ge_f (t := 63) rfl rfl (by decide) ?_
          refine w_N 1 37 [.ref 95, .ref 9, .int 2] [.ref 95] rfl ?_
          refine w_gr 96 rfl rfl rfl (A_k S 95 (by decide)) (A_r S 95 0 (by decide)) ?_
          refine w_N 1 41 [.ref 95, .ref 9, .int 2] [.ref 95, .ref 96] rfl ?_
          refine w_gi (v := nI (tkF tl ts p)) rfl rfl rfl (A_k S 95 (by decide)) (HP.2.2.1) ?_
          refine w_N 2 46 [.ref 95, .ref 9, .int 2] [.int ((nI (tkF tl ts p)) + 2), .ref 96] rfl ?_
          refine w_ia (tkF tl ts p + 2) (v := tl (tkF tl ts p + 2)) rfl (A_k S 96 (by decide)) (show X.2.2.1 96 = 250 from A_l S 96 (by decide)) (nI_add' _ 2) (by omega) (by decide) (HP.2.1 (tkF tl ts p + 2) (by omega)) ?_
          refine w_N 2 49 [.ref 95, .ref 9, .int 2] [.int 2, .ref 9, .int (tl (tkF tl ts p + 2))] rfl ?_
          refine w_cc (w_vst rfl rfl rfl (Nat.le_of_ble_eq_true rfl) (Nat.le_of_ble_eq_true rfl) (tx_kd (i := 8) Q (by decide))) (tx_char (i := 8) (k := 2) (c := 115) Q (by decide) (by decide) rfl) ?_
          show lm_wp _ 41 52 [.ref 95, .ref 9, .int 2] [.int 115, .int (tl (tkF tl ts p + 2))] (hi, hl, X) _
          refine w_icmp_eq (t := 57) rfl rfl (fun c5 => ?_) (fun c5 => ?_)
          · refine w_N 4 30 [.ref 95, .ref 9, .int 3] [.ref 9, .int 3] rfl ?_
            refine w_cc (w_vst rfl rfl rfl (Nat.le_of_ble_eq_true rfl) (Nat.le_of_ble_eq_true rfl) (tx_kd (i := 8) Q (by decide))) (tx_len (i := 8) (L := 5) Q (by decide) rfl) ?_
            show lm_wp _ 41 33 [.ref 95, .ref 9, .int 3] [.int 5, .int 3] (hi, hl, X) _
            refine w_icmp_ge_f (t := 63) rfl rfl (by decide) ?_
            refine w_N 1 37 [.ref 95, .ref 9, .int 3] [.ref 95] rfl ?_
            refine w_gr 96 rfl rfl rfl (A_k S 95 (by decide)) (A_r S 95 0 (by decide)) ?_
            refine w_N 1 41 [.ref 95, .ref 9, .int 3] [.ref 95, .ref 96] rfl ?_
            refine w_gi (v := nI (tkF tl ts p)) rfl rfl rfl (A_k S 95 (by decide)) (HP.2.2.1) ?_
            refine w_N 2 46 [.ref 95, .ref 9, .int 3] [.int ((nI (tkF tl ts p)) + 3), .ref 96] rfl ?_
            refine w_ia (tkF tl ts p + 3) (v := tl (tkF tl ts p + 3)) rfl (A_k S 96 (by decide)) (show X.2.2.1 96 = 250 from A_l S 96 (by decide)) (nI_add' _ 3) (by omega) (by decide) (HP.2.1 (tkF tl ts p + 3) (by omega)) ?_
            refine w_N 2 49 [.ref 95, .ref 9, .int 3] [.int 3, .ref 9, .int (tl (tkF tl ts p + 3))] rfl ?_
            refine w_cc (w_vst rfl rfl rfl (Nat.le_of_ble_eq_true rfl) (Nat.le_of_ble_eq_true rfl) (tx_kd (i := 8) Q (by decide))) (tx_char (i := 8) (k := 3) (c := 116) Q (by decide) (by decide) rfl) ?_
            show lm_wp _ 41 52 [.ref 95, .ref 9, .int 3] [.int 116, .int (tl (tkF tl ts p + 3))] (hi, hl, X) _
            refine w_icmp_eq (t := 57) rfl rfl (fun c6 => ?_) (fun c6 => ?_)
            · refine w_N 4 30 [.ref 95, .ref 9, .int 4] [.ref 9, .int 4] rfl ?_
              refine w_cc (w_vst rfl rfl rfl (Nat.le_of_ble_eq_true rfl) (Nat.le_of_ble_eq_true rfl) (tx_kd (i := 8) Q (by decide))) (tx_len (i := 8) (L := 5) Q (by decide) rfl) ?_
              show lm_wp _ 41 33 [.ref 95, .ref 9, .int 4] [.int 5, .int 4] (hi, hl, X) _
              refine w_icmp_ge_f (t := 63) rfl rfl (by decide) ?_
              refine w_N 1 37 [.ref 95, .ref 9, .int 4] [.ref 95] rfl ?_
              refine w_gr 96 rfl rfl rfl (A_k S 95 (by decide)) (A_r S 95 0 (by decide)) ?_
              refine w_N 1 41 [.ref 95, .ref 9, .int 4] [.ref 95, .ref 96] rfl ?_
              refine w_gi (v := nI (tkF tl ts p)) rfl rfl rfl (A_k S 95 (by decide)) (HP.2.2.1) ?_
              refine w_N 2 46 [.ref 95, .ref 9, .int 4] [.int ((nI (tkF tl ts p)) + 4), .ref 96] rfl ?_
              refine w_ia (tkF tl ts p + 4) (v := tl (tkF tl ts p + 4)) rfl (A_k S 96 (by decide)) (show X.2.2.1 96 = 250 from A_l S 96 (by decide)) (nI_add' _ 4) (by omega) (by decide) (HP.2.1 (tkF tl ts p + 4) (by omega)) ?_
              refine w_N 2 49 [.ref 95, .ref 9, .int 4] [.int 4, .ref 9, .int (tl (tkF tl ts p + 4))] rfl ?_
              refine w_cc (w_vst rfl rfl rfl (Nat.le_of_ble_eq_true rfl) (Nat.le_of_ble_eq_true rfl) (tx_kd (i := 8) Q (by decide))) (tx_char (i := 8) (k := 4) (c := 115) Q (by decide) (by decide) rfl) ?_
              show lm_wp _ 41 52 [.ref 95, .ref 9, .int 4] [.int 115, .int (tl (tkF tl ts p + 4))] (hi, hl, X) _
              refine w_icmp_eq (t := 57) rfl rfl (fun c7 => ?_) (fun c7 => ?_)
              · refine w_N 4 30 [.ref 95, .ref 9, .int 5] [.ref 9, .int 5] rfl ?_
                refine w_cc (w_vst rfl rfl rfl (Nat.le_of_ble_eq_true rfl) (Nat.le_of_ble_eq_true rfl) (tx_kd (i := 8) Q (by decide))) (tx_len (i := 8) (L := 5) Q (by decide) rfl) ?_
                show lm_wp _ 41 33 [.ref 95, .ref 9, .int 5] [.int 5, .int 5] (hi, hl, X) _
                refine w_icmp_ge_t (t := 63) rfl rfl (by decide) ?_
                refine w_N 1 64 [.ref 95, .ref 9, .int 5] [.int 1] rfl ?_
                refine w_rz rfl rfl (by decide) ?_
                show (some (Value.int 1), _) = _
                have e : wdq tl ts p wL8 = true := by
                  have hl : nI wL8.length = 5 := rfl
                  unfold wdq
                  rw [hl]
                  simp [chk, Nat.add_assoc, c1, c2, c3, c4, c5, c6, c7]
                rw [e]; rfl
              · refine w_N 1 56 [.ref 95, .ref 9, .int 4] [.int 0] rfl ?_
                refine w_rz rfl rfl (by decide) ?_
                show (some (Value.int 0), _) = _
                have e : wdq tl ts p wL8 = false := by
                  have hl : nI wL8.length = 5 := rfl
                  unfold wdq
                  rw [hl]
                  simp [chk, Nat.add_assoc, c1, c2, c3, c4, c5, c6, c7]
                rw [e]; rfl
            · refine w_N 1 56 [.ref 95, .ref 9, .int 3] [.int 0] rfl ?_
              refine w_rz rfl rfl (by decide) ?_
              show (some (Value.int 0), _) = _
              have e : wdq tl ts p wL8 = false := by
                have hl : nI wL8.length = 5 := rfl
                unfold wdq
                rw [hl]
                simp [chk, Nat.add_assoc, c1, c2, c3, c4, c5, c6]
              rw [e]; rfl
          · refine w_N 1 56 [.ref 95, .ref 9, .int 2] [.int 0] rfl ?_
            refine w_rz rfl rfl (by decide) ?_
            show (some (Value.int 0), _) = _
            have e : wdq tl ts p wL8 = false := by
              have hl : nI wL8.length = 5 := rfl
              unfold wdq
              rw [hl]
              simp [chk, Nat.add_assoc, c1, c2, c3, c4, c5]
            rw [e]; rfl
        · refine w_N 1 56 [.ref 95, .ref 9, .int 1] [.int 0] rfl ?_
          refine w_rz rfl rfl (by decide) ?_
          show (some (Value.int 0), _) = _
          have e : wdq tl ts p wL8 = false := by
            have hl : nI wL8.length = 5 := rfl
            unfold wdq
            rw [hl]
            simp [chk, Nat.add_assoc, c1, c2, c3, c4]
          rw [e]; rfl
      · refine w_N 1 56 [.ref 95, .ref 9, .int 0] [.int 0] rfl ?_
        refine w_rz rfl rfl (by decide) ?_
        show (some (Value.int 0), _) = _
        have e : wdq tl ts p wL8 = false := by
          have hl : nI wL8.length = 5 := rfl
          unfold wdq
          rw [hl]
          simp [chk, Nat.add_assoc, c1, c2, c3]
        rw [e]; rfl
    · refine w_N 1 25 [.ref 95, .ref 9, lm_jk] [.int 0] rfl ?_
      refine w_rz rfl rfl (by decide) ?_
      show (some (Value.int 0), _) = _
      have e : wdq tl ts p wL8 = false := by
        have hl : nI wL8.length = 5 := rfl
        unfold wdq
        rw [hl]
        simp [chk, Nat.add_assoc, c1, c2]
      rw [e]; rfl
theorem t_isWord9 {d : Nat} {hi : Nat → Nat → Int32} {hl : Nat → Nat → Int64} {X : lm_X} {ts p : Nat} {tl : Nat → Int32} (S : sh_A X) (Q : isTx hi X) (hts : ts ≤ 250) (hp : p ≤ ts) (HP : tpC tl ts hi p) : lm_c (d + 2) 41 [.ref 95, .ref 10] (hi, hl, X) (some (.int (bz (wdq tl ts p wL9))), (hi, hl, X)) := by
  refine lm_c_of (lm_w_in (Nat.le_of_ble_eq_true rfl) ?_)
  show lm_wp (d + 2) 41 0 [.ref 95, .ref 10, lm_jk] [] (hi, hl, X) _
  refine w_N 1 1 [.ref 95, .ref 10, lm_jk] [.ref 95] rfl ?_
  refine w_gi (v := tkS tl ts p) rfl rfl rfl (A_k S 95 (by decide)) (HP.2.2.2.2) ?_
  refine w_N 1 5 [.ref 95, .ref 10, lm_jk] [.int 1, .int (tkS tl ts p)] rfl ?_
  refine w_icmp_ne (t := 24) rfl rfl (fun c1 => ?_) (fun c1 => ?_)
  · refine w_N 1 25 [.ref 95, .ref 10, lm_jk] [.int 0] rfl ?_
    refine w_rz rfl rfl (by decide) ?_
    show (some (Value.int 0), _) = _
    have e : wdq tl ts p wL9 = false := by
      have hl : nI wL9.length = 5 := rfl
      unfold wdq
      rw [hl]
      simp [chk, Nat.add_assoc, c1]
    rw [e]; rfl
  · refine w_N 1 9 [.ref 95, .ref 10, lm_jk] [.ref 95] rfl ?_
    refine w_gi (v := nI (tkE tl ts p)) rfl rfl rfl (A_k S 95 (by decide)) (HP.2.2.2.1) ?_
    refine w_N 1 13 [.ref 95, .ref 10, lm_jk] [.ref 95, .int (nI (tkE tl ts p))] rfl ?_
    refine w_gi (v := nI (tkF tl ts p)) rfl rfl rfl (A_k S 95 (by decide)) (HP.2.2.1) ?_
    refine w_N 2 18 [.ref 95, .ref 10, lm_jk] [.ref 10, .int ((nI (tkE tl ts p)) - (nI (tkF tl ts p)))] rfl ?_
    refine w_cc (w_vst rfl rfl rfl (Nat.le_of_ble_eq_true rfl) (Nat.le_of_ble_eq_true rfl) (tx_kd (i := 9) Q (by decide))) (tx_len (i := 9) (L := 5) Q (by decide) rfl) ?_
    show lm_wp _ 41 21 [.ref 95, .ref 10, lm_jk] [.int 5, .int ((nI (tkE tl ts p)) - (nI (tkF tl ts p)))] (hi, hl, X) _
    refine w_icmp_eq (t := 26) rfl rfl (fun c2 => ?_) (fun c2 => ?_)
    · have hE := len_e (L := 5) hts hp (by decide) c2
      have hb := tk_b (tl := tl) hp
      refine w_N 4 30 [.ref 95, .ref 10, .int 0] [.ref 10, .int 0] rfl ?_
      refine w_cc (w_vst rfl rfl rfl (Nat.le_of_ble_eq_true rfl) (Nat.le_of_ble_eq_true rfl) (tx_kd (i := 9) Q (by decide))) (tx_len (i := 9) (L := 5) Q (by decide) rfl) ?_
      show lm_wp _ 41 33 [.ref 95, .ref 10, .int 0] [.int 5, .int 0] (hi, hl, X) _
      refine w_icmp_ge_f (t := 63) rfl rfl (by decide) ?_
      refine w_N 1 37 [.ref 95, .ref 10, .int 0] [.ref 95] rfl ?_
      refine w_gr 96 rfl rfl rfl (A_k S 95 (by decide)) (A_r S 95 0 (by decide)) ?_
      refine w_N 1 41 [.ref 95, .ref 10, .int 0] [.ref 95, .ref 96] rfl ?_
      refine w_gi (v := nI (tkF tl ts p)) rfl rfl rfl (A_k S 95 (by decide)) (HP.2.2.1) ?_
      refine w_N 2 46 [.ref 95, .ref 10, .int 0] [.int ((nI (tkF tl ts p)) + 0), .ref 96] rfl ?_
      refine w_ia (tkF tl ts p) (v := tl (tkF tl ts p)) rfl (A_k S 96 (by decide)) (show X.2.2.1 96 = 250 from A_l S 96 (by decide)) (Int32.add_zero _) (by omega) (by decide) (HP.2.1 (tkF tl ts p) (by omega)) ?_
      refine w_N 2 49 [.ref 95, .ref 10, .int 0] [.int 0, .ref 10, .int (tl (tkF tl ts p))] rfl ?_
      refine w_cc (w_vst rfl rfl rfl (Nat.le_of_ble_eq_true rfl) (Nat.le_of_ble_eq_true rfl) (tx_kd (i := 9) Q (by decide))) (tx_char (i := 9) (k := 0) (c := 104) Q (by decide) (by decide) rfl) ?_
      show lm_wp _ 41 52 [.ref 95, .ref 10, .int 0] [.int 104, .int (tl (tkF tl ts p))] (hi, hl, X) _
      refine w_icmp_eq (t := 57) rfl rfl (fun c3 => ?_) (fun c3 => ?_)
      · refine w_N 4 30 [.ref 95, .ref 10, .int 1] [.ref 10, .int 1] rfl ?_
        refine w_cc (w_vst rfl rfl rfl (Nat.le_of_ble_eq_true rfl) (Nat.le_of_ble_eq_true rfl) (tx_kd (i := 9) Q (by decide))) (tx_len (i := 9) (L := 5) Q (by decide) rfl) ?_
        show lm_wp _ 41 33 [.ref 95, .ref 10, .int 1] [.int 5, .int 1] (hi, hl, X) _
        refine w_icmp_ge_f (t := 63) rfl rfl (by decide) ?_
        refine w_N 1 37 [.ref 95, .ref 10, .int 1] [.ref 95] rfl ?_
        refine w_gr 96 rfl rfl rfl (A_k S 95 (by decide)) (A_r S 95 0 (by decide)) ?_
        refine w_N 1 41 [.ref 95, .ref 10, .int 1] [.ref 95, .ref 96] rfl ?_
        refine w_gi (v := nI (tkF tl ts p)) rfl rfl rfl (A_k S 95 (by decide)) (HP.2.2.1) ?_
        refine w_N 2 46 [.ref 95, .ref 10, .int 1] [.int ((nI (tkF tl ts p)) + 1), .ref 96] rfl ?_
        refine w_ia (tkF tl ts p + 1) (v := tl (tkF tl ts p + 1)) rfl (A_k S 96 (by decide)) (show X.2.2.1 96 = 250 from A_l S 96 (by decide)) (nI_add' _ 1) (by omega) (by decide) (HP.2.1 (tkF tl ts p + 1) (by omega)) ?_
        refine w_N 2 49 [.ref 95, .ref 10, .int 1] [.int 1, .ref 10, .int (tl (tkF tl ts p + 1))] rfl ?_
        refine w_cc (w_vst rfl rfl rfl (Nat.le_of_ble_eq_true rfl) (Nat.le_of_ble_eq_true rfl) (tx_kd (i := 9) Q (by decide))) (tx_char (i := 9) (k := 1) (c := 105) Q (by decide) (by decide) rfl) ?_
        show lm_wp _ 41 52 [.ref 95, .ref 10, .int 1] [.int 105, .int (tl (tkF tl ts p + 1))] (hi, hl, X) _
        refine w_icmp_eq (t := 57) rfl rfl (fun c4 => ?_) (fun c4 => ?_)
        · refine w_N 4 30 [.ref 95, .ref 10, .int 2] [.ref 10, .int 2] rfl ?_
          refine w_cc (w_vst rfl rfl rfl (Nat.le_of_ble_eq_true rfl) (Nat.le_of_ble_eq_true rfl) (tx_kd (i := 9) Q (by decide))) (tx_len (i := 9) (L := 5) Q (by decide) rfl) ?_
          show lm_wp _ 41 33 [.ref 95, .ref 10, .int 2] [.int 5, .int 2] (hi, hl, X) _
          refine w_icmp_ge_f (t := 63) rfl rfl (by decide) ?_
          refine w_N 1 37 [.ref 95, .ref 10, .int 2] [.ref 95] rfl ?_
          refine w_gr 96 rfl rfl rfl (A_k S 95 (by decide)) (A_r S 95 0 (by decide)) ?_
          refine w_N 1 41 [.ref 95, .ref 10, .int 2] [.ref 95, .ref 96] rfl ?_
          refine w_gi (v := nI (tkF tl ts p)) rfl rfl rfl (A_k S 95 (by decide)) (HP.2.2.1) ?_
          refine w_N 2 46 [.ref 95, .ref 10, .int 2] [.int ((nI (tkF tl ts p)) + 2), .ref 96] rfl ?_
          refine w_ia (tkF tl ts p + 2) (v := tl (tkF tl ts p + 2)) rfl (A_k S 96 (by decide)) (show X.2.2.1 96 = 250 from A_l S 96 (by decide)) (nI_add' _ 2) (by omega) (by decide) (HP.2.1 (tkF tl ts p + 2) (by omega)) ?_
          refine w_N 2 49 [.ref 95, .ref 10, .int 2] [.int 2, .ref 10, .int (tl (tkF tl ts p + 2))] rfl ?_
          refine w_cc (w_vst rfl rfl rfl (Nat.le_of_ble_eq_true rfl) (Nat.le_of_ble_eq_true rfl) (tx_kd (i := 9) Q (by decide))) (tx_char (i := 9) (k := 2) (c := 100) Q (by decide) (by decide) rfl) ?_
          show lm_wp _ 41 52 [.ref 95, .ref 10, .int 2] [.int 100, .int (tl (tkF tl ts p + 2))] (hi, hl, X) _
          refine w_icmp_eq (t := 57) rfl rfl (fun c5 => ?_) (fun c5 => ?_)
          · refine w_N 4 30 [.ref 95, .ref 10, .int 3] [.ref 10, .int 3] rfl ?_
            refine w_cc (w_vst rfl rfl rfl (Nat.le_of_ble_eq_true rfl) (Nat.le_of_ble_eq_true rfl) (tx_kd (i := 9) Q (by decide))) (tx_len (i := 9) (L := 5) Q (by decide) rfl) ?_
            show lm_wp _ 41 33 [.ref 95, .ref 10, .int 3] [.int 5, .int 3] (hi, hl, X) _
            refine w_icmp_ge_f (t := 63) rfl rfl (by decide) ?_
            refine w_N 1 37 [.ref 95, .ref 10, .int 3] [.ref 95] rfl ?_
            refine w_gr 96 rfl rfl rfl (A_k S 95 (by decide)) (A_r S 95 0 (by decide)) ?_
            refine w_N 1 41 [.ref 95, .ref 10, .int 3] [.ref 95, .ref 96] rfl ?_
            refine w_gi (v := nI (tkF tl ts p)) rfl rfl rfl (A_k S 95 (by decide)) (HP.2.2.1) ?_
            refine w_N 2 46 [.ref 95, .ref 10, .int 3] [.int ((nI (tkF tl ts p)) + 3), .ref 96] rfl ?_
            refine w_ia (tkF tl ts p + 3) (v := tl (tkF tl ts p + 3)) rfl (A_k S 96 (by decide)) (show X.2.2.1 96 = 250 from A_l S 96 (by decide)) (nI_add' _ 3) (by omega) (by decide) (HP.2.1 (tkF tl ts p + 3) (by omega)) ?_
            refine w_N 2 49 [.ref 95, .ref 10, .int 3] [.int 3, .ref 10, .int (tl (tkF tl ts p + 3))] rfl ?_
            refine w_cc (w_vst rfl rfl rfl (Nat.le_of_ble_eq_true rfl) (Nat.le_of_ble_eq_true rfl) (tx_kd (i := 9) Q (by decide))) (tx_char (i := 9) (k := 3) (c := 101) Q (by decide) (by decide) rfl) ?_
            show lm_wp _ 41 52 [.ref 95, .ref 10, .int 3] [.int 101, .int (tl (tkF tl ts p + 3))] (hi, hl, X) _
            refine w_icmp_eq (t := 57) rfl rfl (fun c6 => ?_) (fun c6 => ?_)
            · refine w_N 4 30 [.ref 95, .ref 10, .int 4] [.ref 10, .int 4] rfl ?_
              refine w_cc (w_vst rfl rfl rfl (Nat.le_of_ble_eq_true rfl) (Nat.le_of_ble_eq_true rfl) (tx_kd (i := 9) Q (by decide))) (tx_len (i := 9) (L := 5) Q (by decide) rfl) ?_
              show lm_wp _ 41 33 [.ref 95, .ref 10, .int 4] [.int 5, .int 4] (hi, hl, X) _
              refine w_icmp_ge_f (t := 63) rfl rfl (by decide) ?_
              refine w_N 1 37 [.ref 95, .ref 10, .int 4] [.ref 95] rfl ?_
              refine w_gr 96 rfl rfl rfl (A_k S 95 (by decide)) (A_r S 95 0 (by decide)) ?_
              refine w_N 1 41 [.ref 95, .ref 10, .int 4] [.ref 95, .ref 96] rfl ?_
              refine w_gi (v := nI (tkF tl ts p)) rfl rfl rfl (A_k S 95 (by decide)) (HP.2.2.1) ?_
              refine w_N 2 46 [.ref 95, .ref 10, .int 4] [.int ((nI (tkF tl ts p)) + 4), .ref 96] rfl ?_
              refine w_ia (tkF tl ts p + 4) (v := tl (tkF tl ts p + 4)) rfl (A_k S 96 (by decide)) (show X.2.2.1 96 = 250 from A_l S 96 (by decide)) (nI_add' _ 4) (by omega) (by decide) (HP.2.1 (tkF tl ts p + 4) (by omega)) ?_
              refine w_N 2 49 [.ref 95, .ref 10, .int 4] [.int 4, .ref 10, .int (tl (tkF tl ts p + 4))] rfl ?_
              refine w_cc (w_vst rfl rfl rfl (Nat.le_of_ble_eq_true rfl) (Nat.le_of_ble_eq_true rfl) (tx_kd (i := 9) Q (by decide))) (tx_char (i := 9) (k := 4) (c := 115) Q (by decide) (by decide) rfl) ?_
              show lm_wp _ 41 52 [.ref 95, .ref 10, .int 4] [.int 115, .int (tl (tkF tl ts p + 4))] (hi, hl, X) _
              refine w_icmp_eq (t := 57) rfl rfl (fun c7 => ?_) (fun c7 => ?_)
              · refine w_N 4 30 [.ref 95, .ref 10, .int 5] [.ref 10, .int 5] rfl ?_
                refine w_cc (w_vst rfl rfl rfl (Nat.le_of_ble_eq_true rfl) (Nat.le_of_ble_eq_true rfl) (tx_kd (i := 9) Q (by decide))) (tx_len (i := 9) (L := 5) Q (by decide) rfl) ?_
                show lm_wp _ 41 33 [.ref 95, .ref 10, .int 5] [.int 5, .int 5] (hi, hl, X) _
                refine w_icmp_ge_t (t := 63) rfl rfl (by decide) ?_
                refine w_N 1 64 [.ref 95, .ref 10, .int 5] [.int 1] rfl ?_
                refine w_rz rfl rfl (by decide) ?_
                show (some (Value.int 1), _) = _
                have e : wdq tl ts p wL9 = true := by
                  have hl : nI wL9.length = 5 := rfl
                  unfold wdq
                  rw [hl]
                  simp [chk, Nat.add_assoc, c1, c2, c3, c4, c5, c6, c7]
                rw [e]; rfl
              · refine w_N 1 56 [.ref 95, .ref 10, .int 4] [.int 0] rfl ?_
                refine w_rz rfl rfl (by decide) ?_
                show (some (Value.int 0), _) = _
                have e : wdq tl ts p wL9 = false := by
                  have hl : nI wL9.length = 5 := rfl
                  unfold wdq
                  rw [hl]
                  simp [chk, Nat.add_assoc, c1, c2, c3, c4, c5, c6, c7]
                rw [e]; rfl
            · refine w_N 1 56 [.ref 95, .ref 10, .int 3] [.int 0] rfl ?_
              refine w_rz rfl rfl (by decide) ?_
              show (some (Value.int 0), _) = _
              have e : wdq tl ts p wL9 = false := by
                have hl : nI wL9.length = 5 := rfl
                unfold wdq
                rw [hl]
                simp [chk, Nat.add_assoc, c1, c2, c3, c4, c5, c6]
              rw [e]; rfl
          · refine w_N 1 56 [.ref 95, .ref 10, .int 2] [.int 0] rfl ?_
            refine w_rz rfl rfl (by decide) ?_
            show (some (Value.int 0), _) = _
            have e : wdq tl ts p wL9 = false := by
              have hl : nI wL9.length = 5 := rfl
              unfold wdq
              rw [hl]
              simp [chk, Nat.add_assoc, c1, c2, c3, c4, c5]
            rw [e]; rfl
        · refine w_N 1 56 [.ref 95, .ref 10, .int 1] [.int 0] rfl ?_
          refine w_rz rfl rfl (by decide) ?_
          show (some (Value.int 0), _) = _
          have e : wdq tl ts p wL9 = false := by
            have hl : nI wL9.length = 5 := rfl
            unfold wdq
            rw [hl]
            simp [chk, Nat.add_assoc, c1, c2, c3, c4]
          rw [e]; rfl
      · refine w_N 1 56 [.ref 95, .ref 10, .int 0] [.int 0] rfl ?_
        refine w_rz rfl rfl (by decide) ?_
        show (some (Value.int 0), _) = _
        have e : wdq tl ts p wL9 = false := by
          have hl : nI wL9.length = 5 := rfl
          unfold wdq
          rw [hl]
          simp [chk, Nat.add_assoc, c1, c2, c3]
        rw [e]; rfl
    · refine w_N 1 25 [.ref 95, .ref 10, lm_jk] [.int 0] rfl ?_
      refine w_rz rfl rfl (by decide) ?_
      show (some (Value.int 0), _) = _
      have e : wdq tl ts p wL9 = false := by
        have hl : nI wL9.length = 5 := rfl
        unfold wdq
        rw [hl]
        simp [chk, Nat.add_assoc, c1, c2]
      rw [e]; rfl
theorem t_isWord10 {d : Nat} {hi : Nat → Nat → Int32} {hl : Nat → Nat → Int64} {X : lm_X} {ts p : Nat} {tl : Nat → Int32} (S : sh_A X) (Q : isTx hi X) (hts : ts ≤ 250) (hp : p ≤ ts) (HP : tpC tl ts hi p) : lm_c (d + 2) 41 [.ref 95, .ref 11] (hi, hl, X) (some (.int (bz (wdq tl ts p wL10))), (hi, hl, X)) := by
  refine lm_c_of (lm_w_in (Nat.le_of_ble_eq_true rfl) ?_)
  show lm_wp (d + 2) 41 0 [.ref 95, .ref 11, lm_jk] [] (hi, hl, X) _
  refine w_N 1 1 [.ref 95, .ref 11, lm_jk] [.ref 95] rfl ?_
  refine w_gi (v := tkS tl ts p) rfl rfl rfl (A_k S 95 (by decide)) (HP.2.2.2.2) ?_
  refine w_N 1 5 [.ref 95, .ref 11, lm_jk] [.int 1, .int (tkS tl ts p)] rfl ?_
  refine w_icmp_ne (t := 24) rfl rfl (fun c1 => ?_) (fun c1 => ?_)
  · refine w_N 1 25 [.ref 95, .ref 11, lm_jk] [.int 0] rfl ?_
    refine w_rz rfl rfl (by decide) ?_
    show (some (Value.int 0), _) = _
    have e : wdq tl ts p wL10 = false := by
      have hl : nI wL10.length = 5 := rfl
      unfold wdq
      rw [hl]
      simp [chk, Nat.add_assoc, c1]
    rw [e]; rfl
  · refine w_N 1 9 [.ref 95, .ref 11, lm_jk] [.ref 95] rfl ?_
    refine w_gi (v := nI (tkE tl ts p)) rfl rfl rfl (A_k S 95 (by decide)) (HP.2.2.2.1) ?_
    refine w_N 1 13 [.ref 95, .ref 11, lm_jk] [.ref 95, .int (nI (tkE tl ts p))] rfl ?_
    refine w_gi (v := nI (tkF tl ts p)) rfl rfl rfl (A_k S 95 (by decide)) (HP.2.2.1) ?_
    refine w_N 2 18 [.ref 95, .ref 11, lm_jk] [.ref 11, .int ((nI (tkE tl ts p)) - (nI (tkF tl ts p)))] rfl ?_
    refine w_cc (w_vst rfl rfl rfl (Nat.le_of_ble_eq_true rfl) (Nat.le_of_ble_eq_true rfl) (tx_kd (i := 10) Q (by decide))) (tx_len (i := 10) (L := 5) Q (by decide) rfl) ?_
    show lm_wp _ 41 21 [.ref 95, .ref 11, lm_jk] [.int 5, .int ((nI (tkE tl ts p)) - (nI (tkF tl ts p)))] (hi, hl, X) _
    refine w_icmp_eq (t := 26) rfl rfl (fun c2 => ?_) (fun c2 => ?_)
    · have hE := len_e (L := 5) hts hp (by decide) c2
      have hb := tk_b (tl := tl) hp
      refine w_N 4 30 [.ref 95, .ref 11, .int 0] [.ref 11, .int 0] rfl ?_
      refine w_cc (w_vst rfl rfl rfl (Nat.le_of_ble_eq_true rfl) (Nat.le_of_ble_eq_true rfl) (tx_kd (i := 10) Q (by decide))) (tx_len (i := 10) (L := 5) Q (by decide) rfl) ?_
      show lm_wp _ 41 33 [.ref 95, .ref 11, .int 0] [.int 5, .int 0] (hi, hl, X) _
      refine w_icmp_ge_f (t := 63) rfl rfl (by decide) ?_
      refine w_N 1 37 [.ref 95, .ref 11, .int 0] [.ref 95] rfl ?_
      refine w_gr 96 rfl rfl rfl (A_k S 95 (by decide)) (A_r S 95 0 (by decide)) ?_
      refine w_N 1 41 [.ref 95, .ref 11, .int 0] [.ref 95, .ref 96] rfl ?_
      refine w_gi (v := nI (tkF tl ts p)) rfl rfl rfl (A_k S 95 (by decide)) (HP.2.2.1) ?_
      refine w_N 2 46 [.ref 95, .ref 11, .int 0] [.int ((nI (tkF tl ts p)) + 0), .ref 96] rfl ?_
      refine w_ia (tkF tl ts p) (v := tl (tkF tl ts p)) rfl (A_k S 96 (by decide)) (show X.2.2.1 96 = 250 from A_l S 96 (by decide)) (Int32.add_zero _) (by omega) (by decide) (HP.2.1 (tkF tl ts p) (by omega)) ?_
      refine w_N 2 49 [.ref 95, .ref 11, .int 0] [.int 0, .ref 11, .int (tl (tkF tl ts p))] rfl ?_
      refine w_cc (w_vst rfl rfl rfl (Nat.le_of_ble_eq_true rfl) (Nat.le_of_ble_eq_true rfl) (tx_kd (i := 10) Q (by decide))) (tx_char (i := 10) (k := 0) (c := 108) Q (by decide) (by decide) rfl) ?_
      show lm_wp _ 41 52 [.ref 95, .ref 11, .int 0] [.int 108, .int (tl (tkF tl ts p))] (hi, hl, X) _
      refine w_icmp_eq (t := 57) rfl rfl (fun c3 => ?_) (fun c3 => ?_)
      · refine w_N 4 30 [.ref 95, .ref 11, .int 1] [.ref 11, .int 1] rfl ?_
        refine w_cc (w_vst rfl rfl rfl (Nat.le_of_ble_eq_true rfl) (Nat.le_of_ble_eq_true rfl) (tx_kd (i := 10) Q (by decide))) (tx_len (i := 10) (L := 5) Q (by decide) rfl) ?_
        show lm_wp _ 41 33 [.ref 95, .ref 11, .int 1] [.int 5, .int 1] (hi, hl, X) _
        refine w_icmp_ge_f (t := 63) rfl rfl (by decide) ?_
        refine w_N 1 37 [.ref 95, .ref 11, .int 1] [.ref 95] rfl ?_
        refine w_gr 96 rfl rfl rfl (A_k S 95 (by decide)) (A_r S 95 0 (by decide)) ?_
        refine w_N 1 41 [.ref 95, .ref 11, .int 1] [.ref 95, .ref 96] rfl ?_
        refine w_gi (v := nI (tkF tl ts p)) rfl rfl rfl (A_k S 95 (by decide)) (HP.2.2.1) ?_
        refine w_N 2 46 [.ref 95, .ref 11, .int 1] [.int ((nI (tkF tl ts p)) + 1), .ref 96] rfl ?_
        refine w_ia (tkF tl ts p + 1) (v := tl (tkF tl ts p + 1)) rfl (A_k S 96 (by decide)) (show X.2.2.1 96 = 250 from A_l S 96 (by decide)) (nI_add' _ 1) (by omega) (by decide) (HP.2.1 (tkF tl ts p + 1) (by omega)) ?_
        refine w_N 2 49 [.ref 95, .ref 11, .int 1] [.int 1, .ref 11, .int (tl (tkF tl ts p + 1))] rfl ?_
        refine w_cc (w_vst rfl rfl rfl (Nat.le_of_ble_eq_true rfl) (Nat.le_of_ble_eq_true rfl) (tx_kd (i := 10) Q (by decide))) (tx_char (i := 10) (k := 1) (c := 111) Q (by decide) (by decide) rfl) ?_
        show lm_wp _ 41 52 [.ref 95, .ref 11, .int 1] [.int 111, .int (tl (tkF tl ts p + 1))] (hi, hl, X) _
        refine w_icmp_eq (t := 57) rfl rfl (fun c4 => ?_) (fun c4 => ?_)
        · refine w_N 4 30 [.ref 95, .ref 11, .int 2] [.ref 11, .int 2] rfl ?_
          refine w_cc (w_vst rfl rfl rfl (Nat.le_of_ble_eq_true rfl) (Nat.le_of_ble_eq_true rfl) (tx_kd (i := 10) Q (by decide))) (tx_len (i := 10) (L := 5) Q (by decide) rfl) ?_
          show lm_wp _ 41 33 [.ref 95, .ref 11, .int 2] [.int 5, .int 2] (hi, hl, X) _
          refine w_icmp_ge_f (t := 63) rfl rfl (by decide) ?_
          refine w_N 1 37 [.ref 95, .ref 11, .int 2] [.ref 95] rfl ?_
          refine w_gr 96 rfl rfl rfl (A_k S 95 (by decide)) (A_r S 95 0 (by decide)) ?_
          refine w_N 1 41 [.ref 95, .ref 11, .int 2] [.ref 95, .ref 96] rfl ?_
          refine w_gi (v := nI (tkF tl ts p)) rfl rfl rfl (A_k S 95 (by decide)) (HP.2.2.1) ?_
          refine w_N 2 46 [.ref 95, .ref 11, .int 2] [.int ((nI (tkF tl ts p)) + 2), .ref 96] rfl ?_
          refine w_ia (tkF tl ts p + 2) (v := tl (tkF tl ts p + 2)) rfl (A_k S 96 (by decide)) (show X.2.2.1 96 = 250 from A_l S 96 (by decide)) (nI_add' _ 2) (by omega) (by decide) (HP.2.1 (tkF tl ts p + 2) (by omega)) ?_
          refine w_N 2 49 [.ref 95, .ref 11, .int 2] [.int 2, .ref 11, .int (tl (tkF tl ts p + 2))] rfl ?_
          refine w_cc (w_vst rfl rfl rfl (Nat.le_of_ble_eq_true rfl) (Nat.le_of_ble_eq_true rfl) (tx_kd (i := 10) Q (by decide))) (tx_char (i := 10) (k := 2) (c := 99) Q (by decide) (by decide) rfl) ?_
          show lm_wp _ 41 52 [.ref 95, .ref 11, .int 2] [.int 99, .int (tl (tkF tl ts p + 2))] (hi, hl, X) _
          refine w_icmp_eq (t := 57) rfl rfl (fun c5 => ?_) (fun c5 => ?_)
          · refine w_N 4 30 [.ref 95, .ref 11, .int 3] [.ref 11, .int 3] rfl ?_
            refine w_cc (w_vst rfl rfl rfl (Nat.le_of_ble_eq_true rfl) (Nat.le_of_ble_eq_true rfl) (tx_kd (i := 10) Q (by decide))) (tx_len (i := 10) (L := 5) Q (by decide) rfl) ?_
            show lm_wp _ 41 33 [.ref 95, .ref 11, .int 3] [.int 5, .int 3] (hi, hl, X) _
            refine w_icmp_ge_f (t := 63) rfl rfl (by decide) ?_
            refine w_N 1 37 [.ref 95, .ref 11, .int 3] [.ref 95] rfl ?_
            refine w_gr 96 rfl rfl rfl (A_k S 95 (by decide)) (A_r S 95 0 (by decide)) ?_
            refine w_N 1 41 [.ref 95, .ref 11, .int 3] [.ref 95, .ref 96] rfl ?_
            refine w_gi (v := nI (tkF tl ts p)) rfl rfl rfl (A_k S 95 (by decide)) (HP.2.2.1) ?_
            refine w_N 2 46 [.ref 95, .ref 11, .int 3] [.int ((nI (tkF tl ts p)) + 3), .ref 96] rfl ?_
            refine w_ia (tkF tl ts p + 3) (v := tl (tkF tl ts p + 3)) rfl (A_k S 96 (by decide)) (show X.2.2.1 96 = 250 from A_l S 96 (by decide)) (nI_add' _ 3) (by omega) (by decide) (HP.2.1 (tkF tl ts p + 3) (by omega)) ?_
            refine w_N 2 49 [.ref 95, .ref 11, .int 3] [.int 3, .ref 11, .int (tl (tkF tl ts p + 3))] rfl ?_
            refine w_cc (w_vst rfl rfl rfl (Nat.le_of_ble_eq_true rfl) (Nat.le_of_ble_eq_true rfl) (tx_kd (i := 10) Q (by decide))) (tx_char (i := 10) (k := 3) (c := 107) Q (by decide) (by decide) rfl) ?_
            show lm_wp _ 41 52 [.ref 95, .ref 11, .int 3] [.int 107, .int (tl (tkF tl ts p + 3))] (hi, hl, X) _
            refine w_icmp_eq (t := 57) rfl rfl (fun c6 => ?_) (fun c6 => ?_)
            · refine w_N 4 30 [.ref 95, .ref 11, .int 4] [.ref 11, .int 4] rfl ?_
              refine w_cc (w_vst rfl rfl rfl (Nat.le_of_ble_eq_true rfl) (Nat.le_of_ble_eq_true rfl) (tx_kd (i := 10) Q (by decide))) (tx_len (i := 10) (L := 5) Q (by decide) rfl) ?_
              show lm_wp _ 41 33 [.ref 95, .ref 11, .int 4] [.int 5, .int 4] (hi, hl, X) _
              refine w_icmp_ge_f (t := 63) rfl rfl (by decide) ?_
              refine w_N 1 37 [.ref 95, .ref 11, .int 4] [.ref 95] rfl ?_
              refine w_gr 96 rfl rfl rfl (A_k S 95 (by decide)) (A_r S 95 0 (by decide)) ?_
              refine w_N 1 41 [.ref 95, .ref 11, .int 4] [.ref 95, .ref 96] rfl ?_
              refine w_gi (v := nI (tkF tl ts p)) rfl rfl rfl (A_k S 95 (by decide)) (HP.2.2.1) ?_
              refine w_N 2 46 [.ref 95, .ref 11, .int 4] [.int ((nI (tkF tl ts p)) + 4), .ref 96] rfl ?_
              refine w_ia (tkF tl ts p + 4) (v := tl (tkF tl ts p + 4)) rfl (A_k S 96 (by decide)) (show X.2.2.1 96 = 250 from A_l S 96 (by decide)) (nI_add' _ 4) (by omega) (by decide) (HP.2.1 (tkF tl ts p + 4) (by omega)) ?_
              refine w_N 2 49 [.ref 95, .ref 11, .int 4] [.int 4, .ref 11, .int (tl (tkF tl ts p + 4))] rfl ?_
              refine w_cc (w_vst rfl rfl rfl (Nat.le_of_ble_eq_true rfl) (Nat.le_of_ble_eq_true rfl) (tx_kd (i := 10) Q (by decide))) (tx_char (i := 10) (k := 4) (c := 115) Q (by decide) (by decide) rfl) ?_
              show lm_wp _ 41 52 [.ref 95, .ref 11, .int 4] [.int 115, .int (tl (tkF tl ts p + 4))] (hi, hl, X) _
              refine w_icmp_eq (t := 57) rfl rfl (fun c7 => ?_) (fun c7 => ?_)
              · refine w_N 4 30 [.ref 95, .ref 11, .int 5] [.ref 11, .int 5] rfl ?_
                refine w_cc (w_vst rfl rfl rfl (Nat.le_of_ble_eq_true rfl) (Nat.le_of_ble_eq_true rfl) (tx_kd (i := 10) Q (by decide))) (tx_len (i := 10) (L := 5) Q (by decide) rfl) ?_
                show lm_wp _ 41 33 [.ref 95, .ref 11, .int 5] [.int 5, .int 5] (hi, hl, X) _
                refine w_icmp_ge_t (t := 63) rfl rfl (by decide) ?_
                refine w_N 1 64 [.ref 95, .ref 11, .int 5] [.int 1] rfl ?_
                refine w_rz rfl rfl (by decide) ?_
                show (some (Value.int 1), _) = _
                have e : wdq tl ts p wL10 = true := by
                  have hl : nI wL10.length = 5 := rfl
                  unfold wdq
                  rw [hl]
                  simp [chk, Nat.add_assoc, c1, c2, c3, c4, c5, c6, c7]
                rw [e]; rfl
              · refine w_N 1 56 [.ref 95, .ref 11, .int 4] [.int 0] rfl ?_
                refine w_rz rfl rfl (by decide) ?_
                show (some (Value.int 0), _) = _
                have e : wdq tl ts p wL10 = false := by
                  have hl : nI wL10.length = 5 := rfl
                  unfold wdq
                  rw [hl]
                  simp [chk, Nat.add_assoc, c1, c2, c3, c4, c5, c6, c7]
                rw [e]; rfl
            · refine w_N 1 56 [.ref 95, .ref 11, .int 3] [.int 0] rfl ?_
              refine w_rz rfl rfl (by decide) ?_
              show (some (Value.int 0), _) = _
              have e : wdq tl ts p wL10 = false := by
                have hl : nI wL10.length = 5 := rfl
                unfold wdq
                rw [hl]
                simp [chk, Nat.add_assoc, c1, c2, c3, c4, c5, c6]
              rw [e]; rfl
          · refine w_N 1 56 [.ref 95, .ref 11, .int 2] [.int 0] rfl ?_
            refine w_rz rfl rfl (by decide) ?_
            show (some (Value.int 0), _) = _
            have e : wdq tl ts p wL10 = false := by
              have hl : nI wL10.length = 5 := rfl
              unfold wdq
              rw [hl]
              simp [chk, Nat.add_assoc, c1, c2, c3, c4, c5]
            rw [e]; rfl
        · refine w_N 1 56 [.ref 95, .ref 11, .int 1] [.int 0] rfl ?_
          refine w_rz rfl rfl (by decide) ?_
          show (some (Value.int 0), _) = _
          have e : wdq tl ts p wL10 = false := by
            have hl : nI wL10.length = 5 := rfl
            unfold wdq
            rw [hl]
            simp [chk, Nat.add_assoc, c1, c2, c3, c4]
          rw [e]; rfl
      · refine w_N 1 56 [.ref 95, .ref 11, .int 0] [.int 0] rfl ?_
        refine w_rz rfl rfl (by decide) ?_
        show (some (Value.int 0), _) = _
        have e : wdq tl ts p wL10 = false := by
          have hl : nI wL10.length = 5 := rfl
          unfold wdq
          rw [hl]
          simp [chk, Nat.add_assoc, c1, c2, c3]
        rw [e]; rfl
    · refine w_N 1 25 [.ref 95, .ref 11, lm_jk] [.int 0] rfl ?_
      refine w_rz rfl rfl (by decide) ?_
      show (some (Value.int 0), _) = _
      have e : wdq tl ts p wL10 = false := by
        have hl : nI wL10.length = 5 := rfl
        unfold wdq
        rw [hl]
        simp [chk, Nat.add_assoc, c1, c2]
      rw [e]; rfl
theorem m_isWord0 {d : Nat} {hi : Nat → Nat → Int32} {hl : Nat → Nat → Int64} {X : lm_X} {ts p : Nat} {tl : Nat → Int32} (S : sh_M X 123) (Q : isTx hi X) (hts : ts ≤ 250) (hp : p ≤ ts) (HP : tpM tl ts hi p) : lm_c (d + 2) 161 [.ref 123, .ref 12] (hi, hl, X) (some (.int (bz (wdq tl ts p wL0))), (hi, hl, X)) := by
  refine lm_c_of (lm_w_in (Nat.le_of_ble_eq_true rfl) ?_)
  show lm_wp (d + 2) 161 0 [.ref 123, .ref 12, lm_jk] [] (hi, hl, X) _
  refine w_N 1 1 [.ref 123, .ref 12, lm_jk] [.ref 123] rfl ?_
  refine w_gi (v := tkS tl ts p) rfl rfl rfl (M_kd S) (HP.2.2.2.2.1) ?_
  refine w_N 1 5 [.ref 123, .ref 12, lm_jk] [.int 1, .int (tkS tl ts p)] rfl ?_
  refine w_icmp_ne (t := 24) rfl rfl (fun c1 => ?_) (fun c1 => ?_)
  · refine w_N 1 25 [.ref 123, .ref 12, lm_jk] [.int 0] rfl ?_
    refine w_rz rfl rfl (by decide) ?_
    show (some (Value.int 0), _) = _
    have e : wdq tl ts p wL0 = false := by
      have hl : nI wL0.length = 3 := rfl
      unfold wdq
      rw [hl]
      simp [chk, Nat.add_assoc, c1]
    rw [e]; rfl
  · refine w_N 1 9 [.ref 123, .ref 12, lm_jk] [.ref 123] rfl ?_
    refine w_gi (v := nI (tkE tl ts p)) rfl rfl rfl (M_kd S) (HP.2.2.2.1) ?_
    refine w_N 1 13 [.ref 123, .ref 12, lm_jk] [.ref 123, .int (nI (tkE tl ts p))] rfl ?_
    refine w_gi (v := nI (tkF tl ts p)) rfl rfl rfl (M_kd S) (HP.2.2.1) ?_
    refine w_N 2 18 [.ref 123, .ref 12, lm_jk] [.ref 12, .int ((nI (tkE tl ts p)) - (nI (tkF tl ts p)))] rfl ?_
    refine w_cc (w_vst rfl rfl rfl (Nat.le_of_ble_eq_true rfl) (Nat.le_of_ble_eq_true rfl) (tx_kd (i := 11) Q (by decide))) (tx_len (i := 11) (L := 3) Q (by decide) rfl) ?_
    show lm_wp _ 161 21 [.ref 123, .ref 12, lm_jk] [.int 3, .int ((nI (tkE tl ts p)) - (nI (tkF tl ts p)))] (hi, hl, X) _
    refine w_icmp_eq (t := 26) rfl rfl (fun c2 => ?_) (fun c2 => ?_)
    · have hE := len_e (L := 3) hts hp (by decide) c2
      have hb := tk_b (tl := tl) hp
      refine w_N 4 30 [.ref 123, .ref 12, .int 0] [.ref 12, .int 0] rfl ?_
      refine w_cc (w_vst rfl rfl rfl (Nat.le_of_ble_eq_true rfl) (Nat.le_of_ble_eq_true rfl) (tx_kd (i := 11) Q (by decide))) (tx_len (i := 11) (L := 3) Q (by decide) rfl) ?_
      show lm_wp _ 161 33 [.ref 123, .ref 12, .int 0] [.int 3, .int 0] (hi, hl, X) _
      refine w_icmp_ge_f (t := 63) rfl rfl (by decide) ?_
      refine w_N 1 37 [.ref 123, .ref 12, .int 0] [.ref 123] rfl ?_
      refine w_gr 139 rfl rfl rfl (M_kd S) (M_r S (k := 7) (o := 16) rfl) ?_
      refine w_N 1 41 [.ref 123, .ref 12, .int 0] [.ref 123, .ref 139] rfl ?_
      refine w_gi (v := nI (tkF tl ts p)) rfl rfl rfl (M_kd S) (HP.2.2.1) ?_
      refine w_N 2 46 [.ref 123, .ref 12, .int 0] [.int ((nI (tkF tl ts p)) + 0), .ref 139] rfl ?_
      refine w_ia (tkF tl ts p) (v := tl (tkF tl ts p)) rfl (show X.2.1 (139) = 1 from M_k S 16 (by decide)) (show X.2.2.1 (139) = 250 from M_l S 16 (by decide)) (Int32.add_zero _) (by omega) (by decide) (HP.2.1 (tkF tl ts p) (by omega)) ?_
      refine w_N 2 49 [.ref 123, .ref 12, .int 0] [.int 0, .ref 12, .int (tl (tkF tl ts p))] rfl ?_
      refine w_cc (w_vst rfl rfl rfl (Nat.le_of_ble_eq_true rfl) (Nat.le_of_ble_eq_true rfl) (tx_kd (i := 11) Q (by decide))) (tx_char (i := 11) (k := 0) (c := 97) Q (by decide) (by decide) rfl) ?_
      show lm_wp _ 161 52 [.ref 123, .ref 12, .int 0] [.int 97, .int (tl (tkF tl ts p))] (hi, hl, X) _
      refine w_icmp_eq (t := 57) rfl rfl (fun c3 => ?_) (fun c3 => ?_)
      · refine w_N 4 30 [.ref 123, .ref 12, .int 1] [.ref 12, .int 1] rfl ?_
        refine w_cc (w_vst rfl rfl rfl (Nat.le_of_ble_eq_true rfl) (Nat.le_of_ble_eq_true rfl) (tx_kd (i := 11) Q (by decide))) (tx_len (i := 11) (L := 3) Q (by decide) rfl) ?_
        show lm_wp _ 161 33 [.ref 123, .ref 12, .int 1] [.int 3, .int 1] (hi, hl, X) _
        refine w_icmp_ge_f (t := 63) rfl rfl (by decide) ?_
        refine w_N 1 37 [.ref 123, .ref 12, .int 1] [.ref 123] rfl ?_
        refine w_gr 139 rfl rfl rfl (M_kd S) (M_r S (k := 7) (o := 16) rfl) ?_
        refine w_N 1 41 [.ref 123, .ref 12, .int 1] [.ref 123, .ref 139] rfl ?_
        refine w_gi (v := nI (tkF tl ts p)) rfl rfl rfl (M_kd S) (HP.2.2.1) ?_
        refine w_N 2 46 [.ref 123, .ref 12, .int 1] [.int ((nI (tkF tl ts p)) + 1), .ref 139] rfl ?_
        refine w_ia (tkF tl ts p + 1) (v := tl (tkF tl ts p + 1)) rfl (show X.2.1 (139) = 1 from M_k S 16 (by decide)) (show X.2.2.1 (139) = 250 from M_l S 16 (by decide)) (nI_add' _ 1) (by omega) (by decide) (HP.2.1 (tkF tl ts p + 1) (by omega)) ?_
        refine w_N 2 49 [.ref 123, .ref 12, .int 1] [.int 1, .ref 12, .int (tl (tkF tl ts p + 1))] rfl ?_
        refine w_cc (w_vst rfl rfl rfl (Nat.le_of_ble_eq_true rfl) (Nat.le_of_ble_eq_true rfl) (tx_kd (i := 11) Q (by decide))) (tx_char (i := 11) (k := 1) (c := 99) Q (by decide) (by decide) rfl) ?_
        show lm_wp _ 161 52 [.ref 123, .ref 12, .int 1] [.int 99, .int (tl (tkF tl ts p + 1))] (hi, hl, X) _
        refine w_icmp_eq (t := 57) rfl rfl (fun c4 => ?_) (fun c4 => ?_)
        · refine w_N 4 30 [.ref 123, .ref 12, .int 2] [.ref 12, .int 2] rfl ?_
          refine w_cc (w_vst rfl rfl rfl (Nat.le_of_ble_eq_true rfl) (Nat.le_of_ble_eq_true rfl) (tx_kd (i := 11) Q (by decide))) (tx_len (i := 11) (L := 3) Q (by decide) rfl) ?_
          show lm_wp _ 161 33 [.ref 123, .ref 12, .int 2] [.int 3, .int 2] (hi, hl, X) _
          refine w_icmp_ge_f (t := 63) rfl rfl (by decide) ?_
          refine w_N 1 37 [.ref 123, .ref 12, .int 2] [.ref 123] rfl ?_
          refine w_gr 139 rfl rfl rfl (M_kd S) (M_r S (k := 7) (o := 16) rfl) ?_
          refine w_N 1 41 [.ref 123, .ref 12, .int 2] [.ref 123, .ref 139] rfl ?_
          refine w_gi (v := nI (tkF tl ts p)) rfl rfl rfl (M_kd S) (HP.2.2.1) ?_
          refine w_N 2 46 [.ref 123, .ref 12, .int 2] [.int ((nI (tkF tl ts p)) + 2), .ref 139] rfl ?_
          refine w_ia (tkF tl ts p + 2) (v := tl (tkF tl ts p + 2)) rfl (show X.2.1 (139) = 1 from M_k S 16 (by decide)) (show X.2.2.1 (139) = 250 from M_l S 16 (by decide)) (nI_add' _ 2) (by omega) (by decide) (HP.2.1 (tkF tl ts p + 2) (by omega)) ?_
          refine w_N 2 49 [.ref 123, .ref 12, .int 2] [.int 2, .ref 12, .int (tl (tkF tl ts p + 2))] rfl ?_
          refine w_cc (w_vst rfl rfl rfl (Nat.le_of_ble_eq_true rfl) (Nat.le_of_ble_eq_true rfl) (tx_kd (i := 11) Q (by decide))) (tx_char (i := 11) (k := 2) (c := 116) Q (by decide) (by decide) rfl) ?_
          show lm_wp _ 161 52 [.ref 123, .ref 12, .int 2] [.int 116, .int (tl (tkF tl ts p + 2))] (hi, hl, X) _
          refine w_icmp_eq (t := 57) rfl rfl (fun c5 => ?_) (fun c5 => ?_)
          · refine w_N 4 30 [.ref 123, .ref 12, .int 3] [.ref 12, .int 3] rfl ?_
            refine w_cc (w_vst rfl rfl rfl (Nat.le_of_ble_eq_true rfl) (Nat.le_of_ble_eq_true rfl) (tx_kd (i := 11) Q (by decide))) (tx_len (i := 11) (L := 3) Q (by decide) rfl) ?_
            show lm_wp _ 161 33 [.ref 123, .ref 12, .int 3] [.int 3, .int 3] (hi, hl, X) _
            refine w_icmp_ge_t (t := 63) rfl rfl (by decide) ?_
            refine w_N 1 64 [.ref 123, .ref 12, .int 3] [.int 1] rfl ?_
            refine w_rz rfl rfl (by decide) ?_
            show (some (Value.int 1), _) = _
            have e : wdq tl ts p wL0 = true := by
              have hl : nI wL0.length = 3 := rfl
              unfold wdq
              rw [hl]
              simp [chk, Nat.add_assoc, c1, c2, c3, c4, c5]
            rw [e]; rfl
          · refine w_N 1 56 [.ref 123, .ref 12, .int 2] [.int 0] rfl ?_
            refine w_rz rfl rfl (by decide) ?_
            show (some (Value.int 0), _) = _
            have e : wdq tl ts p wL0 = false := by
              have hl : nI wL0.length = 3 := rfl
              unfold wdq
              rw [hl]
              simp [chk, Nat.add_assoc, c1, c2, c3, c4, c5]
            rw [e]; rfl
        · refine w_N 1 56 [.ref 123, .ref 12, .int 1] [.int 0] rfl ?_
          refine w_rz rfl rfl (by decide) ?_
          show (some (Value.int 0), _) = _
          have e : wdq tl ts p wL0 = false := by
            have hl : nI wL0.length = 3 := rfl
            unfold wdq
            rw [hl]
            simp [chk, Nat.add_assoc, c1, c2, c3, c4]
          rw [e]; rfl
      · refine w_N 1 56 [.ref 123, .ref 12, .int 0] [.int 0] rfl ?_
        refine w_rz rfl rfl (by decide) ?_
        show (some (Value.int 0), _) = _
        have e : wdq tl ts p wL0 = false := by
          have hl : nI wL0.length = 3 := rfl
          unfold wdq
          rw [hl]
          simp [chk, Nat.add_assoc, c1, c2, c3]
        rw [e]; rfl
    · refine w_N 1 25 [.ref 123, .ref 12, lm_jk] [.int 0] rfl ?_
      refine w_rz rfl rfl (by decide) ?_
      show (some (Value.int 0), _) = _
      have e : wdq tl ts p wL0 = false := by
        have hl : nI wL0.length = 3 := rfl
        unfold wdq
        rw [hl]
        simp [chk, Nat.add_assoc, c1, c2]
      rw [e]; rfl
theorem m_isWord1 {d : Nat} {hi : Nat → Nat → Int32} {hl : Nat → Nat → Int64} {X : lm_X} {ts p : Nat} {tl : Nat → Int32} (S : sh_M X 123) (Q : isTx hi X) (hts : ts ≤ 250) (hp : p ≤ ts) (HP : tpM tl ts hi p) : lm_c (d + 2) 161 [.ref 123, .ref 13] (hi, hl, X) (some (.int (bz (wdq tl ts p wL1))), (hi, hl, X)) := by
  refine lm_c_of (lm_w_in (Nat.le_of_ble_eq_true rfl) ?_)
  show lm_wp (d + 2) 161 0 [.ref 123, .ref 13, lm_jk] [] (hi, hl, X) _
  refine w_N 1 1 [.ref 123, .ref 13, lm_jk] [.ref 123] rfl ?_
  refine w_gi (v := tkS tl ts p) rfl rfl rfl (M_kd S) (HP.2.2.2.2.1) ?_
  refine w_N 1 5 [.ref 123, .ref 13, lm_jk] [.int 1, .int (tkS tl ts p)] rfl ?_
  refine w_icmp_ne (t := 24) rfl rfl (fun c1 => ?_) (fun c1 => ?_)
  · refine w_N 1 25 [.ref 123, .ref 13, lm_jk] [.int 0] rfl ?_
    refine w_rz rfl rfl (by decide) ?_
    show (some (Value.int 0), _) = _
    have e : wdq tl ts p wL1 = false := by
      have hl : nI wL1.length = 4 := rfl
      unfold wdq
      rw [hl]
      simp [chk, Nat.add_assoc, c1]
    rw [e]; rfl
  · refine w_N 1 9 [.ref 123, .ref 13, lm_jk] [.ref 123] rfl ?_
    refine w_gi (v := nI (tkE tl ts p)) rfl rfl rfl (M_kd S) (HP.2.2.2.1) ?_
    refine w_N 1 13 [.ref 123, .ref 13, lm_jk] [.ref 123, .int (nI (tkE tl ts p))] rfl ?_
    refine w_gi (v := nI (tkF tl ts p)) rfl rfl rfl (M_kd S) (HP.2.2.1) ?_
    refine w_N 2 18 [.ref 123, .ref 13, lm_jk] [.ref 13, .int ((nI (tkE tl ts p)) - (nI (tkF tl ts p)))] rfl ?_
    refine w_cc (w_vst rfl rfl rfl (Nat.le_of_ble_eq_true rfl) (Nat.le_of_ble_eq_true rfl) (tx_kd (i := 12) Q (by decide))) (tx_len (i := 12) (L := 4) Q (by decide) rfl) ?_
    show lm_wp _ 161 21 [.ref 123, .ref 13, lm_jk] [.int 4, .int ((nI (tkE tl ts p)) - (nI (tkF tl ts p)))] (hi, hl, X) _
    refine w_icmp_eq (t := 26) rfl rfl (fun c2 => ?_) (fun c2 => ?_)
    · have hE := len_e (L := 4) hts hp (by decide) c2
      have hb := tk_b (tl := tl) hp
      refine w_N 4 30 [.ref 123, .ref 13, .int 0] [.ref 13, .int 0] rfl ?_
      refine w_cc (w_vst rfl rfl rfl (Nat.le_of_ble_eq_true rfl) (Nat.le_of_ble_eq_true rfl) (tx_kd (i := 12) Q (by decide))) (tx_len (i := 12) (L := 4) Q (by decide) rfl) ?_
      show lm_wp _ 161 33 [.ref 123, .ref 13, .int 0] [.int 4, .int 0] (hi, hl, X) _
      refine w_icmp_ge_f (t := 63) rfl rfl (by decide) ?_
      refine w_N 1 37 [.ref 123, .ref 13, .int 0] [.ref 123] rfl ?_
      refine w_gr 139 rfl rfl rfl (M_kd S) (M_r S (k := 7) (o := 16) rfl) ?_
      refine w_N 1 41 [.ref 123, .ref 13, .int 0] [.ref 123, .ref 139] rfl ?_
      refine w_gi (v := nI (tkF tl ts p)) rfl rfl rfl (M_kd S) (HP.2.2.1) ?_
      refine w_N 2 46 [.ref 123, .ref 13, .int 0] [.int ((nI (tkF tl ts p)) + 0), .ref 139] rfl ?_
      refine w_ia (tkF tl ts p) (v := tl (tkF tl ts p)) rfl (show X.2.1 (139) = 1 from M_k S 16 (by decide)) (show X.2.2.1 (139) = 250 from M_l S 16 (by decide)) (Int32.add_zero _) (by omega) (by decide) (HP.2.1 (tkF tl ts p) (by omega)) ?_
      refine w_N 2 49 [.ref 123, .ref 13, .int 0] [.int 0, .ref 13, .int (tl (tkF tl ts p))] rfl ?_
      refine w_cc (w_vst rfl rfl rfl (Nat.le_of_ble_eq_true rfl) (Nat.le_of_ble_eq_true rfl) (tx_kd (i := 12) Q (by decide))) (tx_char (i := 12) (k := 0) (c := 110) Q (by decide) (by decide) rfl) ?_
      show lm_wp _ 161 52 [.ref 123, .ref 13, .int 0] [.int 110, .int (tl (tkF tl ts p))] (hi, hl, X) _
      refine w_icmp_eq (t := 57) rfl rfl (fun c3 => ?_) (fun c3 => ?_)
      · refine w_N 4 30 [.ref 123, .ref 13, .int 1] [.ref 13, .int 1] rfl ?_
        refine w_cc (w_vst rfl rfl rfl (Nat.le_of_ble_eq_true rfl) (Nat.le_of_ble_eq_true rfl) (tx_kd (i := 12) Q (by decide))) (tx_len (i := 12) (L := 4) Q (by decide) rfl) ?_
        show lm_wp _ 161 33 [.ref 123, .ref 13, .int 1] [.int 4, .int 1] (hi, hl, X) _
        refine w_icmp_ge_f (t := 63) rfl rfl (by decide) ?_
        refine w_N 1 37 [.ref 123, .ref 13, .int 1] [.ref 123] rfl ?_
        refine w_gr 139 rfl rfl rfl (M_kd S) (M_r S (k := 7) (o := 16) rfl) ?_
        refine w_N 1 41 [.ref 123, .ref 13, .int 1] [.ref 123, .ref 139] rfl ?_
        refine w_gi (v := nI (tkF tl ts p)) rfl rfl rfl (M_kd S) (HP.2.2.1) ?_
        refine w_N 2 46 [.ref 123, .ref 13, .int 1] [.int ((nI (tkF tl ts p)) + 1), .ref 139] rfl ?_
        refine w_ia (tkF tl ts p + 1) (v := tl (tkF tl ts p + 1)) rfl (show X.2.1 (139) = 1 from M_k S 16 (by decide)) (show X.2.2.1 (139) = 250 from M_l S 16 (by decide)) (nI_add' _ 1) (by omega) (by decide) (HP.2.1 (tkF tl ts p + 1) (by omega)) ?_
        refine w_N 2 49 [.ref 123, .ref 13, .int 1] [.int 1, .ref 13, .int (tl (tkF tl ts p + 1))] rfl ?_
        refine w_cc (w_vst rfl rfl rfl (Nat.le_of_ble_eq_true rfl) (Nat.le_of_ble_eq_true rfl) (tx_kd (i := 12) Q (by decide))) (tx_char (i := 12) (k := 1) (c := 101) Q (by decide) (by decide) rfl) ?_
        show lm_wp _ 161 52 [.ref 123, .ref 13, .int 1] [.int 101, .int (tl (tkF tl ts p + 1))] (hi, hl, X) _
        refine w_icmp_eq (t := 57) rfl rfl (fun c4 => ?_) (fun c4 => ?_)
        · refine w_N 4 30 [.ref 123, .ref 13, .int 2] [.ref 13, .int 2] rfl ?_
          refine w_cc (w_vst rfl rfl rfl (Nat.le_of_ble_eq_true rfl) (Nat.le_of_ble_eq_true rfl) (tx_kd (i := 12) Q (by decide))) (tx_len (i := 12) (L := 4) Q (by decide) rfl) ?_
          show lm_wp _ 161 33 [.ref 123, .ref 13, .int 2] [.int 4, .int 2] (hi, hl, X) _
          refine w_icmp_ge_f (t := 63) rfl rfl (by decide) ?_
          refine w_N 1 37 [.ref 123, .ref 13, .int 2] [.ref 123] rfl ?_
          refine w_gr 139 rfl rfl rfl (M_kd S) (M_r S (k := 7) (o := 16) rfl) ?_
          refine w_N 1 41 [.ref 123, .ref 13, .int 2] [.ref 123, .ref 139] rfl ?_
          refine w_gi (v := nI (tkF tl ts p)) rfl rfl rfl (M_kd S) (HP.2.2.1) ?_
          refine w_N 2 46 [.ref 123, .ref 13, .int 2] [.int ((nI (tkF tl ts p)) + 2), .ref 139] rfl ?_
          refine w_ia (tkF tl ts p + 2) (v := tl (tkF tl ts p + 2)) rfl (show X.2.1 (139) = 1 from M_k S 16 (by decide)) (show X.2.2.1 (139) = 250 from M_l S 16 (by decide)) (nI_add' _ 2) (by omega) (by decide) (HP.2.1 (tkF tl ts p + 2) (by omega)) ?_
          refine w_N 2 49 [.ref 123, .ref 13, .int 2] [.int 2, .ref 13, .int (tl (tkF tl ts p + 2))] rfl ?_
          refine w_cc (w_vst rfl rfl rfl (Nat.le_of_ble_eq_true rfl) (Nat.le_of_ble_eq_true rfl) (tx_kd (i := 12) Q (by decide))) (tx_char (i := 12) (k := 2) (c := 101) Q (by decide) (by decide) rfl) ?_
          show lm_wp _ 161 52 [.ref 123, .ref 13, .int 2] [.int 101, .int (tl (tkF tl ts p + 2))] (hi, hl, X) _
          refine w_icmp_eq (t := 57) rfl rfl (fun c5 => ?_) (fun c5 => ?_)
          · refine w_N 4 30 [.ref 123, .ref 13, .int 3] [.ref 13, .int 3] rfl ?_
            refine w_cc (w_vst rfl rfl rfl (Nat.le_of_ble_eq_true rfl) (Nat.le_of_ble_eq_true rfl) (tx_kd (i := 12) Q (by decide))) (tx_len (i := 12) (L := 4) Q (by decide) rfl) ?_
            show lm_wp _ 161 33 [.ref 123, .ref 13, .int 3] [.int 4, .int 3] (hi, hl, X) _
            refine w_icmp_ge_f (t := 63) rfl rfl (by decide) ?_
            refine w_N 1 37 [.ref 123, .ref 13, .int 3] [.ref 123] rfl ?_
            refine w_gr 139 rfl rfl rfl (M_kd S) (M_r S (k := 7) (o := 16) rfl) ?_
            refine w_N 1 41 [.ref 123, .ref 13, .int 3] [.ref 123, .ref 139] rfl ?_
            refine w_gi (v := nI (tkF tl ts p)) rfl rfl rfl (M_kd S) (HP.2.2.1) ?_
            refine w_N 2 46 [.ref 123, .ref 13, .int 3] [.int ((nI (tkF tl ts p)) + 3), .ref 139] rfl ?_
            refine w_ia (tkF tl ts p + 3) (v := tl (tkF tl ts p + 3)) rfl (show X.2.1 (139) = 1 from M_k S 16 (by decide)) (show X.2.2.1 (139) = 250 from M_l S 16 (by decide)) (nI_add' _ 3) (by omega) (by decide) (HP.2.1 (tkF tl ts p + 3) (by omega)) ?_
            refine w_N 2 49 [.ref 123, .ref 13, .int 3] [.int 3, .ref 13, .int (tl (tkF tl ts p + 3))] rfl ?_
            refine w_cc (w_vst rfl rfl rfl (Nat.le_of_ble_eq_true rfl) (Nat.le_of_ble_eq_true rfl) (tx_kd (i := 12) Q (by decide))) (tx_char (i := 12) (k := 3) (c := 100) Q (by decide) (by decide) rfl) ?_
            show lm_wp _ 161 52 [.ref 123, .ref 13, .int 3] [.int 100, .int (tl (tkF tl ts p + 3))] (hi, hl, X) _
            refine w_icmp_eq (t := 57) rfl rfl (fun c6 => ?_) (fun c6 => ?_)
            · refine w_N 4 30 [.ref 123, .ref 13, .int 4] [.ref 13, .int 4] rfl ?_
              refine w_cc (w_vst rfl rfl rfl (Nat.le_of_ble_eq_true rfl) (Nat.le_of_ble_eq_true rfl) (tx_kd (i := 12) Q (by decide))) (tx_len (i := 12) (L := 4) Q (by decide) rfl) ?_
              show lm_wp _ 161 33 [.ref 123, .ref 13, .int 4] [.int 4, .int 4] (hi, hl, X) _
              refine w_icmp_ge_t (t := 63) rfl rfl (by decide) ?_
              refine w_N 1 64 [.ref 123, .ref 13, .int 4] [.int 1] rfl ?_
              refine w_rz rfl rfl (by decide) ?_
              show (some (Value.int 1), _) = _
              have e : wdq tl ts p wL1 = true := by
                have hl : nI wL1.length = 4 := rfl
                unfold wdq
                rw [hl]
                simp [chk, Nat.add_assoc, c1, c2, c3, c4, c5, c6]
              rw [e]; rfl
            · refine w_N 1 56 [.ref 123, .ref 13, .int 3] [.int 0] rfl ?_
              refine w_rz rfl rfl (by decide) ?_
              show (some (Value.int 0), _) = _
              have e : wdq tl ts p wL1 = false := by
                have hl : nI wL1.length = 4 := rfl
                unfold wdq
                rw [hl]
                simp [chk, Nat.add_assoc, c1, c2, c3, c4, c5, c6]
              rw [e]; rfl
          · refine w_N 1 56 [.ref 123, .ref 13, .int 2] [.int 0] rfl ?_
            refine w_rz rfl rfl (by decide) ?_
            show (some (Value.int 0), _) = _
            have e : wdq tl ts p wL1 = false := by
              have hl : nI wL1.length = 4 := rfl
              unfold wdq
              rw [hl]
              simp [chk, Nat.add_assoc, c1, c2, c3, c4, c5]
            rw [e]; rfl
        · refine w_N 1 56 [.ref 123, .ref 13, .int 1] [.int 0] rfl ?_
          refine w_rz rfl rfl (by decide) ?_
          show (some (Value.int 0), _) = _
          have e : wdq tl ts p wL1 = false := by
            have hl : nI wL1.length = 4 := rfl
            unfold wdq
            rw [hl]
            simp [chk, Nat.add_assoc, c1, c2, c3, c4]
          rw [e]; rfl
      · refine w_N 1 56 [.ref 123, .ref 13, .int 0] [.int 0] rfl ?_
        refine w_rz rfl rfl (by decide) ?_
        show (some (Value.int 0), _) = _
        have e : wdq tl ts p wL1 = false := by
          have hl : nI wL1.length = 4 := rfl
          unfold wdq
          rw [hl]
          simp [chk, Nat.add_assoc, c1, c2, c3]
        rw [e]; rfl
    · refine w_N 1 25 [.ref 123, .ref 13, lm_jk] [.int 0] rfl ?_
      refine w_rz rfl rfl (by decide) ?_
      show (some (Value.int 0), _) = _
      have e : wdq tl ts p wL1 = false := by
        have hl : nI wL1.length = 4 := rfl
        unfold wdq
        rw [hl]
        simp [chk, Nat.add_assoc, c1, c2]
      rw [e]; rfl
theorem m_isWord2 {d : Nat} {hi : Nat → Nat → Int32} {hl : Nat → Nat → Int64} {X : lm_X} {ts p : Nat} {tl : Nat → Int32} (S : sh_M X 123) (Q : isTx hi X) (hts : ts ≤ 250) (hp : p ≤ ts) (HP : tpM tl ts hi p) : lm_c (d + 2) 161 [.ref 123, .ref 14] (hi, hl, X) (some (.int (bz (wdq tl ts p wL2))), (hi, hl, X)) := by
  refine lm_c_of (lm_w_in (Nat.le_of_ble_eq_true rfl) ?_)
  show lm_wp (d + 2) 161 0 [.ref 123, .ref 14, lm_jk] [] (hi, hl, X) _
  refine w_N 1 1 [.ref 123, .ref 14, lm_jk] [.ref 123] rfl ?_
  refine w_gi (v := tkS tl ts p) rfl rfl rfl (M_kd S) (HP.2.2.2.2.1) ?_
  refine w_N 1 5 [.ref 123, .ref 14, lm_jk] [.int 1, .int (tkS tl ts p)] rfl ?_
  refine w_icmp_ne (t := 24) rfl rfl (fun c1 => ?_) (fun c1 => ?_)
  · refine w_N 1 25 [.ref 123, .ref 14, lm_jk] [.int 0] rfl ?_
    refine w_rz rfl rfl (by decide) ?_
    show (some (Value.int 0), _) = _
    have e : wdq tl ts p wL2 = false := by
      have hl : nI wL2.length = 3 := rfl
      unfold wdq
      rw [hl]
      simp [chk, Nat.add_assoc, c1]
    rw [e]; rfl
  · refine w_N 1 9 [.ref 123, .ref 14, lm_jk] [.ref 123] rfl ?_
    refine w_gi (v := nI (tkE tl ts p)) rfl rfl rfl (M_kd S) (HP.2.2.2.1) ?_
    refine w_N 1 13 [.ref 123, .ref 14, lm_jk] [.ref 123, .int (nI (tkE tl ts p))] rfl ?_
    refine w_gi (v := nI (tkF tl ts p)) rfl rfl rfl (M_kd S) (HP.2.2.1) ?_
    refine w_N 2 18 [.ref 123, .ref 14, lm_jk] [.ref 14, .int ((nI (tkE tl ts p)) - (nI (tkF tl ts p)))] rfl ?_
    refine w_cc (w_vst rfl rfl rfl (Nat.le_of_ble_eq_true rfl) (Nat.le_of_ble_eq_true rfl) (tx_kd (i := 13) Q (by decide))) (tx_len (i := 13) (L := 3) Q (by decide) rfl) ?_
    show lm_wp _ 161 21 [.ref 123, .ref 14, lm_jk] [.int 3, .int ((nI (tkE tl ts p)) - (nI (tkF tl ts p)))] (hi, hl, X) _
    refine w_icmp_eq (t := 26) rfl rfl (fun c2 => ?_) (fun c2 => ?_)
    · have hE := len_e (L := 3) hts hp (by decide) c2
      have hb := tk_b (tl := tl) hp
      refine w_N 4 30 [.ref 123, .ref 14, .int 0] [.ref 14, .int 0] rfl ?_
      refine w_cc (w_vst rfl rfl rfl (Nat.le_of_ble_eq_true rfl) (Nat.le_of_ble_eq_true rfl) (tx_kd (i := 13) Q (by decide))) (tx_len (i := 13) (L := 3) Q (by decide) rfl) ?_
      show lm_wp _ 161 33 [.ref 123, .ref 14, .int 0] [.int 3, .int 0] (hi, hl, X) _
      refine w_icmp_ge_f (t := 63) rfl rfl (by decide) ?_
      refine w_N 1 37 [.ref 123, .ref 14, .int 0] [.ref 123] rfl ?_
      refine w_gr 139 rfl rfl rfl (M_kd S) (M_r S (k := 7) (o := 16) rfl) ?_
      refine w_N 1 41 [.ref 123, .ref 14, .int 0] [.ref 123, .ref 139] rfl ?_
      refine w_gi (v := nI (tkF tl ts p)) rfl rfl rfl (M_kd S) (HP.2.2.1) ?_
      refine w_N 2 46 [.ref 123, .ref 14, .int 0] [.int ((nI (tkF tl ts p)) + 0), .ref 139] rfl ?_
      refine w_ia (tkF tl ts p) (v := tl (tkF tl ts p)) rfl (show X.2.1 (139) = 1 from M_k S 16 (by decide)) (show X.2.2.1 (139) = 250 from M_l S 16 (by decide)) (Int32.add_zero _) (by omega) (by decide) (HP.2.1 (tkF tl ts p) (by omega)) ?_
      refine w_N 2 49 [.ref 123, .ref 14, .int 0] [.int 0, .ref 14, .int (tl (tkF tl ts p))] rfl ?_
      refine w_cc (w_vst rfl rfl rfl (Nat.le_of_ble_eq_true rfl) (Nat.le_of_ble_eq_true rfl) (tx_kd (i := 13) Q (by decide))) (tx_char (i := 13) (k := 0) (c := 98) Q (by decide) (by decide) rfl) ?_
      show lm_wp _ 161 52 [.ref 123, .ref 14, .int 0] [.int 98, .int (tl (tkF tl ts p))] (hi, hl, X) _
      refine w_icmp_eq (t := 57) rfl rfl (fun c3 => ?_) (fun c3 => ?_)
      · refine w_N 4 30 [.ref 123, .ref 14, .int 1] [.ref 14, .int 1] rfl ?_
        refine w_cc (w_vst rfl rfl rfl (Nat.le_of_ble_eq_true rfl) (Nat.le_of_ble_eq_true rfl) (tx_kd (i := 13) Q (by decide))) (tx_len (i := 13) (L := 3) Q (by decide) rfl) ?_
        show lm_wp _ 161 33 [.ref 123, .ref 14, .int 1] [.int 3, .int 1] (hi, hl, X) _
        refine w_icmp_ge_f (t := 63) rfl rfl (by decide) ?_
        refine w_N 1 37 [.ref 123, .ref 14, .int 1] [.ref 123] rfl ?_
        refine w_gr 139 rfl rfl rfl (M_kd S) (M_r S (k := 7) (o := 16) rfl) ?_
        refine w_N 1 41 [.ref 123, .ref 14, .int 1] [.ref 123, .ref 139] rfl ?_
        refine w_gi (v := nI (tkF tl ts p)) rfl rfl rfl (M_kd S) (HP.2.2.1) ?_
        refine w_N 2 46 [.ref 123, .ref 14, .int 1] [.int ((nI (tkF tl ts p)) + 1), .ref 139] rfl ?_
        refine w_ia (tkF tl ts p + 1) (v := tl (tkF tl ts p + 1)) rfl (show X.2.1 (139) = 1 from M_k S 16 (by decide)) (show X.2.2.1 (139) = 250 from M_l S 16 (by decide)) (nI_add' _ 1) (by omega) (by decide) (HP.2.1 (tkF tl ts p + 1) (by omega)) ?_
        refine w_N 2 49 [.ref 123, .ref 14, .int 1] [.int 1, .ref 14, .int (tl (tkF tl ts p + 1))] rfl ?_
        refine w_cc (w_vst rfl rfl rfl (Nat.le_of_ble_eq_true rfl) (Nat.le_of_ble_eq_true rfl) (tx_kd (i := 13) Q (by decide))) (tx_char (i := 13) (k := 1) (c := 97) Q (by decide) (by decide) rfl) ?_
        show lm_wp _ 161 52 [.ref 123, .ref 14, .int 1] [.int 97, .int (tl (tkF tl ts p + 1))] (hi, hl, X) _
        refine w_icmp_eq (t := 57) rfl rfl (fun c4 => ?_) (fun c4 => ?_)
        · refine w_N 4 30 [.ref 123, .ref 14, .int 2] [.ref 14, .int 2] rfl ?_
          refine w_cc (w_vst rfl rfl rfl (Nat.le_of_ble_eq_true rfl) (Nat.le_of_ble_eq_true rfl) (tx_kd (i := 13) Q (by decide))) (tx_len (i := 13) (L := 3) Q (by decide) rfl) ?_
          show lm_wp _ 161 33 [.ref 123, .ref 14, .int 2] [.int 3, .int 2] (hi, hl, X) _
          refine w_icmp_ge_f (t := 63) rfl rfl (by decide) ?_
          refine w_N 1 37 [.ref 123, .ref 14, .int 2] [.ref 123] rfl ?_
          refine w_gr 139 rfl rfl rfl (M_kd S) (M_r S (k := 7) (o := 16) rfl) ?_
          refine w_N 1 41 [.ref 123, .ref 14, .int 2] [.ref 123, .ref 139] rfl ?_
          refine w_gi (v := nI (tkF tl ts p)) rfl rfl rfl (M_kd S) (HP.2.2.1) ?_
          refine w_N 2 46 [.ref 123, .ref 14, .int 2] [.int ((nI (tkF tl ts p)) + 2), .ref 139] rfl ?_
          refine w_ia (tkF tl ts p + 2) (v := tl (tkF tl ts p + 2)) rfl (show X.2.1 (139) = 1 from M_k S 16 (by decide)) (show X.2.2.1 (139) = 250 from M_l S 16 (by decide)) (nI_add' _ 2) (by omega) (by decide) (HP.2.1 (tkF tl ts p + 2) (by omega)) ?_
          refine w_N 2 49 [.ref 123, .ref 14, .int 2] [.int 2, .ref 14, .int (tl (tkF tl ts p + 2))] rfl ?_
          refine w_cc (w_vst rfl rfl rfl (Nat.le_of_ble_eq_true rfl) (Nat.le_of_ble_eq_true rfl) (tx_kd (i := 13) Q (by decide))) (tx_char (i := 13) (k := 2) (c := 114) Q (by decide) (by decide) rfl) ?_
          show lm_wp _ 161 52 [.ref 123, .ref 14, .int 2] [.int 114, .int (tl (tkF tl ts p + 2))] (hi, hl, X) _
          refine w_icmp_eq (t := 57) rfl rfl (fun c5 => ?_) (fun c5 => ?_)
          · refine w_N 4 30 [.ref 123, .ref 14, .int 3] [.ref 14, .int 3] rfl ?_
            refine w_cc (w_vst rfl rfl rfl (Nat.le_of_ble_eq_true rfl) (Nat.le_of_ble_eq_true rfl) (tx_kd (i := 13) Q (by decide))) (tx_len (i := 13) (L := 3) Q (by decide) rfl) ?_
            show lm_wp _ 161 33 [.ref 123, .ref 14, .int 3] [.int 3, .int 3] (hi, hl, X) _
            refine w_icmp_ge_t (t := 63) rfl rfl (by decide) ?_
            refine w_N 1 64 [.ref 123, .ref 14, .int 3] [.int 1] rfl ?_
            refine w_rz rfl rfl (by decide) ?_
            show (some (Value.int 1), _) = _
            have e : wdq tl ts p wL2 = true := by
              have hl : nI wL2.length = 3 := rfl
              unfold wdq
              rw [hl]
              simp [chk, Nat.add_assoc, c1, c2, c3, c4, c5]
            rw [e]; rfl
          · refine w_N 1 56 [.ref 123, .ref 14, .int 2] [.int 0] rfl ?_
            refine w_rz rfl rfl (by decide) ?_
            show (some (Value.int 0), _) = _
            have e : wdq tl ts p wL2 = false := by
              have hl : nI wL2.length = 3 := rfl
              unfold wdq
              rw [hl]
              simp [chk, Nat.add_assoc, c1, c2, c3, c4, c5]
            rw [e]; rfl
        · refine w_N 1 56 [.ref 123, .ref 14, .int 1] [.int 0] rfl ?_
          refine w_rz rfl rfl (by decide) ?_
          show (some (Value.int 0), _) = _
          have e : wdq tl ts p wL2 = false := by
            have hl : nI wL2.length = 3 := rfl
            unfold wdq
            rw [hl]
            simp [chk, Nat.add_assoc, c1, c2, c3, c4]
          rw [e]; rfl
      · refine w_N 1 56 [.ref 123, .ref 14, .int 0] [.int 0] rfl ?_
        refine w_rz rfl rfl (by decide) ?_
        show (some (Value.int 0), _) = _
        have e : wdq tl ts p wL2 = false := by
          have hl : nI wL2.length = 3 := rfl
          unfold wdq
          rw [hl]
          simp [chk, Nat.add_assoc, c1, c2, c3]
        rw [e]; rfl
    · refine w_N 1 25 [.ref 123, .ref 14, lm_jk] [.int 0] rfl ?_
      refine w_rz rfl rfl (by decide) ?_
      show (some (Value.int 0), _) = _
      have e : wdq tl ts p wL2 = false := by
        have hl : nI wL2.length = 3 := rfl
        unfold wdq
        rw [hl]
        simp [chk, Nat.add_assoc, c1, c2]
      rw [e]; rfl
theorem m_isWord3 {d : Nat} {hi : Nat → Nat → Int32} {hl : Nat → Nat → Int64} {X : lm_X} {ts p : Nat} {tl : Nat → Int32} (S : sh_M X 123) (Q : isTx hi X) (hts : ts ≤ 250) (hp : p ≤ ts) (HP : tpM tl ts hi p) : lm_c (d + 2) 161 [.ref 123, .ref 15] (hi, hl, X) (some (.int (bz (wdq tl ts p wL3))), (hi, hl, X)) := by
  refine lm_c_of (lm_w_in (Nat.le_of_ble_eq_true rfl) ?_)
  show lm_wp (d + 2) 161 0 [.ref 123, .ref 15, lm_jk] [] (hi, hl, X) _
  refine w_N 1 1 [.ref 123, .ref 15, lm_jk] [.ref 123] rfl ?_
  refine w_gi (v := tkS tl ts p) rfl rfl rfl (M_kd S) (HP.2.2.2.2.1) ?_
  refine w_N 1 5 [.ref 123, .ref 15, lm_jk] [.int 1, .int (tkS tl ts p)] rfl ?_
  refine w_icmp_ne (t := 24) rfl rfl (fun c1 => ?_) (fun c1 => ?_)
  · refine w_N 1 25 [.ref 123, .ref 15, lm_jk] [.int 0] rfl ?_
    refine w_rz rfl rfl (by decide) ?_
    show (some (Value.int 0), _) = _
    have e : wdq tl ts p wL3 = false := by
      have hl : nI wL3.length = 4 := rfl
      unfold wdq
      rw [hl]
      simp [chk, Nat.add_assoc, c1]
    rw [e]; rfl
  · refine w_N 1 9 [.ref 123, .ref 15, lm_jk] [.ref 123] rfl ?_
    refine w_gi (v := nI (tkE tl ts p)) rfl rfl rfl (M_kd S) (HP.2.2.2.1) ?_
    refine w_N 1 13 [.ref 123, .ref 15, lm_jk] [.ref 123, .int (nI (tkE tl ts p))] rfl ?_
    refine w_gi (v := nI (tkF tl ts p)) rfl rfl rfl (M_kd S) (HP.2.2.1) ?_
    refine w_N 2 18 [.ref 123, .ref 15, lm_jk] [.ref 15, .int ((nI (tkE tl ts p)) - (nI (tkF tl ts p)))] rfl ?_
    refine w_cc (w_vst rfl rfl rfl (Nat.le_of_ble_eq_true rfl) (Nat.le_of_ble_eq_true rfl) (tx_kd (i := 14) Q (by decide))) (tx_len (i := 14) (L := 4) Q (by decide) rfl) ?_
    show lm_wp _ 161 21 [.ref 123, .ref 15, lm_jk] [.int 4, .int ((nI (tkE tl ts p)) - (nI (tkF tl ts p)))] (hi, hl, X) _
    refine w_icmp_eq (t := 26) rfl rfl (fun c2 => ?_) (fun c2 => ?_)
    · have hE := len_e (L := 4) hts hp (by decide) c2
      have hb := tk_b (tl := tl) hp
      refine w_N 4 30 [.ref 123, .ref 15, .int 0] [.ref 15, .int 0] rfl ?_
      refine w_cc (w_vst rfl rfl rfl (Nat.le_of_ble_eq_true rfl) (Nat.le_of_ble_eq_true rfl) (tx_kd (i := 14) Q (by decide))) (tx_len (i := 14) (L := 4) Q (by decide) rfl) ?_
      show lm_wp _ 161 33 [.ref 123, .ref 15, .int 0] [.int 4, .int 0] (hi, hl, X) _
      refine w_icmp_ge_f (t := 63) rfl rfl (by decide) ?_
      refine w_N 1 37 [.ref 123, .ref 15, .int 0] [.ref 123] rfl ?_
      refine w_gr 139 rfl rfl rfl (M_kd S) (M_r S (k := 7) (o := 16) rfl) ?_
      refine w_N 1 41 [.ref 123, .ref 15, .int 0] [.ref 123, .ref 139] rfl ?_
      refine w_gi (v := nI (tkF tl ts p)) rfl rfl rfl (M_kd S) (HP.2.2.1) ?_
      refine w_N 2 46 [.ref 123, .ref 15, .int 0] [.int ((nI (tkF tl ts p)) + 0), .ref 139] rfl ?_
      refine w_ia (tkF tl ts p) (v := tl (tkF tl ts p)) rfl (show X.2.1 (139) = 1 from M_k S 16 (by decide)) (show X.2.2.1 (139) = 250 from M_l S 16 (by decide)) (Int32.add_zero _) (by omega) (by decide) (HP.2.1 (tkF tl ts p) (by omega)) ?_
      refine w_N 2 49 [.ref 123, .ref 15, .int 0] [.int 0, .ref 15, .int (tl (tkF tl ts p))] rfl ?_
      refine w_cc (w_vst rfl rfl rfl (Nat.le_of_ble_eq_true rfl) (Nat.le_of_ble_eq_true rfl) (tx_kd (i := 14) Q (by decide))) (tx_char (i := 14) (k := 0) (c := 109) Q (by decide) (by decide) rfl) ?_
      show lm_wp _ 161 52 [.ref 123, .ref 15, .int 0] [.int 109, .int (tl (tkF tl ts p))] (hi, hl, X) _
      refine w_icmp_eq (t := 57) rfl rfl (fun c3 => ?_) (fun c3 => ?_)
      · refine w_N 4 30 [.ref 123, .ref 15, .int 1] [.ref 15, .int 1] rfl ?_
        refine w_cc (w_vst rfl rfl rfl (Nat.le_of_ble_eq_true rfl) (Nat.le_of_ble_eq_true rfl) (tx_kd (i := 14) Q (by decide))) (tx_len (i := 14) (L := 4) Q (by decide) rfl) ?_
        show lm_wp _ 161 33 [.ref 123, .ref 15, .int 1] [.int 4, .int 1] (hi, hl, X) _
        refine w_icmp_ge_f (t := 63) rfl rfl (by decide) ?_
        refine w_N 1 37 [.ref 123, .ref 15, .int 1] [.ref 123] rfl ?_
        refine w_gr 139 rfl rfl rfl (M_kd S) (M_r S (k := 7) (o := 16) rfl) ?_
        refine w_N 1 41 [.ref 123, .ref 15, .int 1] [.ref 123, .ref 139] rfl ?_
        refine w_gi (v := nI (tkF tl ts p)) rfl rfl rfl (M_kd S) (HP.2.2.1) ?_
        refine w_N 2 46 [.ref 123, .ref 15, .int 1] [.int ((nI (tkF tl ts p)) + 1), .ref 139] rfl ?_
        refine w_ia (tkF tl ts p + 1) (v := tl (tkF tl ts p + 1)) rfl (show X.2.1 (139) = 1 from M_k S 16 (by decide)) (show X.2.2.1 (139) = 250 from M_l S 16 (by decide)) (nI_add' _ 1) (by omega) (by decide) (HP.2.1 (tkF tl ts p + 1) (by omega)) ?_
        refine w_N 2 49 [.ref 123, .ref 15, .int 1] [.int 1, .ref 15, .int (tl (tkF tl ts p + 1))] rfl ?_
        refine w_cc (w_vst rfl rfl rfl (Nat.le_of_ble_eq_true rfl) (Nat.le_of_ble_eq_true rfl) (tx_kd (i := 14) Q (by decide))) (tx_char (i := 14) (k := 1) (c := 97) Q (by decide) (by decide) rfl) ?_
        show lm_wp _ 161 52 [.ref 123, .ref 15, .int 1] [.int 97, .int (tl (tkF tl ts p + 1))] (hi, hl, X) _
        refine w_icmp_eq (t := 57) rfl rfl (fun c4 => ?_) (fun c4 => ?_)
        · refine w_N 4 30 [.ref 123, .ref 15, .int 2] [.ref 15, .int 2] rfl ?_
          refine w_cc (w_vst rfl rfl rfl (Nat.le_of_ble_eq_true rfl) (Nat.le_of_ble_eq_true rfl) (tx_kd (i := 14) Q (by decide))) (tx_len (i := 14) (L := 4) Q (by decide) rfl) ?_
          show lm_wp _ 161 33 [.ref 123, .ref 15, .int 2] [.int 4, .int 2] (hi, hl, X) _
          refine w_icmp_ge_f (t := 63) rfl rfl (by decide) ?_
          refine w_N 1 37 [.ref 123, .ref 15, .int 2] [.ref 123] rfl ?_
          refine w_gr 139 rfl rfl rfl (M_kd S) (M_r S (k := 7) (o := 16) rfl) ?_
          refine w_N 1 41 [.ref 123, .ref 15, .int 2] [.ref 123, .ref 139] rfl ?_
          refine w_gi (v := nI (tkF tl ts p)) rfl rfl rfl (M_kd S) (HP.2.2.1) ?_
          refine w_N 2 46 [.ref 123, .ref 15, .int 2] [.int ((nI (tkF tl ts p)) + 2), .ref 139] rfl ?_
          refine w_ia (tkF tl ts p + 2) (v := tl (tkF tl ts p + 2)) rfl (show X.2.1 (139) = 1 from M_k S 16 (by decide)) (show X.2.2.1 (139) = 250 from M_l S 16 (by decide)) (nI_add' _ 2) (by omega) (by decide) (HP.2.1 (tkF tl ts p + 2) (by omega)) ?_
          refine w_N 2 49 [.ref 123, .ref 15, .int 2] [.int 2, .ref 15, .int (tl (tkF tl ts p + 2))] rfl ?_
          refine w_cc (w_vst rfl rfl rfl (Nat.le_of_ble_eq_true rfl) (Nat.le_of_ble_eq_true rfl) (tx_kd (i := 14) Q (by decide))) (tx_char (i := 14) (k := 2) (c := 114) Q (by decide) (by decide) rfl) ?_
          show lm_wp _ 161 52 [.ref 123, .ref 15, .int 2] [.int 114, .int (tl (tkF tl ts p + 2))] (hi, hl, X) _
          refine w_icmp_eq (t := 57) rfl rfl (fun c5 => ?_) (fun c5 => ?_)
          · refine w_N 4 30 [.ref 123, .ref 15, .int 3] [.ref 15, .int 3] rfl ?_
            refine w_cc (w_vst rfl rfl rfl (Nat.le_of_ble_eq_true rfl) (Nat.le_of_ble_eq_true rfl) (tx_kd (i := 14) Q (by decide))) (tx_len (i := 14) (L := 4) Q (by decide) rfl) ?_
            show lm_wp _ 161 33 [.ref 123, .ref 15, .int 3] [.int 4, .int 3] (hi, hl, X) _
            refine w_icmp_ge_f (t := 63) rfl rfl (by decide) ?_
            refine w_N 1 37 [.ref 123, .ref 15, .int 3] [.ref 123] rfl ?_
            refine w_gr 139 rfl rfl rfl (M_kd S) (M_r S (k := 7) (o := 16) rfl) ?_
            refine w_N 1 41 [.ref 123, .ref 15, .int 3] [.ref 123, .ref 139] rfl ?_
            refine w_gi (v := nI (tkF tl ts p)) rfl rfl rfl (M_kd S) (HP.2.2.1) ?_
            refine w_N 2 46 [.ref 123, .ref 15, .int 3] [.int ((nI (tkF tl ts p)) + 3), .ref 139] rfl ?_
            refine w_ia (tkF tl ts p + 3) (v := tl (tkF tl ts p + 3)) rfl (show X.2.1 (139) = 1 from M_k S 16 (by decide)) (show X.2.2.1 (139) = 250 from M_l S 16 (by decide)) (nI_add' _ 3) (by omega) (by decide) (HP.2.1 (tkF tl ts p + 3) (by omega)) ?_
            refine w_N 2 49 [.ref 123, .ref 15, .int 3] [.int 3, .ref 15, .int (tl (tkF tl ts p + 3))] rfl ?_
            refine w_cc (w_vst rfl rfl rfl (Nat.le_of_ble_eq_true rfl) (Nat.le_of_ble_eq_true rfl) (tx_kd (i := 14) Q (by decide))) (tx_char (i := 14) (k := 3) (c := 107) Q (by decide) (by decide) rfl) ?_
            show lm_wp _ 161 52 [.ref 123, .ref 15, .int 3] [.int 107, .int (tl (tkF tl ts p + 3))] (hi, hl, X) _
            refine w_icmp_eq (t := 57) rfl rfl (fun c6 => ?_) (fun c6 => ?_)
            · refine w_N 4 30 [.ref 123, .ref 15, .int 4] [.ref 15, .int 4] rfl ?_
              refine w_cc (w_vst rfl rfl rfl (Nat.le_of_ble_eq_true rfl) (Nat.le_of_ble_eq_true rfl) (tx_kd (i := 14) Q (by decide))) (tx_len (i := 14) (L := 4) Q (by decide) rfl) ?_
              show lm_wp _ 161 33 [.ref 123, .ref 15, .int 4] [.int 4, .int 4] (hi, hl, X) _
              refine w_icmp_ge_t (t := 63) rfl rfl (by decide) ?_
              refine w_N 1 64 [.ref 123, .ref 15, .int 4] [.int 1] rfl ?_
              refine w_rz rfl rfl (by decide) ?_
              show (some (Value.int 1), _) = _
              have e : wdq tl ts p wL3 = true := by
                have hl : nI wL3.length = 4 := rfl
                unfold wdq
                rw [hl]
                simp [chk, Nat.add_assoc, c1, c2, c3, c4, c5, c6]
              rw [e]; rfl
            · refine w_N 1 56 [.ref 123, .ref 15, .int 3] [.int 0] rfl ?_
              refine w_rz rfl rfl (by decide) ?_
              show (some (Value.int 0), _) = _
              have e : wdq tl ts p wL3 = false := by
                have hl : nI wL3.length = 4 := rfl
                unfold wdq
                rw [hl]
                simp [chk, Nat.add_assoc, c1, c2, c3, c4, c5, c6]
              rw [e]; rfl
          · refine w_N 1 56 [.ref 123, .ref 15, .int 2] [.int 0] rfl ?_
            refine w_rz rfl rfl (by decide) ?_
            show (some (Value.int 0), _) = _
            have e : wdq tl ts p wL3 = false := by
              have hl : nI wL3.length = 4 := rfl
              unfold wdq
              rw [hl]
              simp [chk, Nat.add_assoc, c1, c2, c3, c4, c5]
            rw [e]; rfl
        · refine w_N 1 56 [.ref 123, .ref 15, .int 1] [.int 0] rfl ?_
          refine w_rz rfl rfl (by decide) ?_
          show (some (Value.int 0), _) = _
          have e : wdq tl ts p wL3 = false := by
            have hl : nI wL3.length = 4 := rfl
            unfold wdq
            rw [hl]
            simp [chk, Nat.add_assoc, c1, c2, c3, c4]
          rw [e]; rfl
      · refine w_N 1 56 [.ref 123, .ref 15, .int 0] [.int 0] rfl ?_
        refine w_rz rfl rfl (by decide) ?_
        show (some (Value.int 0), _) = _
        have e : wdq tl ts p wL3 = false := by
          have hl : nI wL3.length = 4 := rfl
          unfold wdq
          rw [hl]
          simp [chk, Nat.add_assoc, c1, c2, c3]
        rw [e]; rfl
    · refine w_N 1 25 [.ref 123, .ref 15, lm_jk] [.int 0] rfl ?_
      refine w_rz rfl rfl (by decide) ?_
      show (some (Value.int 0), _) = _
      have e : wdq tl ts p wL3 = false := by
        have hl : nI wL3.length = 4 := rfl
        unfold wdq
        rw [hl]
        simp [chk, Nat.add_assoc, c1, c2]
      rw [e]; rfl
theorem m_isWord4 {d : Nat} {hi : Nat → Nat → Int32} {hl : Nat → Nat → Int64} {X : lm_X} {ts p : Nat} {tl : Nat → Int32} (S : sh_M X 123) (Q : isTx hi X) (hts : ts ≤ 250) (hp : p ≤ ts) (HP : tpM tl ts hi p) : lm_c (d + 2) 161 [.ref 123, .ref 16] (hi, hl, X) (some (.int (bz (wdq tl ts p wL4))), (hi, hl, X)) := by
  refine lm_c_of (lm_w_in (Nat.le_of_ble_eq_true rfl) ?_)
  show lm_wp (d + 2) 161 0 [.ref 123, .ref 16, lm_jk] [] (hi, hl, X) _
  refine w_N 1 1 [.ref 123, .ref 16, lm_jk] [.ref 123] rfl ?_
  refine w_gi (v := tkS tl ts p) rfl rfl rfl (M_kd S) (HP.2.2.2.2.1) ?_
  refine w_N 1 5 [.ref 123, .ref 16, lm_jk] [.int 1, .int (tkS tl ts p)] rfl ?_
  refine w_icmp_ne (t := 24) rfl rfl (fun c1 => ?_) (fun c1 => ?_)
  · refine w_N 1 25 [.ref 123, .ref 16, lm_jk] [.int 0] rfl ?_
    refine w_rz rfl rfl (by decide) ?_
    show (some (Value.int 0), _) = _
    have e : wdq tl ts p wL4 = false := by
      have hl : nI wL4.length = 5 := rfl
      unfold wdq
      rw [hl]
      simp [chk, Nat.add_assoc, c1]
    rw [e]; rfl
  · refine w_N 1 9 [.ref 123, .ref 16, lm_jk] [.ref 123] rfl ?_
    refine w_gi (v := nI (tkE tl ts p)) rfl rfl rfl (M_kd S) (HP.2.2.2.1) ?_
    refine w_N 1 13 [.ref 123, .ref 16, lm_jk] [.ref 123, .int (nI (tkE tl ts p))] rfl ?_
    refine w_gi (v := nI (tkF tl ts p)) rfl rfl rfl (M_kd S) (HP.2.2.1) ?_
    refine w_N 2 18 [.ref 123, .ref 16, lm_jk] [.ref 16, .int ((nI (tkE tl ts p)) - (nI (tkF tl ts p)))] rfl ?_
    refine w_cc (w_vst rfl rfl rfl (Nat.le_of_ble_eq_true rfl) (Nat.le_of_ble_eq_true rfl) (tx_kd (i := 15) Q (by decide))) (tx_len (i := 15) (L := 5) Q (by decide) rfl) ?_
    show lm_wp _ 161 21 [.ref 123, .ref 16, lm_jk] [.int 5, .int ((nI (tkE tl ts p)) - (nI (tkF tl ts p)))] (hi, hl, X) _
    refine w_icmp_eq (t := 26) rfl rfl (fun c2 => ?_) (fun c2 => ?_)
    · have hE := len_e (L := 5) hts hp (by decide) c2
      have hb := tk_b (tl := tl) hp
      refine w_N 4 30 [.ref 123, .ref 16, .int 0] [.ref 16, .int 0] rfl ?_
      refine w_cc (w_vst rfl rfl rfl (Nat.le_of_ble_eq_true rfl) (Nat.le_of_ble_eq_true rfl) (tx_kd (i := 15) Q (by decide))) (tx_len (i := 15) (L := 5) Q (by decide) rfl) ?_
      show lm_wp _ 161 33 [.ref 123, .ref 16, .int 0] [.int 5, .int 0] (hi, hl, X) _
      refine w_icmp_ge_f (t := 63) rfl rfl (by decide) ?_
      refine w_N 1 37 [.ref 123, .ref 16, .int 0] [.ref 123] rfl ?_
      refine w_gr 139 rfl rfl rfl (M_kd S) (M_r S (k := 7) (o := 16) rfl) ?_
      refine w_N 1 41 [.ref 123, .ref 16, .int 0] [.ref 123, .ref 139] rfl ?_
      refine w_gi (v := nI (tkF tl ts p)) rfl rfl rfl (M_kd S) (HP.2.2.1) ?_
      refine w_N 2 46 [.ref 123, .ref 16, .int 0] [.int ((nI (tkF tl ts p)) + 0), .ref 139] rfl ?_
      refine w_ia (tkF tl ts p) (v := tl (tkF tl ts p)) rfl (show X.2.1 (139) = 1 from M_k S 16 (by decide)) (show X.2.2.1 (139) = 250 from M_l S 16 (by decide)) (Int32.add_zero _) (by omega) (by decide) (HP.2.1 (tkF tl ts p) (by omega)) ?_
      refine w_N 2 49 [.ref 123, .ref 16, .int 0] [.int 0, .ref 16, .int (tl (tkF tl ts p))] rfl ?_
      refine w_cc (w_vst rfl rfl rfl (Nat.le_of_ble_eq_true rfl) (Nat.le_of_ble_eq_true rfl) (tx_kd (i := 15) Q (by decide))) (tx_char (i := 15) (k := 0) (c := 99) Q (by decide) (by decide) rfl) ?_
      show lm_wp _ 161 52 [.ref 123, .ref 16, .int 0] [.int 99, .int (tl (tkF tl ts p))] (hi, hl, X) _
      refine w_icmp_eq (t := 57) rfl rfl (fun c3 => ?_) (fun c3 => ?_)
      · refine w_N 4 30 [.ref 123, .ref 16, .int 1] [.ref 16, .int 1] rfl ?_
        refine w_cc (w_vst rfl rfl rfl (Nat.le_of_ble_eq_true rfl) (Nat.le_of_ble_eq_true rfl) (tx_kd (i := 15) Q (by decide))) (tx_len (i := 15) (L := 5) Q (by decide) rfl) ?_
        show lm_wp _ 161 33 [.ref 123, .ref 16, .int 1] [.int 5, .int 1] (hi, hl, X) _
        refine w_icmp_ge_f (t := 63) rfl rfl (by decide) ?_
        refine w_N 1 37 [.ref 123, .ref 16, .int 1] [.ref 123] rfl ?_
        refine w_gr 139 rfl rfl rfl (M_kd S) (M_r S (k := 7) (o := 16) rfl) ?_
        refine w_N 1 41 [.ref 123, .ref 16, .int 1] [.ref 123, .ref 139] rfl ?_
        refine w_gi (v := nI (tkF tl ts p)) rfl rfl rfl (M_kd S) (HP.2.2.1) ?_
        refine w_N 2 46 [.ref 123, .ref 16, .int 1] [.int ((nI (tkF tl ts p)) + 1), .ref 139] rfl ?_
        refine w_ia (tkF tl ts p + 1) (v := tl (tkF tl ts p + 1)) rfl (show X.2.1 (139) = 1 from M_k S 16 (by decide)) (show X.2.2.1 (139) = 250 from M_l S 16 (by decide)) (nI_add' _ 1) (by omega) (by decide) (HP.2.1 (tkF tl ts p + 1) (by omega)) ?_
        refine w_N 2 49 [.ref 123, .ref 16, .int 1] [.int 1, .ref 16, .int (tl (tkF tl ts p + 1))] rfl ?_
        refine w_cc (w_vst rfl rfl rfl (Nat.le_of_ble_eq_true rfl) (Nat.le_of_ble_eq_true rfl) (tx_kd (i := 15) Q (by decide))) (tx_char (i := 15) (k := 1) (c := 111) Q (by decide) (by decide) rfl) ?_
        show lm_wp _ 161 52 [.ref 123, .ref 16, .int 1] [.int 111, .int (tl (tkF tl ts p + 1))] (hi, hl, X) _
        refine w_icmp_eq (t := 57) rfl rfl (fun c4 => ?_) (fun c4 => ?_)
        · refine w_N 4 30 [.ref 123, .ref 16, .int 2] [.ref 16, .int 2] rfl ?_
          refine w_cc (w_vst rfl rfl rfl (Nat.le_of_ble_eq_true rfl) (Nat.le_of_ble_eq_true rfl) (tx_kd (i := 15) Q (by decide))) (tx_len (i := 15) (L := 5) Q (by decide) rfl) ?_
          show lm_wp _ 161 33 [.ref 123, .ref 16, .int 2] [.int 5, .int 2] (hi, hl, X) _
          refine w_icmp_ge_f (t := 63) rfl rfl (by decide) ?_
          refine w_N 1 37 [.ref 123, .ref 16, .int 2] [.ref 123] rfl ?_
          refine w_gr 139 rfl rfl rfl (M_kd S) (M_r S (k := 7) (o := 16) rfl) ?_
          refine w_N 1 41 [.ref 123, .ref 16, .int 2] [.ref 123, .ref 139] rfl ?_
          refine w_gi (v := nI (tkF tl ts p)) rfl rfl rfl (M_kd S) (HP.2.2.1) ?_
          refine w_N 2 46 [.ref 123, .ref 16, .int 2] [.int ((nI (tkF tl ts p)) + 2), .ref 139] rfl ?_
          refine w_ia (tkF tl ts p + 2) (v := tl (tkF tl ts p + 2)) rfl (show X.2.1 (139) = 1 from M_k S 16 (by decide)) (show X.2.2.1 (139) = 250 from M_l S 16 (by decide)) (nI_add' _ 2) (by omega) (by decide) (HP.2.1 (tkF tl ts p + 2) (by omega)) ?_
          refine w_N 2 49 [.ref 123, .ref 16, .int 2] [.int 2, .ref 16, .int (tl (tkF tl ts p + 2))] rfl ?_
          refine w_cc (w_vst rfl rfl rfl (Nat.le_of_ble_eq_true rfl) (Nat.le_of_ble_eq_true rfl) (tx_kd (i := 15) Q (by decide))) (tx_char (i := 15) (k := 2) (c := 117) Q (by decide) (by decide) rfl) ?_
          show lm_wp _ 161 52 [.ref 123, .ref 16, .int 2] [.int 117, .int (tl (tkF tl ts p + 2))] (hi, hl, X) _
          refine w_icmp_eq (t := 57) rfl rfl (fun c5 => ?_) (fun c5 => ?_)
          · refine w_N 4 30 [.ref 123, .ref 16, .int 3] [.ref 16, .int 3] rfl ?_
            refine w_cc (w_vst rfl rfl rfl (Nat.le_of_ble_eq_true rfl) (Nat.le_of_ble_eq_true rfl) (tx_kd (i := 15) Q (by decide))) (tx_len (i := 15) (L := 5) Q (by decide) rfl) ?_
            show lm_wp _ 161 33 [.ref 123, .ref 16, .int 3] [.int 5, .int 3] (hi, hl, X) _
            refine w_icmp_ge_f (t := 63) rfl rfl (by decide) ?_
            refine w_N 1 37 [.ref 123, .ref 16, .int 3] [.ref 123] rfl ?_
            refine w_gr 139 rfl rfl rfl (M_kd S) (M_r S (k := 7) (o := 16) rfl) ?_
            refine w_N 1 41 [.ref 123, .ref 16, .int 3] [.ref 123, .ref 139] rfl ?_
            refine w_gi (v := nI (tkF tl ts p)) rfl rfl rfl (M_kd S) (HP.2.2.1) ?_
            refine w_N 2 46 [.ref 123, .ref 16, .int 3] [.int ((nI (tkF tl ts p)) + 3), .ref 139] rfl ?_
            refine w_ia (tkF tl ts p + 3) (v := tl (tkF tl ts p + 3)) rfl (show X.2.1 (139) = 1 from M_k S 16 (by decide)) (show X.2.2.1 (139) = 250 from M_l S 16 (by decide)) (nI_add' _ 3) (by omega) (by decide) (HP.2.1 (tkF tl ts p + 3) (by omega)) ?_
            refine w_N 2 49 [.ref 123, .ref 16, .int 3] [.int 3, .ref 16, .int (tl (tkF tl ts p + 3))] rfl ?_
            refine w_cc (w_vst rfl rfl rfl (Nat.le_of_ble_eq_true rfl) (Nat.le_of_ble_eq_true rfl) (tx_kd (i := 15) Q (by decide))) (tx_char (i := 15) (k := 3) (c := 110) Q (by decide) (by decide) rfl) ?_
            show lm_wp _ 161 52 [.ref 123, .ref 16, .int 3] [.int 110, .int (tl (tkF tl ts p + 3))] (hi, hl, X) _
            refine w_icmp_eq (t := 57) rfl rfl (fun c6 => ?_) (fun c6 => ?_)
            · refine w_N 4 30 [.ref 123, .ref 16, .int 4] [.ref 16, .int 4] rfl ?_
              refine w_cc (w_vst rfl rfl rfl (Nat.le_of_ble_eq_true rfl) (Nat.le_of_ble_eq_true rfl) (tx_kd (i := 15) Q (by decide))) (tx_len (i := 15) (L := 5) Q (by decide) rfl) ?_
              show lm_wp _ 161 33 [.ref 123, .ref 16, .int 4] [.int 5, .int 4] (hi, hl, X) _
              refine w_icmp_ge_f (t := 63) rfl rfl (by decide) ?_
              refine w_N 1 37 [.ref 123, .ref 16, .int 4] [.ref 123] rfl ?_
              refine w_gr 139 rfl rfl rfl (M_kd S) (M_r S (k := 7) (o := 16) rfl) ?_
              refine w_N 1 41 [.ref 123, .ref 16, .int 4] [.ref 123, .ref 139] rfl ?_
              refine w_gi (v := nI (tkF tl ts p)) rfl rfl rfl (M_kd S) (HP.2.2.1) ?_
              refine w_N 2 46 [.ref 123, .ref 16, .int 4] [.int ((nI (tkF tl ts p)) + 4), .ref 139] rfl ?_
              refine w_ia (tkF tl ts p + 4) (v := tl (tkF tl ts p + 4)) rfl (show X.2.1 (139) = 1 from M_k S 16 (by decide)) (show X.2.2.1 (139) = 250 from M_l S 16 (by decide)) (nI_add' _ 4) (by omega) (by decide) (HP.2.1 (tkF tl ts p + 4) (by omega)) ?_
              refine w_N 2 49 [.ref 123, .ref 16, .int 4] [.int 4, .ref 16, .int (tl (tkF tl ts p + 4))] rfl ?_
              refine w_cc (w_vst rfl rfl rfl (Nat.le_of_ble_eq_true rfl) (Nat.le_of_ble_eq_true rfl) (tx_kd (i := 15) Q (by decide))) (tx_char (i := 15) (k := 4) (c := 116) Q (by decide) (by decide) rfl) ?_
              show lm_wp _ 161 52 [.ref 123, .ref 16, .int 4] [.int 116, .int (tl (tkF tl ts p + 4))] (hi, hl, X) _
              refine w_icmp_eq (t := 57) rfl rfl (fun c7 => ?_) (fun c7 => ?_)
              · refine w_N 4 30 [.ref 123, .ref 16, .int 5] [.ref 16, .int 5] rfl ?_
                refine w_cc (w_vst rfl rfl rfl (Nat.le_of_ble_eq_true rfl) (Nat.le_of_ble_eq_true rfl) (tx_kd (i := 15) Q (by decide))) (tx_len (i := 15) (L := 5) Q (by decide) rfl) ?_
                show lm_wp _ 161 33 [.ref 123, .ref 16, .int 5] [.int 5, .int 5] (hi, hl, X) _
                refine w_icmp_ge_t (t := 63) rfl rfl (by decide) ?_
                refine w_N 1 64 [.ref 123, .ref 16, .int 5] [.int 1] rfl ?_
                refine w_rz rfl rfl (by decide) ?_
                show (some (Value.int 1), _) = _
                have e : wdq tl ts p wL4 = true := by
                  have hl : nI wL4.length = 5 := rfl
                  unfold wdq
                  rw [hl]
                  simp [chk, Nat.add_assoc, c1, c2, c3, c4, c5, c6, c7]
                rw [e]; rfl
              · refine w_N 1 56 [.ref 123, .ref 16, .int 4] [.int 0] rfl ?_
                refine w_rz rfl rfl (by decide) ?_
                show (some (Value.int 0), _) = _
                have e : wdq tl ts p wL4 = false := by
                  have hl : nI wL4.length = 5 := rfl
                  unfold wdq
                  rw [hl]
                  simp [chk, Nat.add_assoc, c1, c2, c3, c4, c5, c6, c7]
                rw [e]; rfl
            · refine w_N 1 56 [.ref 123, .ref 16, .int 3] [.int 0] rfl ?_
              refine w_rz rfl rfl (by decide) ?_
              show (some (Value.int 0), _) = _
              have e : wdq tl ts p wL4 = false := by
                have hl : nI wL4.length = 5 := rfl
                unfold wdq
                rw [hl]
                simp [chk, Nat.add_assoc, c1, c2, c3, c4, c5, c6]
              rw [e]; rfl
          · refine w_N 1 56 [.ref 123, .ref 16, .int 2] [.int 0] rfl ?_
            refine w_rz rfl rfl (by decide) ?_
            show (some (Value.int 0), _) = _
            have e : wdq tl ts p wL4 = false := by
              have hl : nI wL4.length = 5 := rfl
              unfold wdq
              rw [hl]
              simp [chk, Nat.add_assoc, c1, c2, c3, c4, c5]
            rw [e]; rfl
        · refine w_N 1 56 [.ref 123, .ref 16, .int 1] [.int 0] rfl ?_
          refine w_rz rfl rfl (by decide) ?_
          show (some (Value.int 0), _) = _
          have e : wdq tl ts p wL4 = false := by
            have hl : nI wL4.length = 5 := rfl
            unfold wdq
            rw [hl]
            simp [chk, Nat.add_assoc, c1, c2, c3, c4]
          rw [e]; rfl
      · refine w_N 1 56 [.ref 123, .ref 16, .int 0] [.int 0] rfl ?_
        refine w_rz rfl rfl (by decide) ?_
        show (some (Value.int 0), _) = _
        have e : wdq tl ts p wL4 = false := by
          have hl : nI wL4.length = 5 := rfl
          unfold wdq
          rw [hl]
          simp [chk, Nat.add_assoc, c1, c2, c3]
        rw [e]; rfl
    · refine w_N 1 25 [.ref 123, .ref 16, lm_jk] [.int 0] rfl ?_
      refine w_rz rfl rfl (by decide) ?_
      show (some (Value.int 0), _) = _
      have e : wdq tl ts p wL4 = false := by
        have hl : nI wL4.length = 5 := rfl
        unfold wdq
        rw [hl]
        simp [chk, Nat.add_assoc, c1, c2]
      rw [e]; rfl
theorem m_isWord5 {d : Nat} {hi : Nat → Nat → Int32} {hl : Nat → Nat → Int64} {X : lm_X} {ts p : Nat} {tl : Nat → Int32} (S : sh_M X 123) (Q : isTx hi X) (hts : ts ≤ 250) (hp : p ≤ ts) (HP : tpM tl ts hi p) : lm_c (d + 2) 161 [.ref 123, .ref 17] (hi, hl, X) (some (.int (bz (wdq tl ts p wL5))), (hi, hl, X)) := by
  refine lm_c_of (lm_w_in (Nat.le_of_ble_eq_true rfl) ?_)
  show lm_wp (d + 2) 161 0 [.ref 123, .ref 17, lm_jk] [] (hi, hl, X) _
  refine w_N 1 1 [.ref 123, .ref 17, lm_jk] [.ref 123] rfl ?_
  refine w_gi (v := tkS tl ts p) rfl rfl rfl (M_kd S) (HP.2.2.2.2.1) ?_
  refine w_N 1 5 [.ref 123, .ref 17, lm_jk] [.int 1, .int (tkS tl ts p)] rfl ?_
  refine w_icmp_ne (t := 24) rfl rfl (fun c1 => ?_) (fun c1 => ?_)
  · refine w_N 1 25 [.ref 123, .ref 17, lm_jk] [.int 0] rfl ?_
    refine w_rz rfl rfl (by decide) ?_
    show (some (Value.int 0), _) = _
    have e : wdq tl ts p wL5 = false := by
      have hl : nI wL5.length = 5 := rfl
      unfold wdq
      rw [hl]
      simp [chk, Nat.add_assoc, c1]
    rw [e]; rfl
  · refine w_N 1 9 [.ref 123, .ref 17, lm_jk] [.ref 123] rfl ?_
    refine w_gi (v := nI (tkE tl ts p)) rfl rfl rfl (M_kd S) (HP.2.2.2.1) ?_
    refine w_N 1 13 [.ref 123, .ref 17, lm_jk] [.ref 123, .int (nI (tkE tl ts p))] rfl ?_
    refine w_gi (v := nI (tkF tl ts p)) rfl rfl rfl (M_kd S) (HP.2.2.1) ?_
    refine w_N 2 18 [.ref 123, .ref 17, lm_jk] [.ref 17, .int ((nI (tkE tl ts p)) - (nI (tkF tl ts p)))] rfl ?_
    refine w_cc (w_vst rfl rfl rfl (Nat.le_of_ble_eq_true rfl) (Nat.le_of_ble_eq_true rfl) (tx_kd (i := 16) Q (by decide))) (tx_len (i := 16) (L := 5) Q (by decide) rfl) ?_
    show lm_wp _ 161 21 [.ref 123, .ref 17, lm_jk] [.int 5, .int ((nI (tkE tl ts p)) - (nI (tkF tl ts p)))] (hi, hl, X) _
    refine w_icmp_eq (t := 26) rfl rfl (fun c2 => ?_) (fun c2 => ?_)
    · have hE := len_e (L := 5) hts hp (by decide) c2
      have hb := tk_b (tl := tl) hp
      refine w_N 4 30 [.ref 123, .ref 17, .int 0] [.ref 17, .int 0] rfl ?_
      refine w_cc (w_vst rfl rfl rfl (Nat.le_of_ble_eq_true rfl) (Nat.le_of_ble_eq_true rfl) (tx_kd (i := 16) Q (by decide))) (tx_len (i := 16) (L := 5) Q (by decide) rfl) ?_
      show lm_wp _ 161 33 [.ref 123, .ref 17, .int 0] [.int 5, .int 0] (hi, hl, X) _
      refine w_icmp_ge_f (t := 63) rfl rfl (by decide) ?_
      refine w_N 1 37 [.ref 123, .ref 17, .int 0] [.ref 123] rfl ?_
      refine w_gr 139 rfl rfl rfl (M_kd S) (M_r S (k := 7) (o := 16) rfl) ?_
      refine w_N 1 41 [.ref 123, .ref 17, .int 0] [.ref 123, .ref 139] rfl ?_
      refine w_gi (v := nI (tkF tl ts p)) rfl rfl rfl (M_kd S) (HP.2.2.1) ?_
      refine w_N 2 46 [.ref 123, .ref 17, .int 0] [.int ((nI (tkF tl ts p)) + 0), .ref 139] rfl ?_
      refine w_ia (tkF tl ts p) (v := tl (tkF tl ts p)) rfl (show X.2.1 (139) = 1 from M_k S 16 (by decide)) (show X.2.2.1 (139) = 250 from M_l S 16 (by decide)) (Int32.add_zero _) (by omega) (by decide) (HP.2.1 (tkF tl ts p) (by omega)) ?_
      refine w_N 2 49 [.ref 123, .ref 17, .int 0] [.int 0, .ref 17, .int (tl (tkF tl ts p))] rfl ?_
      refine w_cc (w_vst rfl rfl rfl (Nat.le_of_ble_eq_true rfl) (Nat.le_of_ble_eq_true rfl) (tx_kd (i := 16) Q (by decide))) (tx_char (i := 16) (k := 0) (c := 108) Q (by decide) (by decide) rfl) ?_
      show lm_wp _ 161 52 [.ref 123, .ref 17, .int 0] [.int 108, .int (tl (tkF tl ts p))] (hi, hl, X) _
      refine w_icmp_eq (t := 57) rfl rfl (fun c3 => ?_) (fun c3 => ?_)
      · refine w_N 4 30 [.ref 123, .ref 17, .int 1] [.ref 17, .int 1] rfl ?_
        refine w_cc (w_vst rfl rfl rfl (Nat.le_of_ble_eq_true rfl) (Nat.le_of_ble_eq_true rfl) (tx_kd (i := 16) Q (by decide))) (tx_len (i := 16) (L := 5) Q (by decide) rfl) ?_
        show lm_wp _ 161 33 [.ref 123, .ref 17, .int 1] [.int 5, .int 1] (hi, hl, X) _
        refine w_icmp_ge_f (t := 63) rfl rfl (by decide) ?_
        refine w_N 1 37 [.ref 123, .ref 17, .int 1] [.ref 123] rfl ?_
        refine w_gr 139 rfl rfl rfl (M_kd S) (M_r S (k := 7) (o := 16) rfl) ?_
        refine w_N 1 41 [.ref 123, .ref 17, .int 1] [.ref 123, .ref 139] rfl ?_
        refine w_gi (v := nI (tkF tl ts p)) rfl rfl rfl (M_kd S) (HP.2.2.1) ?_
        refine w_N 2 46 [.ref 123, .ref 17, .int 1] [.int ((nI (tkF tl ts p)) + 1), .ref 139] rfl ?_
        refine w_ia (tkF tl ts p + 1) (v := tl (tkF tl ts p + 1)) rfl (show X.2.1 (139) = 1 from M_k S 16 (by decide)) (show X.2.2.1 (139) = 250 from M_l S 16 (by decide)) (nI_add' _ 1) (by omega) (by decide) (HP.2.1 (tkF tl ts p + 1) (by omega)) ?_
        refine w_N 2 49 [.ref 123, .ref 17, .int 1] [.int 1, .ref 17, .int (tl (tkF tl ts p + 1))] rfl ?_
        refine w_cc (w_vst rfl rfl rfl (Nat.le_of_ble_eq_true rfl) (Nat.le_of_ble_eq_true rfl) (tx_kd (i := 16) Q (by decide))) (tx_char (i := 16) (k := 1) (c := 105) Q (by decide) (by decide) rfl) ?_
        show lm_wp _ 161 52 [.ref 123, .ref 17, .int 1] [.int 105, .int (tl (tkF tl ts p + 1))] (hi, hl, X) _
        refine w_icmp_eq (t := 57) rfl rfl (fun c4 => ?_) (fun c4 => ?_)
        · refine w_N 4 30 [.ref 123, .ref 17, .int 2] [.ref 17, .int 2] rfl ?_
          refine w_cc (w_vst rfl rfl rfl (Nat.le_of_ble_eq_true rfl) (Nat.le_of_ble_eq_true rfl) (tx_kd (i := 16) Q (by decide))) (tx_len (i := 16) (L := 5) Q (by decide) rfl) ?_
          show lm_wp _ 161 33 [.ref 123, .ref 17, .int 2] [.int 5, .int 2] (hi, hl, X) _
          refine w_icmp_ge_f (t := 63) rfl rfl (by decide) ?_
          refine w_N 1 37 [.ref 123, .ref 17, .int 2] [.ref 123] rfl ?_
          refine w_gr 139 rfl rfl rfl (M_kd S) (M_r S (k := 7) (o := 16) rfl) ?_
          refine w_N 1 41 [.ref 123, .ref 17, .int 2] [.ref 123, .ref 139] rfl ?_
          refine w_gi (v := nI (tkF tl ts p)) rfl rfl rfl (M_kd S) (HP.2.2.1) ?_
          refine w_N 2 46 [.ref 123, .ref 17, .int 2] [.int ((nI (tkF tl ts p)) + 2), .ref 139] rfl ?_
          refine w_ia (tkF tl ts p + 2) (v := tl (tkF tl ts p + 2)) rfl (show X.2.1 (139) = 1 from M_k S 16 (by decide)) (show X.2.2.1 (139) = 250 from M_l S 16 (by decide)) (nI_add' _ 2) (by omega) (by decide) (HP.2.1 (tkF tl ts p + 2) (by omega)) ?_
          refine w_N 2 49 [.ref 123, .ref 17, .int 2] [.int 2, .ref 17, .int (tl (tkF tl ts p + 2))] rfl ?_
          refine w_cc (w_vst rfl rfl rfl (Nat.le_of_ble_eq_true rfl) (Nat.le_of_ble_eq_true rfl) (tx_kd (i := 16) Q (by decide))) (tx_char (i := 16) (k := 2) (c := 107) Q (by decide) (by decide) rfl) ?_
          show lm_wp _ 161 52 [.ref 123, .ref 17, .int 2] [.int 107, .int (tl (tkF tl ts p + 2))] (hi, hl, X) _
          refine w_icmp_eq (t := 57) rfl rfl (fun c5 => ?_) (fun c5 => ?_)
          · refine w_N 4 30 [.ref 123, .ref 17, .int 3] [.ref 17, .int 3] rfl ?_
            refine w_cc (w_vst rfl rfl rfl (Nat.le_of_ble_eq_true rfl) (Nat.le_of_ble_eq_true rfl) (tx_kd (i := 16) Q (by decide))) (tx_len (i := 16) (L := 5) Q (by decide) rfl) ?_
            show lm_wp _ 161 33 [.ref 123, .ref 17, .int 3] [.int 5, .int 3] (hi, hl, X) _
            refine w_icmp_ge_f (t := 63) rfl rfl (by decide) ?_
            refine w_N 1 37 [.ref 123, .ref 17, .int 3] [.ref 123] rfl ?_
            refine w_gr 139 rfl rfl rfl (M_kd S) (M_r S (k := 7) (o := 16) rfl) ?_
            refine w_N 1 41 [.ref 123, .ref 17, .int 3] [.ref 123, .ref 139] rfl ?_
            refine w_gi (v := nI (tkF tl ts p)) rfl rfl rfl (M_kd S) (HP.2.2.1) ?_
            refine w_N 2 46 [.ref 123, .ref 17, .int 3] [.int ((nI (tkF tl ts p)) + 3), .ref 139] rfl ?_
            refine w_ia (tkF tl ts p + 3) (v := tl (tkF tl ts p + 3)) rfl (show X.2.1 (139) = 1 from M_k S 16 (by decide)) (show X.2.2.1 (139) = 250 from M_l S 16 (by decide)) (nI_add' _ 3) (by omega) (by decide) (HP.2.1 (tkF tl ts p + 3) (by omega)) ?_
            refine w_N 2 49 [.ref 123, .ref 17, .int 3] [.int 3, .ref 17, .int (tl (tkF tl ts p + 3))] rfl ?_
            refine w_cc (w_vst rfl rfl rfl (Nat.le_of_ble_eq_true rfl) (Nat.le_of_ble_eq_true rfl) (tx_kd (i := 16) Q (by decide))) (tx_char (i := 16) (k := 3) (c := 101) Q (by decide) (by decide) rfl) ?_
            show lm_wp _ 161 52 [.ref 123, .ref 17, .int 3] [.int 101, .int (tl (tkF tl ts p + 3))] (hi, hl, X) _
            refine w_icmp_eq (t := 57) rfl rfl (fun c6 => ?_) (fun c6 => ?_)
            · refine w_N 4 30 [.ref 123, .ref 17, .int 4] [.ref 17, .int 4] rfl ?_
              refine w_cc (w_vst rfl rfl rfl (Nat.le_of_ble_eq_true rfl) (Nat.le_of_ble_eq_true rfl) (tx_kd (i := 16) Q (by decide))) (tx_len (i := 16) (L := 5) Q (by decide) rfl) ?_
              show lm_wp _ 161 33 [.ref 123, .ref 17, .int 4] [.int 5, .int 4] (hi, hl, X) _
              refine w_icmp_ge_f (t := 63) rfl rfl (by decide) ?_
              refine w_N 1 37 [.ref 123, .ref 17, .int 4] [.ref 123] rfl ?_
              refine w_gr 139 rfl rfl rfl (M_kd S) (M_r S (k := 7) (o := 16) rfl) ?_
              refine w_N 1 41 [.ref 123, .ref 17, .int 4] [.ref 123, .ref 139] rfl ?_
              refine w_gi (v := nI (tkF tl ts p)) rfl rfl rfl (M_kd S) (HP.2.2.1) ?_
              refine w_N 2 46 [.ref 123, .ref 17, .int 4] [.int ((nI (tkF tl ts p)) + 4), .ref 139] rfl ?_
              refine w_ia (tkF tl ts p + 4) (v := tl (tkF tl ts p + 4)) rfl (show X.2.1 (139) = 1 from M_k S 16 (by decide)) (show X.2.2.1 (139) = 250 from M_l S 16 (by decide)) (nI_add' _ 4) (by omega) (by decide) (HP.2.1 (tkF tl ts p + 4) (by omega)) ?_
              refine w_N 2 49 [.ref 123, .ref 17, .int 4] [.int 4, .ref 17, .int (tl (tkF tl ts p + 4))] rfl ?_
              refine w_cc (w_vst rfl rfl rfl (Nat.le_of_ble_eq_true rfl) (Nat.le_of_ble_eq_true rfl) (tx_kd (i := 16) Q (by decide))) (tx_char (i := 16) (k := 4) (c := 115) Q (by decide) (by decide) rfl) ?_
              show lm_wp _ 161 52 [.ref 123, .ref 17, .int 4] [.int 115, .int (tl (tkF tl ts p + 4))] (hi, hl, X) _
              refine w_icmp_eq (t := 57) rfl rfl (fun c7 => ?_) (fun c7 => ?_)
              · refine w_N 4 30 [.ref 123, .ref 17, .int 5] [.ref 17, .int 5] rfl ?_
                refine w_cc (w_vst rfl rfl rfl (Nat.le_of_ble_eq_true rfl) (Nat.le_of_ble_eq_true rfl) (tx_kd (i := 16) Q (by decide))) (tx_len (i := 16) (L := 5) Q (by decide) rfl) ?_
                show lm_wp _ 161 33 [.ref 123, .ref 17, .int 5] [.int 5, .int 5] (hi, hl, X) _
                refine w_icmp_ge_t (t := 63) rfl rfl (by decide) ?_
                refine w_N 1 64 [.ref 123, .ref 17, .int 5] [.int 1] rfl ?_
                refine w_rz rfl rfl (by decide) ?_
                show (some (Value.int 1), _) = _
                have e : wdq tl ts p wL5 = true := by
                  have hl : nI wL5.length = 5 := rfl
                  unfold wdq
                  rw [hl]
                  simp [chk, Nat.add_assoc, c1, c2, c3, c4, c5, c6, c7]
                rw [e]; rfl
              · refine w_N 1 56 [.ref 123, .ref 17, .int 4] [.int 0] rfl ?_
                refine w_rz rfl rfl (by decide) ?_
                show (some (Value.int 0), _) = _
                have e : wdq tl ts p wL5 = false := by
                  have hl : nI wL5.length = 5 := rfl
                  unfold wdq
                  rw [hl]
                  simp [chk, Nat.add_assoc, c1, c2, c3, c4, c5, c6, c7]
                rw [e]; rfl
            · refine w_N 1 56 [.ref 123, .ref 17, .int 3] [.int 0] rfl ?_
              refine w_rz rfl rfl (by decide) ?_
              show (some (Value.int 0), _) = _
              have e : wdq tl ts p wL5 = false := by
                have hl : nI wL5.length = 5 := rfl
                unfold wdq
                rw [hl]
                simp [chk, Nat.add_assoc, c1, c2, c3, c4, c5, c6]
              rw [e]; rfl
          · refine w_N 1 56 [.ref 123, .ref 17, .int 2] [.int 0] rfl ?_
            refine w_rz rfl rfl (by decide) ?_
            show (some (Value.int 0), _) = _
            have e : wdq tl ts p wL5 = false := by
              have hl : nI wL5.length = 5 := rfl
              unfold wdq
              rw [hl]
              simp [chk, Nat.add_assoc, c1, c2, c3, c4, c5]
            rw [e]; rfl
        · refine w_N 1 56 [.ref 123, .ref 17, .int 1] [.int 0] rfl ?_
          refine w_rz rfl rfl (by decide) ?_
          show (some (Value.int 0), _) = _
          have e : wdq tl ts p wL5 = false := by
            have hl : nI wL5.length = 5 := rfl
            unfold wdq
            rw [hl]
            simp [chk, Nat.add_assoc, c1, c2, c3, c4]
          rw [e]; rfl
      · refine w_N 1 56 [.ref 123, .ref 17, .int 0] [.int 0] rfl ?_
        refine w_rz rfl rfl (by decide) ?_
        show (some (Value.int 0), _) = _
        have e : wdq tl ts p wL5 = false := by
          have hl : nI wL5.length = 5 := rfl
          unfold wdq
          rw [hl]
          simp [chk, Nat.add_assoc, c1, c2, c3]
        rw [e]; rfl
    · refine w_N 1 25 [.ref 123, .ref 17, lm_jk] [.int 0] rfl ?_
      refine w_rz rfl rfl (by decide) ?_
      show (some (Value.int 0), _) = _
      have e : wdq tl ts p wL5 = false := by
        have hl : nI wL5.length = 5 := rfl
        unfold wdq
        rw [hl]
        simp [chk, Nat.add_assoc, c1, c2]
      rw [e]; rfl
theorem m_isWord6 {d : Nat} {hi : Nat → Nat → Int32} {hl : Nat → Nat → Int64} {X : lm_X} {ts p : Nat} {tl : Nat → Int32} (S : sh_M X 123) (Q : isTx hi X) (hts : ts ≤ 250) (hp : p ≤ ts) (HP : tpM tl ts hi p) : lm_c (d + 2) 161 [.ref 123, .ref 18] (hi, hl, X) (some (.int (bz (wdq tl ts p wL6))), (hi, hl, X)) := by
  refine lm_c_of (lm_w_in (Nat.le_of_ble_eq_true rfl) ?_)
  show lm_wp (d + 2) 161 0 [.ref 123, .ref 18, lm_jk] [] (hi, hl, X) _
  refine w_N 1 1 [.ref 123, .ref 18, lm_jk] [.ref 123] rfl ?_
  refine w_gi (v := tkS tl ts p) rfl rfl rfl (M_kd S) (HP.2.2.2.2.1) ?_
  refine w_N 1 5 [.ref 123, .ref 18, lm_jk] [.int 1, .int (tkS tl ts p)] rfl ?_
  refine w_icmp_ne (t := 24) rfl rfl (fun c1 => ?_) (fun c1 => ?_)
  · refine w_N 1 25 [.ref 123, .ref 18, lm_jk] [.int 0] rfl ?_
    refine w_rz rfl rfl (by decide) ?_
    show (some (Value.int 0), _) = _
    have e : wdq tl ts p wL6 = false := by
      have hl : nI wL6.length = 5 := rfl
      unfold wdq
      rw [hl]
      simp [chk, Nat.add_assoc, c1]
    rw [e]; rfl
  · refine w_N 1 9 [.ref 123, .ref 18, lm_jk] [.ref 123] rfl ?_
    refine w_gi (v := nI (tkE tl ts p)) rfl rfl rfl (M_kd S) (HP.2.2.2.1) ?_
    refine w_N 1 13 [.ref 123, .ref 18, lm_jk] [.ref 123, .int (nI (tkE tl ts p))] rfl ?_
    refine w_gi (v := nI (tkF tl ts p)) rfl rfl rfl (M_kd S) (HP.2.2.1) ?_
    refine w_N 2 18 [.ref 123, .ref 18, lm_jk] [.ref 18, .int ((nI (tkE tl ts p)) - (nI (tkF tl ts p)))] rfl ?_
    refine w_cc (w_vst rfl rfl rfl (Nat.le_of_ble_eq_true rfl) (Nat.le_of_ble_eq_true rfl) (tx_kd (i := 17) Q (by decide))) (tx_len (i := 17) (L := 5) Q (by decide) rfl) ?_
    show lm_wp _ 161 21 [.ref 123, .ref 18, lm_jk] [.int 5, .int ((nI (tkE tl ts p)) - (nI (tkF tl ts p)))] (hi, hl, X) _
    refine w_icmp_eq (t := 26) rfl rfl (fun c2 => ?_) (fun c2 => ?_)
    · have hE := len_e (L := 5) hts hp (by decide) c2
      have hb := tk_b (tl := tl) hp
      refine w_N 4 30 [.ref 123, .ref 18, .int 0] [.ref 18, .int 0] rfl ?_
      refine w_cc (w_vst rfl rfl rfl (Nat.le_of_ble_eq_true rfl) (Nat.le_of_ble_eq_true rfl) (tx_kd (i := 17) Q (by decide))) (tx_len (i := 17) (L := 5) Q (by decide) rfl) ?_
      show lm_wp _ 161 33 [.ref 123, .ref 18, .int 0] [.int 5, .int 0] (hi, hl, X) _
      refine w_icmp_ge_f (t := 63) rfl rfl (by decide) ?_
      refine w_N 1 37 [.ref 123, .ref 18, .int 0] [.ref 123] rfl ?_
      refine w_gr 139 rfl rfl rfl (M_kd S) (M_r S (k := 7) (o := 16) rfl) ?_
      refine w_N 1 41 [.ref 123, .ref 18, .int 0] [.ref 123, .ref 139] rfl ?_
      refine w_gi (v := nI (tkF tl ts p)) rfl rfl rfl (M_kd S) (HP.2.2.1) ?_
      refine w_N 2 46 [.ref 123, .ref 18, .int 0] [.int ((nI (tkF tl ts p)) + 0), .ref 139] rfl ?_
      refine w_ia (tkF tl ts p) (v := tl (tkF tl ts p)) rfl (show X.2.1 (139) = 1 from M_k S 16 (by decide)) (show X.2.2.1 (139) = 250 from M_l S 16 (by decide)) (Int32.add_zero _) (by omega) (by decide) (HP.2.1 (tkF tl ts p) (by omega)) ?_
      refine w_N 2 49 [.ref 123, .ref 18, .int 0] [.int 0, .ref 18, .int (tl (tkF tl ts p))] rfl ?_
      refine w_cc (w_vst rfl rfl rfl (Nat.le_of_ble_eq_true rfl) (Nat.le_of_ble_eq_true rfl) (tx_kd (i := 17) Q (by decide))) (tx_char (i := 17) (k := 0) (c := 104) Q (by decide) (by decide) rfl) ?_
      show lm_wp _ 161 52 [.ref 123, .ref 18, .int 0] [.int 104, .int (tl (tkF tl ts p))] (hi, hl, X) _
      refine w_icmp_eq (t := 57) rfl rfl (fun c3 => ?_) (fun c3 => ?_)
      · refine w_N 4 30 [.ref 123, .ref 18, .int 1] [.ref 18, .int 1] rfl ?_
        refine w_cc (w_vst rfl rfl rfl (Nat.le_of_ble_eq_true rfl) (Nat.le_of_ble_eq_true rfl) (tx_kd (i := 17) Q (by decide))) (tx_len (i := 17) (L := 5) Q (by decide) rfl) ?_
        show lm_wp _ 161 33 [.ref 123, .ref 18, .int 1] [.int 5, .int 1] (hi, hl, X) _
        refine w_icmp_ge_f (t := 63) rfl rfl (by decide) ?_
        refine w_N 1 37 [.ref 123, .ref 18, .int 1] [.ref 123] rfl ?_
        refine w_gr 139 rfl rfl rfl (M_kd S) (M_r S (k := 7) (o := 16) rfl) ?_
        refine w_N 1 41 [.ref 123, .ref 18, .int 1] [.ref 123, .ref 139] rfl ?_
        refine w_gi (v := nI (tkF tl ts p)) rfl rfl rfl (M_kd S) (HP.2.2.1) ?_
        refine w_N 2 46 [.ref 123, .ref 18, .int 1] [.int ((nI (tkF tl ts p)) + 1), .ref 139] rfl ?_
        refine w_ia (tkF tl ts p + 1) (v := tl (tkF tl ts p + 1)) rfl (show X.2.1 (139) = 1 from M_k S 16 (by decide)) (show X.2.2.1 (139) = 250 from M_l S 16 (by decide)) (nI_add' _ 1) (by omega) (by decide) (HP.2.1 (tkF tl ts p + 1) (by omega)) ?_
        refine w_N 2 49 [.ref 123, .ref 18, .int 1] [.int 1, .ref 18, .int (tl (tkF tl ts p + 1))] rfl ?_
        refine w_cc (w_vst rfl rfl rfl (Nat.le_of_ble_eq_true rfl) (Nat.le_of_ble_eq_true rfl) (tx_kd (i := 17) Q (by decide))) (tx_char (i := 17) (k := 1) (c := 97) Q (by decide) (by decide) rfl) ?_
        show lm_wp _ 161 52 [.ref 123, .ref 18, .int 1] [.int 97, .int (tl (tkF tl ts p + 1))] (hi, hl, X) _
        refine w_icmp_eq (t := 57) rfl rfl (fun c4 => ?_) (fun c4 => ?_)
        · refine w_N 4 30 [.ref 123, .ref 18, .int 2] [.ref 18, .int 2] rfl ?_
          refine w_cc (w_vst rfl rfl rfl (Nat.le_of_ble_eq_true rfl) (Nat.le_of_ble_eq_true rfl) (tx_kd (i := 17) Q (by decide))) (tx_len (i := 17) (L := 5) Q (by decide) rfl) ?_
          show lm_wp _ 161 33 [.ref 123, .ref 18, .int 2] [.int 5, .int 2] (hi, hl, X) _
          refine w_icmp_ge_f (t := 63) rfl rfl (by decide) ?_
          refine w_N 1 37 [.ref 123, .ref 18, .int 2] [.ref 123] rfl ?_
          refine w_gr 139 rfl rfl rfl (M_kd S) (M_r S (k := 7) (o := 16) rfl) ?_
          refine w_N 1 41 [.ref 123, .ref 18, .int 2] [.ref 123, .ref 139] rfl ?_
          refine w_gi (v := nI (tkF tl ts p)) rfl rfl rfl (M_kd S) (HP.2.2.1) ?_
          refine w_N 2 46 [.ref 123, .ref 18, .int 2] [.int ((nI (tkF tl ts p)) + 2), .ref 139] rfl ?_
          refine w_ia (tkF tl ts p + 2) (v := tl (tkF tl ts p + 2)) rfl (show X.2.1 (139) = 1 from M_k S 16 (by decide)) (show X.2.2.1 (139) = 250 from M_l S 16 (by decide)) (nI_add' _ 2) (by omega) (by decide) (HP.2.1 (tkF tl ts p + 2) (by omega)) ?_
          refine w_N 2 49 [.ref 123, .ref 18, .int 2] [.int 2, .ref 18, .int (tl (tkF tl ts p + 2))] rfl ?_
          refine w_cc (w_vst rfl rfl rfl (Nat.le_of_ble_eq_true rfl) (Nat.le_of_ble_eq_true rfl) (tx_kd (i := 17) Q (by decide))) (tx_char (i := 17) (k := 2) (c := 116) Q (by decide) (by decide) rfl) ?_
          show lm_wp _ 161 52 [.ref 123, .ref 18, .int 2] [.int 116, .int (tl (tkF tl ts p + 2))] (hi, hl, X) _
          refine w_icmp_eq (t := 57) rfl rfl (fun c5 => ?_) (fun c5 => ?_)
          · refine w_N 4 30 [.ref 123, .ref 18, .int 3] [.ref 18, .int 3] rfl ?_
            refine w_cc (w_vst rfl rfl rfl (Nat.le_of_ble_eq_true rfl) (Nat.le_of_ble_eq_true rfl) (tx_kd (i := 17) Q (by decide))) (tx_len (i := 17) (L := 5) Q (by decide) rfl) ?_
            show lm_wp _ 161 33 [.ref 123, .ref 18, .int 3] [.int 5, .int 3] (hi, hl, X) _
            refine w_icmp_ge_f (t := 63) rfl rfl (by decide) ?_
            refine w_N 1 37 [.ref 123, .ref 18, .int 3] [.ref 123] rfl ?_
            refine w_gr 139 rfl rfl rfl (M_kd S) (M_r S (k := 7) (o := 16) rfl) ?_
            refine w_N 1 41 [.ref 123, .ref 18, .int 3] [.ref 123, .ref 139] rfl ?_
            refine w_gi (v := nI (tkF tl ts p)) rfl rfl rfl (M_kd S) (HP.2.2.1) ?_
            refine w_N 2 46 [.ref 123, .ref 18, .int 3] [.int ((nI (tkF tl ts p)) + 3), .ref 139] rfl ?_
            refine w_ia (tkF tl ts p + 3) (v := tl (tkF tl ts p + 3)) rfl (show X.2.1 (139) = 1 from M_k S 16 (by decide)) (show X.2.2.1 (139) = 250 from M_l S 16 (by decide)) (nI_add' _ 3) (by omega) (by decide) (HP.2.1 (tkF tl ts p + 3) (by omega)) ?_
            refine w_N 2 49 [.ref 123, .ref 18, .int 3] [.int 3, .ref 18, .int (tl (tkF tl ts p + 3))] rfl ?_
            refine w_cc (w_vst rfl rfl rfl (Nat.le_of_ble_eq_true rfl) (Nat.le_of_ble_eq_true rfl) (tx_kd (i := 17) Q (by decide))) (tx_char (i := 17) (k := 3) (c := 101) Q (by decide) (by decide) rfl) ?_
            show lm_wp _ 161 52 [.ref 123, .ref 18, .int 3] [.int 101, .int (tl (tkF tl ts p + 3))] (hi, hl, X) _
            refine w_icmp_eq (t := 57) rfl rfl (fun c6 => ?_) (fun c6 => ?_)
            · refine w_N 4 30 [.ref 123, .ref 18, .int 4] [.ref 18, .int 4] rfl ?_
              refine w_cc (w_vst rfl rfl rfl (Nat.le_of_ble_eq_true rfl) (Nat.le_of_ble_eq_true rfl) (tx_kd (i := 17) Q (by decide))) (tx_len (i := 17) (L := 5) Q (by decide) rfl) ?_
              show lm_wp _ 161 33 [.ref 123, .ref 18, .int 4] [.int 5, .int 4] (hi, hl, X) _
              refine w_icmp_ge_f (t := 63) rfl rfl (by decide) ?_
              refine w_N 1 37 [.ref 123, .ref 18, .int 4] [.ref 123] rfl ?_
              refine w_gr 139 rfl rfl rfl (M_kd S) (M_r S (k := 7) (o := 16) rfl) ?_
              refine w_N 1 41 [.ref 123, .ref 18, .int 4] [.ref 123, .ref 139] rfl ?_
              refine w_gi (v := nI (tkF tl ts p)) rfl rfl rfl (M_kd S) (HP.2.2.1) ?_
              refine w_N 2 46 [.ref 123, .ref 18, .int 4] [.int ((nI (tkF tl ts p)) + 4), .ref 139] rfl ?_
              refine w_ia (tkF tl ts p + 4) (v := tl (tkF tl ts p + 4)) rfl (show X.2.1 (139) = 1 from M_k S 16 (by decide)) (show X.2.2.1 (139) = 250 from M_l S 16 (by decide)) (nI_add' _ 4) (by omega) (by decide) (HP.2.1 (tkF tl ts p + 4) (by omega)) ?_
              refine w_N 2 49 [.ref 123, .ref 18, .int 4] [.int 4, .ref 18, .int (tl (tkF tl ts p + 4))] rfl ?_
              refine w_cc (w_vst rfl rfl rfl (Nat.le_of_ble_eq_true rfl) (Nat.le_of_ble_eq_true rfl) (tx_kd (i := 17) Q (by decide))) (tx_char (i := 17) (k := 4) (c := 115) Q (by decide) (by decide) rfl) ?_
              show lm_wp _ 161 52 [.ref 123, .ref 18, .int 4] [.int 115, .int (tl (tkF tl ts p + 4))] (hi, hl, X) _
              refine w_icmp_eq (t := 57) rfl rfl (fun c7 => ?_) (fun c7 => ?_)
              · refine w_N 4 30 [.ref 123, .ref 18, .int 5] [.ref 18, .int 5] rfl ?_
                refine w_cc (w_vst rfl rfl rfl (Nat.le_of_ble_eq_true rfl) (Nat.le_of_ble_eq_true rfl) (tx_kd (i := 17) Q (by decide))) (tx_len (i := 17) (L := 5) Q (by decide) rfl) ?_
                show lm_wp _ 161 33 [.ref 123, .ref 18, .int 5] [.int 5, .int 5] (hi, hl, X) _
                refine w_icmp_ge_t (t := 63) rfl rfl (by decide) ?_
                refine w_N 1 64 [.ref 123, .ref 18, .int 5] [.int 1] rfl ?_
                refine w_rz rfl rfl (by decide) ?_
                show (some (Value.int 1), _) = _
                have e : wdq tl ts p wL6 = true := by
                  have hl : nI wL6.length = 5 := rfl
                  unfold wdq
                  rw [hl]
                  simp [chk, Nat.add_assoc, c1, c2, c3, c4, c5, c6, c7]
                rw [e]; rfl
              · refine w_N 1 56 [.ref 123, .ref 18, .int 4] [.int 0] rfl ?_
                refine w_rz rfl rfl (by decide) ?_
                show (some (Value.int 0), _) = _
                have e : wdq tl ts p wL6 = false := by
                  have hl : nI wL6.length = 5 := rfl
                  unfold wdq
                  rw [hl]
                  simp [chk, Nat.add_assoc, c1, c2, c3, c4, c5, c6, c7]
                rw [e]; rfl
            · refine w_N 1 56 [.ref 123, .ref 18, .int 3] [.int 0] rfl ?_
              refine w_rz rfl rfl (by decide) ?_
              show (some (Value.int 0), _) = _
              have e : wdq tl ts p wL6 = false := by
                have hl : nI wL6.length = 5 := rfl
                unfold wdq
                rw [hl]
                simp [chk, Nat.add_assoc, c1, c2, c3, c4, c5, c6]
              rw [e]; rfl
          · refine w_N 1 56 [.ref 123, .ref 18, .int 2] [.int 0] rfl ?_
            refine w_rz rfl rfl (by decide) ?_
            show (some (Value.int 0), _) = _
            have e : wdq tl ts p wL6 = false := by
              have hl : nI wL6.length = 5 := rfl
              unfold wdq
              rw [hl]
              simp [chk, Nat.add_assoc, c1, c2, c3, c4, c5]
            rw [e]; rfl
        · refine w_N 1 56 [.ref 123, .ref 18, .int 1] [.int 0] rfl ?_
          refine w_rz rfl rfl (by decide) ?_
          show (some (Value.int 0), _) = _
          have e : wdq tl ts p wL6 = false := by
            have hl : nI wL6.length = 5 := rfl
            unfold wdq
            rw [hl]
            simp [chk, Nat.add_assoc, c1, c2, c3, c4]
          rw [e]; rfl
      · refine w_N 1 56 [.ref 123, .ref 18, .int 0] [.int 0] rfl ?_
        refine w_rz rfl rfl (by decide) ?_
        show (some (Value.int 0), _) = _
        have e : wdq tl ts p wL6 = false := by
          have hl : nI wL6.length = 5 := rfl
          unfold wdq
          rw [hl]
          simp [chk, Nat.add_assoc, c1, c2, c3]
        rw [e]; rfl
    · refine w_N 1 25 [.ref 123, .ref 18, lm_jk] [.int 0] rfl ?_
      refine w_rz rfl rfl (by decide) ?_
      show (some (Value.int 0), _) = _
      have e : wdq tl ts p wL6 = false := by
        have hl : nI wL6.length = 5 := rfl
        unfold wdq
        rw [hl]
        simp [chk, Nat.add_assoc, c1, c2]
      rw [e]; rfl
theorem m_isWord7 {d : Nat} {hi : Nat → Nat → Int32} {hl : Nat → Nat → Int64} {X : lm_X} {ts p : Nat} {tl : Nat → Int32} (S : sh_M X 123) (Q : isTx hi X) (hts : ts ≤ 250) (hp : p ≤ ts) (HP : tpM tl ts hi p) : lm_c (d + 2) 161 [.ref 123, .ref 19] (hi, hl, X) (some (.int (bz (wdq tl ts p wL7))), (hi, hl, X)) := by
  refine lm_c_of (lm_w_in (Nat.le_of_ble_eq_true rfl) ?_)
  show lm_wp (d + 2) 161 0 [.ref 123, .ref 19, lm_jk] [] (hi, hl, X) _
  refine w_N 1 1 [.ref 123, .ref 19, lm_jk] [.ref 123] rfl ?_
  refine w_gi (v := tkS tl ts p) rfl rfl rfl (M_kd S) (HP.2.2.2.2.1) ?_
  refine w_N 1 5 [.ref 123, .ref 19, lm_jk] [.int 1, .int (tkS tl ts p)] rfl ?_
  refine w_icmp_ne (t := 24) rfl rfl (fun c1 => ?_) (fun c1 => ?_)
  · refine w_N 1 25 [.ref 123, .ref 19, lm_jk] [.int 0] rfl ?_
    refine w_rz rfl rfl (by decide) ?_
    show (some (Value.int 0), _) = _
    have e : wdq tl ts p wL7 = false := by
      have hl : nI wL7.length = 6 := rfl
      unfold wdq
      rw [hl]
      simp [chk, Nat.add_assoc, c1]
    rw [e]; rfl
  · refine w_N 1 9 [.ref 123, .ref 19, lm_jk] [.ref 123] rfl ?_
    refine w_gi (v := nI (tkE tl ts p)) rfl rfl rfl (M_kd S) (HP.2.2.2.1) ?_
    refine w_N 1 13 [.ref 123, .ref 19, lm_jk] [.ref 123, .int (nI (tkE tl ts p))] rfl ?_
    refine w_gi (v := nI (tkF tl ts p)) rfl rfl rfl (M_kd S) (HP.2.2.1) ?_
    refine w_N 2 18 [.ref 123, .ref 19, lm_jk] [.ref 19, .int ((nI (tkE tl ts p)) - (nI (tkF tl ts p)))] rfl ?_
    refine w_cc (w_vst rfl rfl rfl (Nat.le_of_ble_eq_true rfl) (Nat.le_of_ble_eq_true rfl) (tx_kd (i := 18) Q (by decide))) (tx_len (i := 18) (L := 6) Q (by decide) rfl) ?_
    show lm_wp _ 161 21 [.ref 123, .ref 19, lm_jk] [.int 6, .int ((nI (tkE tl ts p)) - (nI (tkF tl ts p)))] (hi, hl, X) _
    refine w_icmp_eq (t := 26) rfl rfl (fun c2 => ?_) (fun c2 => ?_)
    · have hE := len_e (L := 6) hts hp (by decide) c2
      have hb := tk_b (tl := tl) hp
      refine w_N 4 30 [.ref 123, .ref 19, .int 0] [.ref 19, .int 0] rfl ?_
      refine w_cc (w_vst rfl rfl rfl (Nat.le_of_ble_eq_true rfl) (Nat.le_of_ble_eq_true rfl) (tx_kd (i := 18) Q (by decide))) (tx_len (i := 18) (L := 6) Q (by decide) rfl) ?_
      show lm_wp _ 161 33 [.ref 123, .ref 19, .int 0] [.int 6, .int 0] (hi, hl, X) _
      refine w_icmp_ge_f (t := 63) rfl rfl (by decide) ?_
      refine w_N 1 37 [.ref 123, .ref 19, .int 0] [.ref 123] rfl ?_
      refine w_gr 139 rfl rfl rfl (M_kd S) (M_r S (k := 7) (o := 16) rfl) ?_
      refine w_N 1 41 [.ref 123, .ref 19, .int 0] [.ref 123, .ref 139] rfl ?_
      refine w_gi (v := nI (tkF tl ts p)) rfl rfl rfl (M_kd S) (HP.2.2.1) ?_
      refine w_N 2 46 [.ref 123, .ref 19, .int 0] [.int ((nI (tkF tl ts p)) + 0), .ref 139] rfl ?_
      refine w_ia (tkF tl ts p) (v := tl (tkF tl ts p)) rfl (show X.2.1 (139) = 1 from M_k S 16 (by decide)) (show X.2.2.1 (139) = 250 from M_l S 16 (by decide)) (Int32.add_zero _) (by omega) (by decide) (HP.2.1 (tkF tl ts p) (by omega)) ?_
      refine w_N 2 49 [.ref 123, .ref 19, .int 0] [.int 0, .ref 19, .int (tl (tkF tl ts p))] rfl ?_
      refine w_cc (w_vst rfl rfl rfl (Nat.le_of_ble_eq_true rfl) (Nat.le_of_ble_eq_true rfl) (tx_kd (i := 18) Q (by decide))) (tx_char (i := 18) (k := 0) (c := 99) Q (by decide) (by decide) rfl) ?_
      show lm_wp _ 161 52 [.ref 123, .ref 19, .int 0] [.int 99, .int (tl (tkF tl ts p))] (hi, hl, X) _
      refine w_icmp_eq (t := 57) rfl rfl (fun c3 => ?_) (fun c3 => ?_)
      · refine w_N 4 30 [.ref 123, .ref 19, .int 1] [.ref 19, .int 1] rfl ?_
        refine w_cc (w_vst rfl rfl rfl (Nat.le_of_ble_eq_true rfl) (Nat.le_of_ble_eq_true rfl) (tx_kd (i := 18) Q (by decide))) (tx_len (i := 18) (L := 6) Q (by decide) rfl) ?_
        show lm_wp _ 161 33 [.ref 123, .ref 19, .int 1] [.int 6, .int 1] (hi, hl, X) _
        refine w_icmp_ge_f (t := 63) rfl rfl (by decide) ?_
        refine w_N 1 37 [.ref 123, .ref 19, .int 1] [.ref 123] rfl ?_
        refine w_gr 139 rfl rfl rfl (M_kd S) (M_r S (k := 7) (o := 16) rfl) ?_
        refine w_N 1 41 [.ref 123, .ref 19, .int 1] [.ref 123, .ref 139] rfl ?_
        refine w_gi (v := nI (tkF tl ts p)) rfl rfl rfl (M_kd S) (HP.2.2.1) ?_
        refine w_N 2 46 [.ref 123, .ref 19, .int 1] [.int ((nI (tkF tl ts p)) + 1), .ref 139] rfl ?_
        refine w_ia (tkF tl ts p + 1) (v := tl (tkF tl ts p + 1)) rfl (show X.2.1 (139) = 1 from M_k S 16 (by decide)) (show X.2.2.1 (139) = 250 from M_l S 16 (by decide)) (nI_add' _ 1) (by omega) (by decide) (HP.2.1 (tkF tl ts p + 1) (by omega)) ?_
        refine w_N 2 49 [.ref 123, .ref 19, .int 1] [.int 1, .ref 19, .int (tl (tkF tl ts p + 1))] rfl ?_
        refine w_cc (w_vst rfl rfl rfl (Nat.le_of_ble_eq_true rfl) (Nat.le_of_ble_eq_true rfl) (tx_kd (i := 18) Q (by decide))) (tx_char (i := 18) (k := 1) (c := 111) Q (by decide) (by decide) rfl) ?_
        show lm_wp _ 161 52 [.ref 123, .ref 19, .int 1] [.int 111, .int (tl (tkF tl ts p + 1))] (hi, hl, X) _
        refine w_icmp_eq (t := 57) rfl rfl (fun c4 => ?_) (fun c4 => ?_)
        · refine w_N 4 30 [.ref 123, .ref 19, .int 2] [.ref 19, .int 2] rfl ?_
          refine w_cc (w_vst rfl rfl rfl (Nat.le_of_ble_eq_true rfl) (Nat.le_of_ble_eq_true rfl) (tx_kd (i := 18) Q (by decide))) (tx_len (i := 18) (L := 6) Q (by decide) rfl) ?_
          show lm_wp _ 161 33 [.ref 123, .ref 19, .int 2] [.int 6, .int 2] (hi, hl, X) _
          refine w_icmp_ge_f (t := 63) rfl rfl (by decide) ?_
          refine w_N 1 37 [.ref 123, .ref 19, .int 2] [.ref 123] rfl ?_
          refine w_gr 139 rfl rfl rfl (M_kd S) (M_r S (k := 7) (o := 16) rfl) ?_
          refine w_N 1 41 [.ref 123, .ref 19, .int 2] [.ref 123, .ref 139] rfl ?_
          refine w_gi (v := nI (tkF tl ts p)) rfl rfl rfl (M_kd S) (HP.2.2.1) ?_
          refine w_N 2 46 [.ref 123, .ref 19, .int 2] [.int ((nI (tkF tl ts p)) + 2), .ref 139] rfl ?_
          refine w_ia (tkF tl ts p + 2) (v := tl (tkF tl ts p + 2)) rfl (show X.2.1 (139) = 1 from M_k S 16 (by decide)) (show X.2.2.1 (139) = 250 from M_l S 16 (by decide)) (nI_add' _ 2) (by omega) (by decide) (HP.2.1 (tkF tl ts p + 2) (by omega)) ?_
          refine w_N 2 49 [.ref 123, .ref 19, .int 2] [.int 2, .ref 19, .int (tl (tkF tl ts p + 2))] rfl ?_
          refine w_cc (w_vst rfl rfl rfl (Nat.le_of_ble_eq_true rfl) (Nat.le_of_ble_eq_true rfl) (tx_kd (i := 18) Q (by decide))) (tx_char (i := 18) (k := 2) (c := 117) Q (by decide) (by decide) rfl) ?_
          show lm_wp _ 161 52 [.ref 123, .ref 19, .int 2] [.int 117, .int (tl (tkF tl ts p + 2))] (hi, hl, X) _
          refine w_icmp_eq (t := 57) rfl rfl (fun c5 => ?_) (fun c5 => ?_)
          · refine w_N 4 30 [.ref 123, .ref 19, .int 3] [.ref 19, .int 3] rfl ?_
            refine w_cc (w_vst rfl rfl rfl (Nat.le_of_ble_eq_true rfl) (Nat.le_of_ble_eq_true rfl) (tx_kd (i := 18) Q (by decide))) (tx_len (i := 18) (L := 6) Q (by decide) rfl) ?_
            show lm_wp _ 161 33 [.ref 123, .ref 19, .int 3] [.int 6, .int 3] (hi, hl, X) _
            refine w_icmp_ge_f (t := 63) rfl rfl (by decide) ?_
            refine w_N 1 37 [.ref 123, .ref 19, .int 3] [.ref 123] rfl ?_
            refine w_gr 139 rfl rfl rfl (M_kd S) (M_r S (k := 7) (o := 16) rfl) ?_
            refine w_N 1 41 [.ref 123, .ref 19, .int 3] [.ref 123, .ref 139] rfl ?_
            refine w_gi (v := nI (tkF tl ts p)) rfl rfl rfl (M_kd S) (HP.2.2.1) ?_
            refine w_N 2 46 [.ref 123, .ref 19, .int 3] [.int ((nI (tkF tl ts p)) + 3), .ref 139] rfl ?_
            refine w_ia (tkF tl ts p + 3) (v := tl (tkF tl ts p + 3)) rfl (show X.2.1 (139) = 1 from M_k S 16 (by decide)) (show X.2.2.1 (139) = 250 from M_l S 16 (by decide)) (nI_add' _ 3) (by omega) (by decide) (HP.2.1 (tkF tl ts p + 3) (by omega)) ?_
            refine w_N 2 49 [.ref 123, .ref 19, .int 3] [.int 3, .ref 19, .int (tl (tkF tl ts p + 3))] rfl ?_
            refine w_cc (w_vst rfl rfl rfl (Nat.le_of_ble_eq_true rfl) (Nat.le_of_ble_eq_true rfl) (tx_kd (i := 18) Q (by decide))) (tx_char (i := 18) (k := 3) (c := 110) Q (by decide) (by decide) rfl) ?_
            show lm_wp _ 161 52 [.ref 123, .ref 19, .int 3] [.int 110, .int (tl (tkF tl ts p + 3))] (hi, hl, X) _
            refine w_icmp_eq (t := 57) rfl rfl (fun c6 => ?_) (fun c6 => ?_)
            · refine w_N 4 30 [.ref 123, .ref 19, .int 4] [.ref 19, .int 4] rfl ?_
              refine w_cc (w_vst rfl rfl rfl (Nat.le_of_ble_eq_true rfl) (Nat.le_of_ble_eq_true rfl) (tx_kd (i := 18) Q (by decide))) (tx_len (i := 18) (L := 6) Q (by decide) rfl) ?_
              show lm_wp _ 161 33 [.ref 123, .ref 19, .int 4] [.int 6, .int 4] (hi, hl, X) _
              refine w_icmp_ge_f (t := 63) rfl rfl (by decide) ?_
              refine w_N 1 37 [.ref 123, .ref 19, .int 4] [.ref 123] rfl ?_
              refine w_gr 139 rfl rfl rfl (M_kd S) (M_r S (k := 7) (o := 16) rfl) ?_
              refine w_N 1 41 [.ref 123, .ref 19, .int 4] [.ref 123, .ref 139] rfl ?_
              refine w_gi (v := nI (tkF tl ts p)) rfl rfl rfl (M_kd S) (HP.2.2.1) ?_
              refine w_N 2 46 [.ref 123, .ref 19, .int 4] [.int ((nI (tkF tl ts p)) + 4), .ref 139] rfl ?_
              refine w_ia (tkF tl ts p + 4) (v := tl (tkF tl ts p + 4)) rfl (show X.2.1 (139) = 1 from M_k S 16 (by decide)) (show X.2.2.1 (139) = 250 from M_l S 16 (by decide)) (nI_add' _ 4) (by omega) (by decide) (HP.2.1 (tkF tl ts p + 4) (by omega)) ?_
              refine w_N 2 49 [.ref 123, .ref 19, .int 4] [.int 4, .ref 19, .int (tl (tkF tl ts p + 4))] rfl ?_
              refine w_cc (w_vst rfl rfl rfl (Nat.le_of_ble_eq_true rfl) (Nat.le_of_ble_eq_true rfl) (tx_kd (i := 18) Q (by decide))) (tx_char (i := 18) (k := 4) (c := 116) Q (by decide) (by decide) rfl) ?_
              show lm_wp _ 161 52 [.ref 123, .ref 19, .int 4] [.int 116, .int (tl (tkF tl ts p + 4))] (hi, hl, X) _
              refine w_icmp_eq (t := 57) rfl rfl (fun c7 => ?_) (fun c7 => ?_)
              · refine w_N 4 30 [.ref 123, .ref 19, .int 5] [.ref 19, .int 5] rfl ?_
                refine w_cc (w_vst rfl rfl rfl (Nat.le_of_ble_eq_true rfl) (Nat.le_of_ble_eq_true rfl) (tx_kd (i := 18) Q (by decide))) (tx_len (i := 18) (L := 6) Q (by decide) rfl) ?_
                show lm_wp _ 161 33 [.ref 123, .ref 19, .int 5] [.int 6, .int 5] (hi, hl, X) _
                refine w_icmp_ge_f (t := 63) rfl rfl (by decide) ?_
                refine w_N 1 37 [.ref 123, .ref 19, .int 5] [.ref 123] rfl ?_
                refine w_gr 139 rfl rfl rfl (M_kd S) (M_r S (k := 7) (o := 16) rfl) ?_
                refine w_N 1 41 [.ref 123, .ref 19, .int 5] [.ref 123, .ref 139] rfl ?_
                refine w_gi (v := nI (tkF tl ts p)) rfl rfl rfl (M_kd S) (HP.2.2.1) ?_
                refine w_N 2 46 [.ref 123, .ref 19, .int 5] [.int ((nI (tkF tl ts p)) + 5), .ref 139] rfl ?_
                refine w_ia (tkF tl ts p + 5) (v := tl (tkF tl ts p + 5)) rfl (show X.2.1 (139) = 1 from M_k S 16 (by decide)) (show X.2.2.1 (139) = 250 from M_l S 16 (by decide)) (nI_add' _ 5) (by omega) (by decide) (HP.2.1 (tkF tl ts p + 5) (by omega)) ?_
                refine w_N 2 49 [.ref 123, .ref 19, .int 5] [.int 5, .ref 19, .int (tl (tkF tl ts p + 5))] rfl ?_
                refine w_cc (w_vst rfl rfl rfl (Nat.le_of_ble_eq_true rfl) (Nat.le_of_ble_eq_true rfl) (tx_kd (i := 18) Q (by decide))) (tx_char (i := 18) (k := 5) (c := 115) Q (by decide) (by decide) rfl) ?_
                show lm_wp _ 161 52 [.ref 123, .ref 19, .int 5] [.int 115, .int (tl (tkF tl ts p + 5))] (hi, hl, X) _
                refine w_icmp_eq (t := 57) rfl rfl (fun c8 => ?_) (fun c8 => ?_)
                · refine w_N 4 30 [.ref 123, .ref 19, .int 6] [.ref 19, .int 6] rfl ?_
                  refine w_cc (w_vst rfl rfl rfl (Nat.le_of_ble_eq_true rfl) (Nat.le_of_ble_eq_true rfl) (tx_kd (i := 18) Q (by decide))) (tx_len (i := 18) (L := 6) Q (by decide) rfl) ?_
                  show lm_wp _ 161 33 [.ref 123, .ref 19, .int 6] [.int 6, .int 6] (hi, hl, X) _
                  refine w_icmp_ge_t (t := 63) rfl rfl (by decide) ?_
                  refine w_N 1 64 [.ref 123, .ref 19, .int 6] [.int 1] rfl ?_
                  refine w_rz rfl rfl (by decide) ?_
                  show (some (Value.int 1), _) = _
                  have e : wdq tl ts p wL7 = true := by
                    have hl : nI wL7.length = 6 := rfl
                    unfold wdq
                    rw [hl]
                    simp [chk, Nat.add_assoc, c1, c2, c3, c4, c5, c6, c7, c8]
                  rw [e]; rfl
                · refine w_N 1 56 [.ref 123, .ref 19, .int 5] [.int 0] rfl ?_
                  refine w_rz rfl rfl (by decide) ?_
                  show (some (Value.int 0), _) = _
                  have e : wdq tl ts p wL7 = false := by
                    have hl : nI wL7.length = 6 := rfl
                    unfold wdq
                    rw [hl]
                    simp [chk, Nat.add_assoc, c1, c2, c3, c4, c5, c6, c7, c8]
                  rw [e]; rfl
              · refine w_N 1 56 [.ref 123, .ref 19, .int 4] [.int 0] rfl ?_
                refine w_rz rfl rfl (by decide) ?_
                show (some (Value.int 0), _) = _
                have e : wdq tl ts p wL7 = false := by
                  have hl : nI wL7.length = 6 := rfl
                  unfold wdq
                  rw [hl]
                  simp [chk, Nat.add_assoc, c1, c2, c3, c4, c5, c6, c7]
                rw [e]; rfl
            · refine w_N 1 56 [.ref 123, .ref 19, .int 3] [.int 0] rfl ?_
              refine w_rz rfl rfl (by decide) ?_
              show (some (Value.int 0), _) = _
              have e : wdq tl ts p wL7 = false := by
                have hl : nI wL7.length = 6 := rfl
                unfold wdq
                rw [hl]
                simp [chk, Nat.add_assoc, c1, c2, c3, c4, c5, c6]
              rw [e]; rfl
          · refine w_N 1 56 [.ref 123, .ref 19, .int 2] [.int 0] rfl ?_
            refine w_rz rfl rfl (by decide) ?_
            show (some (Value.int 0), _) = _
            have e : wdq tl ts p wL7 = false := by
              have hl : nI wL7.length = 6 := rfl
              unfold wdq
              rw [hl]
              simp [chk, Nat.add_assoc, c1, c2, c3, c4, c5]
            rw [e]; rfl
        · refine w_N 1 56 [.ref 123, .ref 19, .int 1] [.int 0] rfl ?_
          refine w_rz rfl rfl (by decide) ?_
          show (some (Value.int 0), _) = _
          have e : wdq tl ts p wL7 = false := by
            have hl : nI wL7.length = 6 := rfl
            unfold wdq
            rw [hl]
            simp [chk, Nat.add_assoc, c1, c2, c3, c4]
          rw [e]; rfl
      · refine w_N 1 56 [.ref 123, .ref 19, .int 0] [.int 0] rfl ?_
        refine w_rz rfl rfl (by decide) ?_
        show (some (Value.int 0), _) = _
        have e : wdq tl ts p wL7 = false := by
          have hl : nI wL7.length = 6 := rfl
          unfold wdq
          rw [hl]
          simp [chk, Nat.add_assoc, c1, c2, c3]
        rw [e]; rfl
    · refine w_N 1 25 [.ref 123, .ref 19, lm_jk] [.int 0] rfl ?_
      refine w_rz rfl rfl (by decide) ?_
      show (some (Value.int 0), _) = _
      have e : wdq tl ts p wL7 = false := by
        have hl : nI wL7.length = 6 := rfl
        unfold wdq
        rw [hl]
        simp [chk, Nat.add_assoc, c1, c2]
      rw [e]; rfl
theorem m_isWord8 {d : Nat} {hi : Nat → Nat → Int32} {hl : Nat → Nat → Int64} {X : lm_X} {ts p : Nat} {tl : Nat → Int32} (S : sh_M X 123) (Q : isTx hi X) (hts : ts ≤ 250) (hp : p ≤ ts) (HP : tpM tl ts hi p) : lm_c (d + 2) 161 [.ref 123, .ref 20] (hi, hl, X) (some (.int (bz (wdq tl ts p wL8))), (hi, hl, X)) := by
  refine lm_c_of (lm_w_in (Nat.le_of_ble_eq_true rfl) ?_)
  show lm_wp (d + 2) 161 0 [.ref 123, .ref 20, lm_jk] [] (hi, hl, X) _
  refine w_N 1 1 [.ref 123, .ref 20, lm_jk] [.ref 123] rfl ?_
  refine w_gi (v := tkS tl ts p) rfl rfl rfl (M_kd S) (HP.2.2.2.2.1) ?_
  refine w_N 1 5 [.ref 123, .ref 20, lm_jk] [.int 1, .int (tkS tl ts p)] rfl ?_
  refine w_icmp_ne (t := 24) rfl rfl (fun c1 => ?_) (fun c1 => ?_)
  · refine w_N 1 25 [.ref 123, .ref 20, lm_jk] [.int 0] rfl ?_
    refine w_rz rfl rfl (by decide) ?_
    show (some (Value.int 0), _) = _
    have e : wdq tl ts p wL8 = false := by
      have hl : nI wL8.length = 5 := rfl
      unfold wdq
      rw [hl]
      simp [chk, Nat.add_assoc, c1]
    rw [e]; rfl
  · refine w_N 1 9 [.ref 123, .ref 20, lm_jk] [.ref 123] rfl ?_
    refine w_gi (v := nI (tkE tl ts p)) rfl rfl rfl (M_kd S) (HP.2.2.2.1) ?_
    refine w_N 1 13 [.ref 123, .ref 20, lm_jk] [.ref 123, .int (nI (tkE tl ts p))] rfl ?_
    refine w_gi (v := nI (tkF tl ts p)) rfl rfl rfl (M_kd S) (HP.2.2.1) ?_
    refine w_N 2 18 [.ref 123, .ref 20, lm_jk] [.ref 20, .int ((nI (tkE tl ts p)) - (nI (tkF tl ts p)))] rfl ?_
    refine w_cc (w_vst rfl rfl rfl (Nat.le_of_ble_eq_true rfl) (Nat.le_of_ble_eq_true rfl) (tx_kd (i := 19) Q (by decide))) (tx_len (i := 19) (L := 5) Q (by decide) rfl) ?_
    show lm_wp _ 161 21 [.ref 123, .ref 20, lm_jk] [.int 5, .int ((nI (tkE tl ts p)) - (nI (tkF tl ts p)))] (hi, hl, X) _
    refine w_icmp_eq (t := 26) rfl rfl (fun c2 => ?_) (fun c2 => ?_)
    · have hE := len_e (L := 5) hts hp (by decide) c2
      have hb := tk_b (tl := tl) hp
      refine w_N 4 30 [.ref 123, .ref 20, .int 0] [.ref 20, .int 0] rfl ?_
      refine w_cc (w_vst rfl rfl rfl (Nat.le_of_ble_eq_true rfl) (Nat.le_of_ble_eq_true rfl) (tx_kd (i := 19) Q (by decide))) (tx_len (i := 19) (L := 5) Q (by decide) rfl) ?_
      show lm_wp _ 161 33 [.ref 123, .ref 20, .int 0] [.int 5, .int 0] (hi, hl, X) _
      refine w_icmp_ge_f (t := 63) rfl rfl (by decide) ?_
      refine w_N 1 37 [.ref 123, .ref 20, .int 0] [.ref 123] rfl ?_
      refine w_gr 139 rfl rfl rfl (M_kd S) (M_r S (k := 7) (o := 16) rfl) ?_
      refine w_N 1 41 [.ref 123, .ref 20, .int 0] [.ref 123, .ref 139] rfl ?_
      refine w_gi (v := nI (tkF tl ts p)) rfl rfl rfl (M_kd S) (HP.2.2.1) ?_
      refine w_N 2 46 [.ref 123, .ref 20, .int 0] [.int ((nI (tkF tl ts p)) + 0), .ref 139] rfl ?_
      refine w_ia (tkF tl ts p) (v := tl (tkF tl ts p)) rfl (show X.2.1 (139) = 1 from M_k S 16 (by decide)) (show X.2.2.1 (139) = 250 from M_l S 16 (by decide)) (Int32.add_zero _) (by omega) (by decide) (HP.2.1 (tkF tl ts p) (by omega)) ?_
      refine w_N 2 49 [.ref 123, .ref 20, .int 0] [.int 0, .ref 20, .int (tl (tkF tl ts p))] rfl ?_
      refine w_cc (w_vst rfl rfl rfl (Nat.le_of_ble_eq_true rfl) (Nat.le_of_ble_eq_true rfl) (tx_kd (i := 19) Q (by decide))) (tx_char (i := 19) (k := 0) (c := 99) Q (by decide) (by decide) rfl) ?_
      show lm_wp _ 161 52 [.ref 123, .ref 20, .int 0] [.int 99, .int (tl (tkF tl ts p))] (hi, hl, X) _
      refine w_icmp_eq (t := 57) rfl rfl (fun c3 => ?_) (fun c3 => ?_)
      · refine w_N 4 30 [.ref 123, .ref 20, .int 1] [.ref 20, .int 1] rfl ?_
        refine w_cc (w_vst rfl rfl rfl (Nat.le_of_ble_eq_true rfl) (Nat.le_of_ble_eq_true rfl) (tx_kd (i := 19) Q (by decide))) (tx_len (i := 19) (L := 5) Q (by decide) rfl) ?_
        show lm_wp _ 161 33 [.ref 123, .ref 20, .int 1] [.int 5, .int 1] (hi, hl, X) _
        refine w_icmp_ge_f (t := 63) rfl rfl (by decide) ?_
        refine w_N 1 37 [.ref 123, .ref 20, .int 1] [.ref 123] rfl ?_
        refine w_gr 139 rfl rfl rfl (M_kd S) (M_r S (k := 7) (o := 16) rfl) ?_
        refine w_N 1 41 [.ref 123, .ref 20, .int 1] [.ref 123, .ref 139] rfl ?_
        refine w_gi (v := nI (tkF tl ts p)) rfl rfl rfl (M_kd S) (HP.2.2.1) ?_
        refine w_N 2 46 [.ref 123, .ref 20, .int 1] [.int ((nI (tkF tl ts p)) + 1), .ref 139] rfl ?_
        refine w_ia (tkF tl ts p + 1) (v := tl (tkF tl ts p + 1)) rfl (show X.2.1 (139) = 1 from M_k S 16 (by decide)) (show X.2.2.1 (139) = 250 from M_l S 16 (by decide)) (nI_add' _ 1) (by omega) (by decide) (HP.2.1 (tkF tl ts p + 1) (by omega)) ?_
        refine w_N 2 49 [.ref 123, .ref 20, .int 1] [.int 1, .ref 20, .int (tl (tkF tl ts p + 1))] rfl ?_
        refine w_cc (w_vst rfl rfl rfl (Nat.le_of_ble_eq_true rfl) (Nat.le_of_ble_eq_true rfl) (tx_kd (i := 19) Q (by decide))) (tx_char (i := 19) (k := 1) (c := 111) Q (by decide) (by decide) rfl) ?_
        show lm_wp _ 161 52 [.ref 123, .ref 20, .int 1] [.int 111, .int (tl (tkF tl ts p + 1))] (hi, hl, X) _
        refine w_icmp_eq (t := 57) rfl rfl (fun c4 => ?_) (fun c4 => ?_)
        · refine w_N 4 30 [.ref 123, .ref 20, .int 2] [.ref 20, .int 2] rfl ?_
          refine w_cc (w_vst rfl rfl rfl (Nat.le_of_ble_eq_true rfl) (Nat.le_of_ble_eq_true rfl) (tx_kd (i := 19) Q (by decide))) (tx_len (i := 19) (L := 5) Q (by decide) rfl) ?_
          show lm_wp _ 161 33 [.ref 123, .ref 20, .int 2] [.int 5, .int 2] (hi, hl, X) _
          refine w_icmp_ge_f (t := 63) rfl rfl (by decide) ?_
          refine w_N 1 37 [.ref 123, .ref 20, .int 2] [.ref 123] rfl ?_
          refine w_gr 139 rfl rfl rfl (M_kd S) (M_r S (k := 7) (o := 16) rfl) ?_
          refine w_N 1 41 [.ref 123, .ref 20, .int 2] [.ref 123, .ref 139] rfl ?_
          refine w_gi (v := nI (tkF tl ts p)) rfl rfl rfl (M_kd S) (HP.2.2.1) ?_
          refine w_N 2 46 [.ref 123, .ref 20, .int 2] [.int ((nI (tkF tl ts p)) + 2), .ref 139] rfl ?_
          refine w_ia (tkF tl ts p + 2) (v := tl (tkF tl ts p + 2)) rfl (show X.2.1 (139) = 1 from M_k S 16 (by decide)) (show X.2.2.1 (139) = 250 from M_l S 16 (by decide)) (nI_add' _ 2) (by omega) (by decide) (HP.2.1 (tkF tl ts p + 2) (by omega)) ?_
          refine w_N 2 49 [.ref 123, .ref 20, .int 2] [.int 2, .ref 20, .int (tl (tkF tl ts p + 2))] rfl ?_
          refine w_cc (w_vst rfl rfl rfl (Nat.le_of_ble_eq_true rfl) (Nat.le_of_ble_eq_true rfl) (tx_kd (i := 19) Q (by decide))) (tx_char (i := 19) (k := 2) (c := 115) Q (by decide) (by decide) rfl) ?_
          show lm_wp _ 161 52 [.ref 123, .ref 20, .int 2] [.int 115, .int (tl (tkF tl ts p + 2))] (hi, hl, X) _
          refine w_icmp_eq (t := 57) rfl rfl (fun c5 => ?_) (fun c5 => ?_)
          · refine w_N 4 30 [.ref 123, .ref 20, .int 3] [.ref 20, .int 3] rfl ?_
            refine w_cc (w_vst rfl rfl rfl (Nat.le_of_ble_eq_true rfl) (Nat.le_of_ble_eq_true rfl) (tx_kd (i := 19) Q (by decide))) (tx_len (i := 19) (L := 5) Q (by decide) rfl) ?_
            show lm_wp _ 161 33 [.ref 123, .ref 20, .int 3] [.int 5, .int 3] (hi, hl, X) _
            refine w_icmp_ge_f (t := 63) rfl rfl (by decide) ?_
            refine w_N 1 37 [.ref 123, .ref 20, .int 3] [.ref 123] rfl ?_
            refine w_gr 139 rfl rfl rfl (M_kd S) (M_r S (k := 7) (o := 16) rfl) ?_
            refine w_N 1 41 [.ref 123, .ref 20, .int 3] [.ref 123, .ref 139] rfl ?_
            refine w_gi (v := nI (tkF tl ts p)) rfl rfl rfl (M_kd S) (HP.2.2.1) ?_
            refine w_N 2 46 [.ref 123, .ref 20, .int 3] [.int ((nI (tkF tl ts p)) + 3), .ref 139] rfl ?_
            refine w_ia (tkF tl ts p + 3) (v := tl (tkF tl ts p + 3)) rfl (show X.2.1 (139) = 1 from M_k S 16 (by decide)) (show X.2.2.1 (139) = 250 from M_l S 16 (by decide)) (nI_add' _ 3) (by omega) (by decide) (HP.2.1 (tkF tl ts p + 3) (by omega)) ?_
            refine w_N 2 49 [.ref 123, .ref 20, .int 3] [.int 3, .ref 20, .int (tl (tkF tl ts p + 3))] rfl ?_
            refine w_cc (w_vst rfl rfl rfl (Nat.le_of_ble_eq_true rfl) (Nat.le_of_ble_eq_true rfl) (tx_kd (i := 19) Q (by decide))) (tx_char (i := 19) (k := 3) (c := 116) Q (by decide) (by decide) rfl) ?_
            show lm_wp _ 161 52 [.ref 123, .ref 20, .int 3] [.int 116, .int (tl (tkF tl ts p + 3))] (hi, hl, X) _
            refine w_icmp_eq (t := 57) rfl rfl (fun c6 => ?_) (fun c6 => ?_)
            · refine w_N 4 30 [.ref 123, .ref 20, .int 4] [.ref 20, .int 4] rfl ?_
              refine w_cc (w_vst rfl rfl rfl (Nat.le_of_ble_eq_true rfl) (Nat.le_of_ble_eq_true rfl) (tx_kd (i := 19) Q (by decide))) (tx_len (i := 19) (L := 5) Q (by decide) rfl) ?_
              show lm_wp _ 161 33 [.ref 123, .ref 20, .int 4] [.int 5, .int 4] (hi, hl, X) _
              refine w_icmp_ge_f (t := 63) rfl rfl (by decide) ?_
              refine w_N 1 37 [.ref 123, .ref 20, .int 4] [.ref 123] rfl ?_
              refine w_gr 139 rfl rfl rfl (M_kd S) (M_r S (k := 7) (o := 16) rfl) ?_
              refine w_N 1 41 [.ref 123, .ref 20, .int 4] [.ref 123, .ref 139] rfl ?_
              refine w_gi (v := nI (tkF tl ts p)) rfl rfl rfl (M_kd S) (HP.2.2.1) ?_
              refine w_N 2 46 [.ref 123, .ref 20, .int 4] [.int ((nI (tkF tl ts p)) + 4), .ref 139] rfl ?_
              refine w_ia (tkF tl ts p + 4) (v := tl (tkF tl ts p + 4)) rfl (show X.2.1 (139) = 1 from M_k S 16 (by decide)) (show X.2.2.1 (139) = 250 from M_l S 16 (by decide)) (nI_add' _ 4) (by omega) (by decide) (HP.2.1 (tkF tl ts p + 4) (by omega)) ?_
              refine w_N 2 49 [.ref 123, .ref 20, .int 4] [.int 4, .ref 20, .int (tl (tkF tl ts p + 4))] rfl ?_
              refine w_cc (w_vst rfl rfl rfl (Nat.le_of_ble_eq_true rfl) (Nat.le_of_ble_eq_true rfl) (tx_kd (i := 19) Q (by decide))) (tx_char (i := 19) (k := 4) (c := 115) Q (by decide) (by decide) rfl) ?_
              show lm_wp _ 161 52 [.ref 123, .ref 20, .int 4] [.int 115, .int (tl (tkF tl ts p + 4))] (hi, hl, X) _
              refine w_icmp_eq (t := 57) rfl rfl (fun c7 => ?_) (fun c7 => ?_)
              · refine w_N 4 30 [.ref 123, .ref 20, .int 5] [.ref 20, .int 5] rfl ?_
                refine w_cc (w_vst rfl rfl rfl (Nat.le_of_ble_eq_true rfl) (Nat.le_of_ble_eq_true rfl) (tx_kd (i := 19) Q (by decide))) (tx_len (i := 19) (L := 5) Q (by decide) rfl) ?_
                show lm_wp _ 161 33 [.ref 123, .ref 20, .int 5] [.int 5, .int 5] (hi, hl, X) _
                refine w_icmp_ge_t (t := 63) rfl rfl (by decide) ?_
                refine w_N 1 64 [.ref 123, .ref 20, .int 5] [.int 1] rfl ?_
                refine w_rz rfl rfl (by decide) ?_
                show (some (Value.int 1), _) = _
                have e : wdq tl ts p wL8 = true := by
                  have hl : nI wL8.length = 5 := rfl
                  unfold wdq
                  rw [hl]
                  simp [chk, Nat.add_assoc, c1, c2, c3, c4, c5, c6, c7]
                rw [e]; rfl
              · refine w_N 1 56 [.ref 123, .ref 20, .int 4] [.int 0] rfl ?_
                refine w_rz rfl rfl (by decide) ?_
                show (some (Value.int 0), _) = _
                have e : wdq tl ts p wL8 = false := by
                  have hl : nI wL8.length = 5 := rfl
                  unfold wdq
                  rw [hl]
                  simp [chk, Nat.add_assoc, c1, c2, c3, c4, c5, c6, c7]
                rw [e]; rfl
            · refine w_N 1 56 [.ref 123, .ref 20, .int 3] [.int 0] rfl ?_
              refine w_rz rfl rfl (by decide) ?_
              show (some (Value.int 0), _) = _
              have e : wdq tl ts p wL8 = false := by
                have hl : nI wL8.length = 5 := rfl
                unfold wdq
                rw [hl]
                simp [chk, Nat.add_assoc, c1, c2, c3, c4, c5, c6]
              rw [e]; rfl
          · refine w_N 1 56 [.ref 123, .ref 20, .int 2] [.int 0] rfl ?_
            refine w_rz rfl rfl (by decide) ?_
            show (some (Value.int 0), _) = _
            have e : wdq tl ts p wL8 = false := by
              have hl : nI wL8.length = 5 := rfl
              unfold wdq
              rw [hl]
              simp [chk, Nat.add_assoc, c1, c2, c3, c4, c5]
            rw [e]; rfl
        · refine w_N 1 56 [.ref 123, .ref 20, .int 1] [.int 0] rfl ?_
          refine w_rz rfl rfl (by decide) ?_
          show (some (Value.int 0), _) = _
          have e : wdq tl ts p wL8 = false := by
            have hl : nI wL8.length = 5 := rfl
            unfold wdq
            rw [hl]
            simp [chk, Nat.add_assoc, c1, c2, c3, c4]
          rw [e]; rfl
      · refine w_N 1 56 [.ref 123, .ref 20, .int 0] [.int 0] rfl ?_
        refine w_rz rfl rfl (by decide) ?_
        show (some (Value.int 0), _) = _
        have e : wdq tl ts p wL8 = false := by
          have hl : nI wL8.length = 5 := rfl
          unfold wdq
          rw [hl]
          simp [chk, Nat.add_assoc, c1, c2, c3]
        rw [e]; rfl
    · refine w_N 1 25 [.ref 123, .ref 20, lm_jk] [.int 0] rfl ?_
      refine w_rz rfl rfl (by decide) ?_
      show (some (Value.int 0), _) = _
      have e : wdq tl ts p wL8 = false := by
        have hl : nI wL8.length = 5 := rfl
        unfold wdq
        rw [hl]
        simp [chk, Nat.add_assoc, c1, c2]
      rw [e]; rfl
theorem m_isWord9 {d : Nat} {hi : Nat → Nat → Int32} {hl : Nat → Nat → Int64} {X : lm_X} {ts p : Nat} {tl : Nat → Int32} (S : sh_M X 123) (Q : isTx hi X) (hts : ts ≤ 250) (hp : p ≤ ts) (HP : tpM tl ts hi p) : lm_c (d + 2) 161 [.ref 123, .ref 21] (hi, hl, X) (some (.int (bz (wdq tl ts p wL9))), (hi, hl, X)) := by
  refine lm_c_of (lm_w_in (Nat.le_of_ble_eq_true rfl) ?_)
  show lm_wp (d + 2) 161 0 [.ref 123, .ref 21, lm_jk] [] (hi, hl, X) _
  refine w_N 1 1 [.ref 123, .ref 21, lm_jk] [.ref 123] rfl ?_
  refine w_gi (v := tkS tl ts p) rfl rfl rfl (M_kd S) (HP.2.2.2.2.1) ?_
  refine w_N 1 5 [.ref 123, .ref 21, lm_jk] [.int 1, .int (tkS tl ts p)] rfl ?_
  refine w_icmp_ne (t := 24) rfl rfl (fun c1 => ?_) (fun c1 => ?_)
  · refine w_N 1 25 [.ref 123, .ref 21, lm_jk] [.int 0] rfl ?_
    refine w_rz rfl rfl (by decide) ?_
    show (some (Value.int 0), _) = _
    have e : wdq tl ts p wL9 = false := by
      have hl : nI wL9.length = 5 := rfl
      unfold wdq
      rw [hl]
      simp [chk, Nat.add_assoc, c1]
    rw [e]; rfl
  · refine w_N 1 9 [.ref 123, .ref 21, lm_jk] [.ref 123] rfl ?_
    refine w_gi (v := nI (tkE tl ts p)) rfl rfl rfl (M_kd S) (HP.2.2.2.1) ?_
    refine w_N 1 13 [.ref 123, .ref 21, lm_jk] [.ref 123, .int (nI (tkE tl ts p))] rfl ?_
    refine w_gi (v := nI (tkF tl ts p)) rfl rfl rfl (M_kd S) (HP.2.2.1) ?_
    refine w_N 2 18 [.ref 123, .ref 21, lm_jk] [.ref 21, .int ((nI (tkE tl ts p)) - (nI (tkF tl ts p)))] rfl ?_
    refine w_cc (w_vst rfl rfl rfl (Nat.le_of_ble_eq_true rfl) (Nat.le_of_ble_eq_true rfl) (tx_kd (i := 20) Q (by decide))) (tx_len (i := 20) (L := 5) Q (by decide) rfl) ?_
    show lm_wp _ 161 21 [.ref 123, .ref 21, lm_jk] [.int 5, .int ((nI (tkE tl ts p)) - (nI (tkF tl ts p)))] (hi, hl, X) _
    refine w_icmp_eq (t := 26) rfl rfl (fun c2 => ?_) (fun c2 => ?_)
    · have hE := len_e (L := 5) hts hp (by decide) c2
      have hb := tk_b (tl := tl) hp
      refine w_N 4 30 [.ref 123, .ref 21, .int 0] [.ref 21, .int 0] rfl ?_
      refine w_cc (w_vst rfl rfl rfl (Nat.le_of_ble_eq_true rfl) (Nat.le_of_ble_eq_true rfl) (tx_kd (i := 20) Q (by decide))) (tx_len (i := 20) (L := 5) Q (by decide) rfl) ?_
      show lm_wp _ 161 33 [.ref 123, .ref 21, .int 0] [.int 5, .int 0] (hi, hl, X) _
      refine w_icmp_ge_f (t := 63) rfl rfl (by decide) ?_
      refine w_N 1 37 [.ref 123, .ref 21, .int 0] [.ref 123] rfl ?_
      refine w_gr 139 rfl rfl rfl (M_kd S) (M_r S (k := 7) (o := 16) rfl) ?_
      refine w_N 1 41 [.ref 123, .ref 21, .int 0] [.ref 123, .ref 139] rfl ?_
      refine w_gi (v := nI (tkF tl ts p)) rfl rfl rfl (M_kd S) (HP.2.2.1) ?_
      refine w_N 2 46 [.ref 123, .ref 21, .int 0] [.int ((nI (tkF tl ts p)) + 0), .ref 139] rfl ?_
      refine w_ia (tkF tl ts p) (v := tl (tkF tl ts p)) rfl (show X.2.1 (139) = 1 from M_k S 16 (by decide)) (show X.2.2.1 (139) = 250 from M_l S 16 (by decide)) (Int32.add_zero _) (by omega) (by decide) (HP.2.1 (tkF tl ts p) (by omega)) ?_
      refine w_N 2 49 [.ref 123, .ref 21, .int 0] [.int 0, .ref 21, .int (tl (tkF tl ts p))] rfl ?_
      refine w_cc (w_vst rfl rfl rfl (Nat.le_of_ble_eq_true rfl) (Nat.le_of_ble_eq_true rfl) (tx_kd (i := 20) Q (by decide))) (tx_char (i := 20) (k := 0) (c := 104) Q (by decide) (by decide) rfl) ?_
      show lm_wp _ 161 52 [.ref 123, .ref 21, .int 0] [.int 104, .int (tl (tkF tl ts p))] (hi, hl, X) _
      refine w_icmp_eq (t := 57) rfl rfl (fun c3 => ?_) (fun c3 => ?_)
      · refine w_N 4 30 [.ref 123, .ref 21, .int 1] [.ref 21, .int 1] rfl ?_
        refine w_cc (w_vst rfl rfl rfl (Nat.le_of_ble_eq_true rfl) (Nat.le_of_ble_eq_true rfl) (tx_kd (i := 20) Q (by decide))) (tx_len (i := 20) (L := 5) Q (by decide) rfl) ?_
        show lm_wp _ 161 33 [.ref 123, .ref 21, .int 1] [.int 5, .int 1] (hi, hl, X) _
        refine w_icmp_ge_f (t := 63) rfl rfl (by decide) ?_
        refine w_N 1 37 [.ref 123, .ref 21, .int 1] [.ref 123] rfl ?_
        refine w_gr 139 rfl rfl rfl (M_kd S) (M_r S (k := 7) (o := 16) rfl) ?_
        refine w_N 1 41 [.ref 123, .ref 21, .int 1] [.ref 123, .ref 139] rfl ?_
        refine w_gi (v := nI (tkF tl ts p)) rfl rfl rfl (M_kd S) (HP.2.2.1) ?_
        refine w_N 2 46 [.ref 123, .ref 21, .int 1] [.int ((nI (tkF tl ts p)) + 1), .ref 139] rfl ?_
        refine w_ia (tkF tl ts p + 1) (v := tl (tkF tl ts p + 1)) rfl (show X.2.1 (139) = 1 from M_k S 16 (by decide)) (show X.2.2.1 (139) = 250 from M_l S 16 (by decide)) (nI_add' _ 1) (by omega) (by decide) (HP.2.1 (tkF tl ts p + 1) (by omega)) ?_
        refine w_N 2 49 [.ref 123, .ref 21, .int 1] [.int 1, .ref 21, .int (tl (tkF tl ts p + 1))] rfl ?_
        refine w_cc (w_vst rfl rfl rfl (Nat.le_of_ble_eq_true rfl) (Nat.le_of_ble_eq_true rfl) (tx_kd (i := 20) Q (by decide))) (tx_char (i := 20) (k := 1) (c := 105) Q (by decide) (by decide) rfl) ?_
        show lm_wp _ 161 52 [.ref 123, .ref 21, .int 1] [.int 105, .int (tl (tkF tl ts p + 1))] (hi, hl, X) _
        refine w_icmp_eq (t := 57) rfl rfl (fun c4 => ?_) (fun c4 => ?_)
        · refine w_N 4 30 [.ref 123, .ref 21, .int 2] [.ref 21, .int 2] rfl ?_
          refine w_cc (w_vst rfl rfl rfl (Nat.le_of_ble_eq_true rfl) (Nat.le_of_ble_eq_true rfl) (tx_kd (i := 20) Q (by decide))) (tx_len (i := 20) (L := 5) Q (by decide) rfl) ?_
          show lm_wp _ 161 33 [.ref 123, .ref 21, .int 2] [.int 5, .int 2] (hi, hl, X) _
          refine w_icmp_ge_f (t := 63) rfl rfl (by decide) ?_
          refine w_N 1 37 [.ref 123, .ref 21, .int 2] [.ref 123] rfl ?_
          refine w_gr 139 rfl rfl rfl (M_kd S) (M_r S (k := 7) (o := 16) rfl) ?_
          refine w_N 1 41 [.ref 123, .ref 21, .int 2] [.ref 123, .ref 139] rfl ?_
          refine w_gi (v := nI (tkF tl ts p)) rfl rfl rfl (M_kd S) (HP.2.2.1) ?_
          refine w_N 2 46 [.ref 123, .ref 21, .int 2] [.int ((nI (tkF tl ts p)) + 2), .ref 139] rfl ?_
          refine w_ia (tkF tl ts p + 2) (v := tl (tkF tl ts p + 2)) rfl (show X.2.1 (139) = 1 from M_k S 16 (by decide)) (show X.2.2.1 (139) = 250 from M_l S 16 (by decide)) (nI_add' _ 2) (by omega) (by decide) (HP.2.1 (tkF tl ts p + 2) (by omega)) ?_
          refine w_N 2 49 [.ref 123, .ref 21, .int 2] [.int 2, .ref 21, .int (tl (tkF tl ts p + 2))] rfl ?_
          refine w_cc (w_vst rfl rfl rfl (Nat.le_of_ble_eq_true rfl) (Nat.le_of_ble_eq_true rfl) (tx_kd (i := 20) Q (by decide))) (tx_char (i := 20) (k := 2) (c := 100) Q (by decide) (by decide) rfl) ?_
          show lm_wp _ 161 52 [.ref 123, .ref 21, .int 2] [.int 100, .int (tl (tkF tl ts p + 2))] (hi, hl, X) _
          refine w_icmp_eq (t := 57) rfl rfl (fun c5 => ?_) (fun c5 => ?_)
          · refine w_N 4 30 [.ref 123, .ref 21, .int 3] [.ref 21, .int 3] rfl ?_
            refine w_cc (w_vst rfl rfl rfl (Nat.le_of_ble_eq_true rfl) (Nat.le_of_ble_eq_true rfl) (tx_kd (i := 20) Q (by decide))) (tx_len (i := 20) (L := 5) Q (by decide) rfl) ?_
            show lm_wp _ 161 33 [.ref 123, .ref 21, .int 3] [.int 5, .int 3] (hi, hl, X) _
            refine w_icmp_ge_f (t := 63) rfl rfl (by decide) ?_
            refine w_N 1 37 [.ref 123, .ref 21, .int 3] [.ref 123] rfl ?_
            refine w_gr 139 rfl rfl rfl (M_kd S) (M_r S (k := 7) (o := 16) rfl) ?_
            refine w_N 1 41 [.ref 123, .ref 21, .int 3] [.ref 123, .ref 139] rfl ?_
            refine w_gi (v := nI (tkF tl ts p)) rfl rfl rfl (M_kd S) (HP.2.2.1) ?_
            refine w_N 2 46 [.ref 123, .ref 21, .int 3] [.int ((nI (tkF tl ts p)) + 3), .ref 139] rfl ?_
            refine w_ia (tkF tl ts p + 3) (v := tl (tkF tl ts p + 3)) rfl (show X.2.1 (139) = 1 from M_k S 16 (by decide)) (show X.2.2.1 (139) = 250 from M_l S 16 (by decide)) (nI_add' _ 3) (by omega) (by decide) (HP.2.1 (tkF tl ts p + 3) (by omega)) ?_
            refine w_N 2 49 [.ref 123, .ref 21, .int 3] [.int 3, .ref 21, .int (tl (tkF tl ts p + 3))] rfl ?_
            refine w_cc (w_vst rfl rfl rfl (Nat.le_of_ble_eq_true rfl) (Nat.le_of_ble_eq_true rfl) (tx_kd (i := 20) Q (by decide))) (tx_char (i := 20) (k := 3) (c := 101) Q (by decide) (by decide) rfl) ?_
            show lm_wp _ 161 52 [.ref 123, .ref 21, .int 3] [.int 101, .int (tl (tkF tl ts p + 3))] (hi, hl, X) _
            refine w_icmp_eq (t := 57) rfl rfl (fun c6 => ?_) (fun c6 => ?_)
            · refine w_N 4 30 [.ref 123, .ref 21, .int 4] [.ref 21, .int 4] rfl ?_
              refine w_cc (w_vst rfl rfl rfl (Nat.le_of_ble_eq_true rfl) (Nat.le_of_ble_eq_true rfl) (tx_kd (i := 20) Q (by decide))) (tx_len (i := 20) (L := 5) Q (by decide) rfl) ?_
              show lm_wp _ 161 33 [.ref 123, .ref 21, .int 4] [.int 5, .int 4] (hi, hl, X) _
              refine w_icmp_ge_f (t := 63) rfl rfl (by decide) ?_
              refine w_N 1 37 [.ref 123, .ref 21, .int 4] [.ref 123] rfl ?_
              refine w_gr 139 rfl rfl rfl (M_kd S) (M_r S (k := 7) (o := 16) rfl) ?_
              refine w_N 1 41 [.ref 123, .ref 21, .int 4] [.ref 123, .ref 139] rfl ?_
              refine w_gi (v := nI (tkF tl ts p)) rfl rfl rfl (M_kd S) (HP.2.2.1) ?_
              refine w_N 2 46 [.ref 123, .ref 21, .int 4] [.int ((nI (tkF tl ts p)) + 4), .ref 139] rfl ?_
              refine w_ia (tkF tl ts p + 4) (v := tl (tkF tl ts p + 4)) rfl (show X.2.1 (139) = 1 from M_k S 16 (by decide)) (show X.2.2.1 (139) = 250 from M_l S 16 (by decide)) (nI_add' _ 4) (by omega) (by decide) (HP.2.1 (tkF tl ts p + 4) (by omega)) ?_
              refine w_N 2 49 [.ref 123, .ref 21, .int 4] [.int 4, .ref 21, .int (tl (tkF tl ts p + 4))] rfl ?_
              refine w_cc (w_vst rfl rfl rfl (Nat.le_of_ble_eq_true rfl) (Nat.le_of_ble_eq_true rfl) (tx_kd (i := 20) Q (by decide))) (tx_char (i := 20) (k := 4) (c := 115) Q (by decide) (by decide) rfl) ?_
              show lm_wp _ 161 52 [.ref 123, .ref 21, .int 4] [.int 115, .int (tl (tkF tl ts p + 4))] (hi, hl, X) _
              refine w_icmp_eq (t := 57) rfl rfl (fun c7 => ?_) (fun c7 => ?_)
              · refine w_N 4 30 [.ref 123, .ref 21, .int 5] [.ref 21, .int 5] rfl ?_
                refine w_cc (w_vst rfl rfl rfl (Nat.le_of_ble_eq_true rfl) (Nat.le_of_ble_eq_true rfl) (tx_kd (i := 20) Q (by decide))) (tx_len (i := 20) (L := 5) Q (by decide) rfl) ?_
                show lm_wp _ 161 33 [.ref 123, .ref 21, .int 5] [.int 5, .int 5] (hi, hl, X) _
                refine w_icmp_ge_t (t := 63) rfl rfl (by decide) ?_
                refine w_N 1 64 [.ref 123, .ref 21, .int 5] [.int 1] rfl ?_
                refine w_rz rfl rfl (by decide) ?_
                show (some (Value.int 1), _) = _
                have e : wdq tl ts p wL9 = true := by
                  have hl : nI wL9.length = 5 := rfl
                  unfold wdq
                  rw [hl]
                  simp [chk, Nat.add_assoc, c1, c2, c3, c4, c5, c6, c7]
                rw [e]; rfl
              · refine w_N 1 56 [.ref 123, .ref 21, .int 4] [.int 0] rfl ?_
                refine w_rz rfl rfl (by decide) ?_
                show (some (Value.int 0), _) = _
                have e : wdq tl ts p wL9 = false := by
                  have hl : nI wL9.length = 5 := rfl
                  unfold wdq
                  rw [hl]
                  simp [chk, Nat.add_assoc, c1, c2, c3, c4, c5, c6, c7]
                rw [e]; rfl
            · refine w_N 1 56 [.ref 123, .ref 21, .int 3] [.int 0] rfl ?_
              refine w_rz rfl rfl (by decide) ?_
              show (some (Value.int 0), _) = _
              have e : wdq tl ts p wL9 = false := by
                have hl : nI wL9.length = 5 := rfl
                unfold wdq
                rw [hl]
                simp [chk, Nat.add_assoc, c1, c2, c3, c4, c5, c6]
              rw [e]; rfl
          · refine w_N 1 56 [.ref 123, .ref 21, .int 2] [.int 0] rfl ?_
            refine w_rz rfl rfl (by decide) ?_
            show (some (Value.int 0), _) = _
            have e : wdq tl ts p wL9 = false := by
              have hl : nI wL9.length = 5 := rfl
              unfold wdq
              rw [hl]
              simp [chk, Nat.add_assoc, c1, c2, c3, c4, c5]
            rw [e]; rfl
        · refine w_N 1 56 [.ref 123, .ref 21, .int 1] [.int 0] rfl ?_
          refine w_rz rfl rfl (by decide) ?_
          show (some (Value.int 0), _) = _
          have e : wdq tl ts p wL9 = false := by
            have hl : nI wL9.length = 5 := rfl
            unfold wdq
            rw [hl]
            simp [chk, Nat.add_assoc, c1, c2, c3, c4]
          rw [e]; rfl
      · refine w_N 1 56 [.ref 123, .ref 21, .int 0] [.int 0] rfl ?_
        refine w_rz rfl rfl (by decide) ?_
        show (some (Value.int 0), _) = _
        have e : wdq tl ts p wL9 = false := by
          have hl : nI wL9.length = 5 := rfl
          unfold wdq
          rw [hl]
          simp [chk, Nat.add_assoc, c1, c2, c3]
        rw [e]; rfl
    · refine w_N 1 25 [.ref 123, .ref 21, lm_jk] [.int 0] rfl ?_
      refine w_rz rfl rfl (by decide) ?_
      show (some (Value.int 0), _) = _
      have e : wdq tl ts p wL9 = false := by
        have hl : nI wL9.length = 5 := rfl
        unfold wdq
        rw [hl]
        simp [chk, Nat.add_assoc, c1, c2]
      rw [e]; rfl
theorem m_isWord10 {d : Nat} {hi : Nat → Nat → Int32} {hl : Nat → Nat → Int64} {X : lm_X} {ts p : Nat} {tl : Nat → Int32} (S : sh_M X 123) (Q : isTx hi X) (hts : ts ≤ 250) (hp : p ≤ ts) (HP : tpM tl ts hi p) : lm_c (d + 2) 161 [.ref 123, .ref 22] (hi, hl, X) (some (.int (bz (wdq tl ts p wL10))), (hi, hl, X)) := by
  refine lm_c_of (lm_w_in (Nat.le_of_ble_eq_true rfl) ?_)
  show lm_wp (d + 2) 161 0 [.ref 123, .ref 22, lm_jk] [] (hi, hl, X) _
  refine w_N 1 1 [.ref 123, .ref 22, lm_jk] [.ref 123] rfl ?_
  refine w_gi (v := tkS tl ts p) rfl rfl rfl (M_kd S) (HP.2.2.2.2.1) ?_
  refine w_N 1 5 [.ref 123, .ref 22, lm_jk] [.int 1, .int (tkS tl ts p)] rfl ?_
  refine w_icmp_ne (t := 24) rfl rfl (fun c1 => ?_) (fun c1 => ?_)
  · refine w_N 1 25 [.ref 123, .ref 22, lm_jk] [.int 0] rfl ?_
    refine w_rz rfl rfl (by decide) ?_
    show (some (Value.int 0), _) = _
    have e : wdq tl ts p wL10 = false := by
      have hl : nI wL10.length = 5 := rfl
      unfold wdq
      rw [hl]
      simp [chk, Nat.add_assoc, c1]
    rw [e]; rfl
  · refine w_N 1 9 [.ref 123, .ref 22, lm_jk] [.ref 123] rfl ?_
    refine w_gi (v := nI (tkE tl ts p)) rfl rfl rfl (M_kd S) (HP.2.2.2.1) ?_
    refine w_N 1 13 [.ref 123, .ref 22, lm_jk] [.ref 123, .int (nI (tkE tl ts p))] rfl ?_
    refine w_gi (v := nI (tkF tl ts p)) rfl rfl rfl (M_kd S) (HP.2.2.1) ?_
    refine w_N 2 18 [.ref 123, .ref 22, lm_jk] [.ref 22, .int ((nI (tkE tl ts p)) - (nI (tkF tl ts p)))] rfl ?_
    refine w_cc (w_vst rfl rfl rfl (Nat.le_of_ble_eq_true rfl) (Nat.le_of_ble_eq_true rfl) (tx_kd (i := 21) Q (by decide))) (tx_len (i := 21) (L := 5) Q (by decide) rfl) ?_
    show lm_wp _ 161 21 [.ref 123, .ref 22, lm_jk] [.int 5, .int ((nI (tkE tl ts p)) - (nI (tkF tl ts p)))] (hi, hl, X) _
    refine w_icmp_eq (t := 26) rfl rfl (fun c2 => ?_) (fun c2 => ?_)
    · have hE := len_e (L := 5) hts hp (by decide) c2
      have hb := tk_b (tl := tl) hp
      refine w_N 4 30 [.ref 123, .ref 22, .int 0] [.ref 22, .int 0] rfl ?_
      refine w_cc (w_vst rfl rfl rfl (Nat.le_of_ble_eq_true rfl) (Nat.le_of_ble_eq_true rfl) (tx_kd (i := 21) Q (by decide))) (tx_len (i := 21) (L := 5) Q (by decide) rfl) ?_
      show lm_wp _ 161 33 [.ref 123, .ref 22, .int 0] [.int 5, .int 0] (hi, hl, X) _
      refine w_icmp_ge_f (t := 63) rfl rfl (by decide) ?_
      refine w_N 1 37 [.ref 123, .ref 22, .int 0] [.ref 123] rfl ?_
      refine w_gr 139 rfl rfl rfl (M_kd S) (M_r S (k := 7) (o := 16) rfl) ?_
      refine w_N 1 41 [.ref 123, .ref 22, .int 0] [.ref 123, .ref 139] rfl ?_
      refine w_gi (v := nI (tkF tl ts p)) rfl rfl rfl (M_kd S) (HP.2.2.1) ?_
      refine w_N 2 46 [.ref 123, .ref 22, .int 0] [.int ((nI (tkF tl ts p)) + 0), .ref 139] rfl ?_
      refine w_ia (tkF tl ts p) (v := tl (tkF tl ts p)) rfl (show X.2.1 (139) = 1 from M_k S 16 (by decide)) (show X.2.2.1 (139) = 250 from M_l S 16 (by decide)) (Int32.add_zero _) (by omega) (by decide) (HP.2.1 (tkF tl ts p) (by omega)) ?_
      refine w_N 2 49 [.ref 123, .ref 22, .int 0] [.int 0, .ref 22, .int (tl (tkF tl ts p))] rfl ?_
      refine w_cc (w_vst rfl rfl rfl (Nat.le_of_ble_eq_true rfl) (Nat.le_of_ble_eq_true rfl) (tx_kd (i := 21) Q (by decide))) (tx_char (i := 21) (k := 0) (c := 108) Q (by decide) (by decide) rfl) ?_
      show lm_wp _ 161 52 [.ref 123, .ref 22, .int 0] [.int 108, .int (tl (tkF tl ts p))] (hi, hl, X) _
      refine w_icmp_eq (t := 57) rfl rfl (fun c3 => ?_) (fun c3 => ?_)
      · refine w_N 4 30 [.ref 123, .ref 22, .int 1] [.ref 22, .int 1] rfl ?_
        refine w_cc (w_vst rfl rfl rfl (Nat.le_of_ble_eq_true rfl) (Nat.le_of_ble_eq_true rfl) (tx_kd (i := 21) Q (by decide))) (tx_len (i := 21) (L := 5) Q (by decide) rfl) ?_
        show lm_wp _ 161 33 [.ref 123, .ref 22, .int 1] [.int 5, .int 1] (hi, hl, X) _
        refine w_icmp_ge_f (t := 63) rfl rfl (by decide) ?_
        refine w_N 1 37 [.ref 123, .ref 22, .int 1] [.ref 123] rfl ?_
        refine w_gr 139 rfl rfl rfl (M_kd S) (M_r S (k := 7) (o := 16) rfl) ?_
        refine w_N 1 41 [.ref 123, .ref 22, .int 1] [.ref 123, .ref 139] rfl ?_
        refine w_gi (v := nI (tkF tl ts p)) rfl rfl rfl (M_kd S) (HP.2.2.1) ?_
        refine w_N 2 46 [.ref 123, .ref 22, .int 1] [.int ((nI (tkF tl ts p)) + 1), .ref 139] rfl ?_
        refine w_ia (tkF tl ts p + 1) (v := tl (tkF tl ts p + 1)) rfl (show X.2.1 (139) = 1 from M_k S 16 (by decide)) (show X.2.2.1 (139) = 250 from M_l S 16 (by decide)) (nI_add' _ 1) (by omega) (by decide) (HP.2.1 (tkF tl ts p + 1) (by omega)) ?_
        refine w_N 2 49 [.ref 123, .ref 22, .int 1] [.int 1, .ref 22, .int (tl (tkF tl ts p + 1))] rfl ?_
        refine w_cc (w_vst rfl rfl rfl (Nat.le_of_ble_eq_true rfl) (Nat.le_of_ble_eq_true rfl) (tx_kd (i := 21) Q (by decide))) (tx_char (i := 21) (k := 1) (c := 111) Q (by decide) (by decide) rfl) ?_
        show lm_wp _ 161 52 [.ref 123, .ref 22, .int 1] [.int 111, .int (tl (tkF tl ts p + 1))] (hi, hl, X) _
        refine w_icmp_eq (t := 57) rfl rfl (fun c4 => ?_) (fun c4 => ?_)
        · refine w_N 4 30 [.ref 123, .ref 22, .int 2] [.ref 22, .int 2] rfl ?_
          refine w_cc (w_vst rfl rfl rfl (Nat.le_of_ble_eq_true rfl) (Nat.le_of_ble_eq_true rfl) (tx_kd (i := 21) Q (by decide))) (tx_len (i := 21) (L := 5) Q (by decide) rfl) ?_
          show lm_wp _ 161 33 [.ref 123, .ref 22, .int 2] [.int 5, .int 2] (hi, hl, X) _
          refine w_icmp_ge_f (t := 63) rfl rfl (by decide) ?_
          refine w_N 1 37 [.ref 123, .ref 22, .int 2] [.ref 123] rfl ?_
          refine w_gr 139 rfl rfl rfl (M_kd S) (M_r S (k := 7) (o := 16) rfl) ?_
          refine w_N 1 41 [.ref 123, .ref 22, .int 2] [.ref 123, .ref 139] rfl ?_
          refine w_gi (v := nI (tkF tl ts p)) rfl rfl rfl (M_kd S) (HP.2.2.1) ?_
          refine w_N 2 46 [.ref 123, .ref 22, .int 2] [.int ((nI (tkF tl ts p)) + 2), .ref 139] rfl ?_
          refine w_ia (tkF tl ts p + 2) (v := tl (tkF tl ts p + 2)) rfl (show X.2.1 (139) = 1 from M_k S 16 (by decide)) (show X.2.2.1 (139) = 250 from M_l S 16 (by decide)) (nI_add' _ 2) (by omega) (by decide) (HP.2.1 (tkF tl ts p + 2) (by omega)) ?_
          refine w_N 2 49 [.ref 123, .ref 22, .int 2] [.int 2, .ref 22, .int (tl (tkF tl ts p + 2))] rfl ?_
          refine w_cc (w_vst rfl rfl rfl (Nat.le_of_ble_eq_true rfl) (Nat.le_of_ble_eq_true rfl) (tx_kd (i := 21) Q (by decide))) (tx_char (i := 21) (k := 2) (c := 99) Q (by decide) (by decide) rfl) ?_
          show lm_wp _ 161 52 [.ref 123, .ref 22, .int 2] [.int 99, .int (tl (tkF tl ts p + 2))] (hi, hl, X) _
          refine w_icmp_eq (t := 57) rfl rfl (fun c5 => ?_) (fun c5 => ?_)
          · refine w_N 4 30 [.ref 123, .ref 22, .int 3] [.ref 22, .int 3] rfl ?_
            refine w_cc (w_vst rfl rfl rfl (Nat.le_of_ble_eq_true rfl) (Nat.le_of_ble_eq_true rfl) (tx_kd (i := 21) Q (by decide))) (tx_len (i := 21) (L := 5) Q (by decide) rfl) ?_
            show lm_wp _ 161 33 [.ref 123, .ref 22, .int 3] [.int 5, .int 3] (hi, hl, X) _
            refine w_icmp_ge_f (t := 63) rfl rfl (by decide) ?_
            refine w_N 1 37 [.ref 123, .ref 22, .int 3] [.ref 123] rfl ?_
            refine w_gr 139 rfl rfl rfl (M_kd S) (M_r S (k := 7) (o := 16) rfl) ?_
            refine w_N 1 41 [.ref 123, .ref 22, .int 3] [.ref 123, .ref 139] rfl ?_
            refine w_gi (v := nI (tkF tl ts p)) rfl rfl rfl (M_kd S) (HP.2.2.1) ?_
            refine w_N 2 46 [.ref 123, .ref 22, .int 3] [.int ((nI (tkF tl ts p)) + 3), .ref 139] rfl ?_
            refine w_ia (tkF tl ts p + 3) (v := tl (tkF tl ts p + 3)) rfl (show X.2.1 (139) = 1 from M_k S 16 (by decide)) (show X.2.2.1 (139) = 250 from M_l S 16 (by decide)) (nI_add' _ 3) (by omega) (by decide) (HP.2.1 (tkF tl ts p + 3) (by omega)) ?_
            refine w_N 2 49 [.ref 123, .ref 22, .int 3] [.int 3, .ref 22, .int (tl (tkF tl ts p + 3))] rfl ?_
            refine w_cc (w_vst rfl rfl rfl (Nat.le_of_ble_eq_true rfl) (Nat.le_of_ble_eq_true rfl) (tx_kd (i := 21) Q (by decide))) (tx_char (i := 21) (k := 3) (c := 107) Q (by decide) (by decide) rfl) ?_
            show lm_wp _ 161 52 [.ref 123, .ref 22, .int 3] [.int 107, .int (tl (tkF tl ts p + 3))] (hi, hl, X) _
            refine w_icmp_eq (t := 57) rfl rfl (fun c6 => ?_) (fun c6 => ?_)
            · refine w_N 4 30 [.ref 123, .ref 22, .int 4] [.ref 22, .int 4] rfl ?_
              refine w_cc (w_vst rfl rfl rfl (Nat.le_of_ble_eq_true rfl) (Nat.le_of_ble_eq_true rfl) (tx_kd (i := 21) Q (by decide))) (tx_len (i := 21) (L := 5) Q (by decide) rfl) ?_
              show lm_wp _ 161 33 [.ref 123, .ref 22, .int 4] [.int 5, .int 4] (hi, hl, X) _
              refine w_icmp_ge_f (t := 63) rfl rfl (by decide) ?_
              refine w_N 1 37 [.ref 123, .ref 22, .int 4] [.ref 123] rfl ?_
              refine w_gr 139 rfl rfl rfl (M_kd S) (M_r S (k := 7) (o := 16) rfl) ?_
              refine w_N 1 41 [.ref 123, .ref 22, .int 4] [.ref 123, .ref 139] rfl ?_
              refine w_gi (v := nI (tkF tl ts p)) rfl rfl rfl (M_kd S) (HP.2.2.1) ?_
              refine w_N 2 46 [.ref 123, .ref 22, .int 4] [.int ((nI (tkF tl ts p)) + 4), .ref 139] rfl ?_
              refine w_ia (tkF tl ts p + 4) (v := tl (tkF tl ts p + 4)) rfl (show X.2.1 (139) = 1 from M_k S 16 (by decide)) (show X.2.2.1 (139) = 250 from M_l S 16 (by decide)) (nI_add' _ 4) (by omega) (by decide) (HP.2.1 (tkF tl ts p + 4) (by omega)) ?_
              refine w_N 2 49 [.ref 123, .ref 22, .int 4] [.int 4, .ref 22, .int (tl (tkF tl ts p + 4))] rfl ?_
              refine w_cc (w_vst rfl rfl rfl (Nat.le_of_ble_eq_true rfl) (Nat.le_of_ble_eq_true rfl) (tx_kd (i := 21) Q (by decide))) (tx_char (i := 21) (k := 4) (c := 115) Q (by decide) (by decide) rfl) ?_
              show lm_wp _ 161 52 [.ref 123, .ref 22, .int 4] [.int 115, .int (tl (tkF tl ts p + 4))] (hi, hl, X) _
              refine w_icmp_eq (t := 57) rfl rfl (fun c7 => ?_) (fun c7 => ?_)
              · refine w_N 4 30 [.ref 123, .ref 22, .int 5] [.ref 22, .int 5] rfl ?_
                refine w_cc (w_vst rfl rfl rfl (Nat.le_of_ble_eq_true rfl) (Nat.le_of_ble_eq_true rfl) (tx_kd (i := 21) Q (by decide))) (tx_len (i := 21) (L := 5) Q (by decide) rfl) ?_
                show lm_wp _ 161 33 [.ref 123, .ref 22, .int 5] [.int 5, .int 5] (hi, hl, X) _
                refine w_icmp_ge_t (t := 63) rfl rfl (by decide) ?_
                refine w_N 1 64 [.ref 123, .ref 22, .int 5] [.int 1] rfl ?_
                refine w_rz rfl rfl (by decide) ?_
                show (some (Value.int 1), _) = _
                have e : wdq tl ts p wL10 = true := by
                  have hl : nI wL10.length = 5 := rfl
                  unfold wdq
                  rw [hl]
                  simp [chk, Nat.add_assoc, c1, c2, c3, c4, c5, c6, c7]
                rw [e]; rfl
              · refine w_N 1 56 [.ref 123, .ref 22, .int 4] [.int 0] rfl ?_
                refine w_rz rfl rfl (by decide) ?_
                show (some (Value.int 0), _) = _
                have e : wdq tl ts p wL10 = false := by
                  have hl : nI wL10.length = 5 := rfl
                  unfold wdq
                  rw [hl]
                  simp [chk, Nat.add_assoc, c1, c2, c3, c4, c5, c6, c7]
                rw [e]; rfl
            · refine w_N 1 56 [.ref 123, .ref 22, .int 3] [.int 0] rfl ?_
              refine w_rz rfl rfl (by decide) ?_
              show (some (Value.int 0), _) = _
              have e : wdq tl ts p wL10 = false := by
                have hl : nI wL10.length = 5 := rfl
                unfold wdq
                rw [hl]
                simp [chk, Nat.add_assoc, c1, c2, c3, c4, c5, c6]
              rw [e]; rfl
          · refine w_N 1 56 [.ref 123, .ref 22, .int 2] [.int 0] rfl ?_
            refine w_rz rfl rfl (by decide) ?_
            show (some (Value.int 0), _) = _
            have e : wdq tl ts p wL10 = false := by
              have hl : nI wL10.length = 5 := rfl
              unfold wdq
              rw [hl]
              simp [chk, Nat.add_assoc, c1, c2, c3, c4, c5]
            rw [e]; rfl
        · refine w_N 1 56 [.ref 123, .ref 22, .int 1] [.int 0] rfl ?_
          refine w_rz rfl rfl (by decide) ?_
          show (some (Value.int 0), _) = _
          have e : wdq tl ts p wL10 = false := by
            have hl : nI wL10.length = 5 := rfl
            unfold wdq
            rw [hl]
            simp [chk, Nat.add_assoc, c1, c2, c3, c4]
          rw [e]; rfl
      · refine w_N 1 56 [.ref 123, .ref 22, .int 0] [.int 0] rfl ?_
        refine w_rz rfl rfl (by decide) ?_
        show (some (Value.int 0), _) = _
        have e : wdq tl ts p wL10 = false := by
          have hl : nI wL10.length = 5 := rfl
          unfold wdq
          rw [hl]
          simp [chk, Nat.add_assoc, c1, c2, c3]
        rw [e]; rfl
    · refine w_N 1 25 [.ref 123, .ref 22, lm_jk] [.int 0] rfl ?_
      refine w_rz rfl rfl (by decide) ?_
      show (some (Value.int 0), _) = _
      have e : wdq tl ts p wL10 = false := by
        have hl : nI wL10.length = 5 := rfl
        unfold wdq
        rw [hl]
        simp [chk, Nat.add_assoc, c1, c2]
      rw [e]; rfl
theorem t_nu1 {d : Nat} {hi : Nat → Nat → Int32} {hl : Nat → Nat → Int64} {X : lm_X} {ts p : Nat} {tl : Nat → Int32} (S : sh_A X) (Q : isTx hi X) (hts : ts ≤ 250) (hp : p ≤ ts) (HP : tpC tl ts hi p) {lo up : Int32} (hl2 : tkE tl ts p - tkF tl ts p ≤ 2) {Po : Option Value → lm_H → Prop} (kc : ∀ (c : Int32), lm_wp d 42 62 [.ref 95, .int lo, .int up, .int (fgL tl (tkF tl ts p) (tkE tl ts p - tkF tl ts p)), .int c] [] (hi, hl, X) Po) : ∀ (r m : Nat) (v : Int32) (mk : Int32), m + r = tkE tl ts p → (v = fgL tl (tkF tl ts p) (m - tkF tl ts p)) → (mk = nI m) → (tkF tl ts p ≤ m) → lm_wp d 42 31 [.ref 95, .int lo, .int up, .int v, .int mk] [] (hi, hl, X) Po := by
  intro r
  induction r with
  | zero =>
    intro m v mk hm e1 e2 hF
    refine w_N 2 34 [.ref 95, .int lo, .int up, .int v, .int mk] [.ref 95, .int mk] rfl ?_
    refine w_gi (v := nI (tkE tl ts p)) rfl rfl rfl (A_k S 95 (by decide)) (HP.2.2.2.1) ?_
    refine w_icmp_ge_t (t := 62) rfl rfl (by rw [e2, show m = tkE tl ts p by omega]; exact fun z => Int32.lt_irrefl z) ?_
    rw [e1, show m = tkE tl ts p by omega]
    exact kc _
  | succ r ih =>
    intro m v mk hm e1 e2 hF
    have hb := tk_b (tl := tl) hp
    refine w_N 2 34 [.ref 95, .int lo, .int up, .int v, .int mk] [.ref 95, .int mk] rfl ?_
    refine w_gi (v := nI (tkE tl ts p)) rfl rfl rfl (A_k S 95 (by decide)) (HP.2.2.2.1) ?_
    refine w_icmp_ge_f (t := 62) rfl rfl (by rw [e2]; exact nI_lt (by omega) (by omega)) ?_
    refine w_N 4 45 [.ref 95, .int lo, .int up, .int v, .int mk] [.ref 95, .int (v * 10)] rfl ?_
    refine w_gr 96 rfl rfl rfl (A_k S 95 (by decide)) (A_r S 95 0 (by decide)) ?_
    refine w_N 1 50 [.ref 95, .int lo, .int up, .int v, .int mk] [.int mk, .ref 96, .int (v * 10)] rfl ?_
    refine w_ia m (v := tl m) rfl (A_k S 96 (by decide)) (show X.2.2.1 96 = 250 from A_l S 96 (by decide)) e2 (by omega) (by decide) (HP.2.1 m (by omega)) ?_
    refine w_N 6 31 [.ref 95, .int lo, .int up, .int (((v * 10) + (tl m)) - 48), .int (mk + 1)] [] rfl ?_
    refine ih (m + 1) _ _ (by omega) ?_ (by rw [e2, nI_succ]) (by omega)
    rw [show m + 1 - tkF tl ts p = (m - tkF tl ts p) + 1 by omega]
    show _ = if m - tkF tl ts p < 2 then fgL tl (tkF tl ts p) (m - tkF tl ts p) * 10 + tl (tkF tl ts p + (m - tkF tl ts p)) - 48 else 100000
    rw [if_pos (by omega), show tkF tl ts p + (m - tkF tl ts p) = m by omega, e1]
theorem t_numF {d : Nat} {hi : Nat → Nat → Int32} {hl : Nat → Nat → Int64} {X : lm_X} {ts p : Nat} {tl : Nat → Int32} (S : sh_A X) (Q : isTx hi X) (hts : ts ≤ 250) (hp : p ≤ ts) (HP : tpC tl ts hi p) {lo up : Int32} (h : nmO tl ts p lo up = false) : lm_c (d + 2) 42 [.ref 95, .int lo, .int up] (hi, hl, X) (some (.int (-1)), (hi, hl, X)) := by
  refine lm_c_of (lm_w_in (Nat.le_of_ble_eq_true rfl) ?_)
  show lm_wp (d + 2) 42 0 [.ref 95, .int lo, .int up, lm_jk, lm_jk] [] (hi, hl, X) _
  have hb := tk_b (tl := tl) hp
  refine w_N 1 1 [.ref 95, .int lo, .int up, lm_jk, lm_jk] [.ref 95] rfl ?_
  refine w_gi (v := tkS tl ts p) rfl rfl rfl (A_k S 95 (by decide)) (HP.2.2.2.2) ?_
  refine w_N 1 5 [.ref 95, .int lo, .int up, lm_jk, lm_jk] [.int 2, .int (tkS tl ts p)] rfl ?_
  refine w_icmp_ne (t := 21) rfl rfl (fun c1 => ?_) (fun c1 => ?_)
  · refine w_N 1 22 [.ref 95, .int lo, .int up, lm_jk, lm_jk] [.int (-1)] rfl ?_
    refine w_ri rfl rfl ?_
    rfl
  · refine w_N 1 9 [.ref 95, .int lo, .int up, lm_jk, lm_jk] [.ref 95] rfl ?_
    refine w_gi (v := nI (tkE tl ts p)) rfl rfl rfl (A_k S 95 (by decide)) (HP.2.2.2.1) ?_
    refine w_N 1 13 [.ref 95, .int lo, .int up, lm_jk, lm_jk] [.ref 95, .int (nI (tkE tl ts p))] rfl ?_
    refine w_gi (v := nI (tkF tl ts p)) rfl rfl rfl (A_k S 95 (by decide)) (HP.2.2.1) ?_
    refine w_N 2 18 [.ref 95, .int lo, .int up, lm_jk, lm_jk] [.int 2, .int ((nI (tkE tl ts p)) - (nI (tkF tl ts p)))] rfl ?_
    refine w_icmp_le (t := 23) rfl rfl (fun c2 => ?_) (fun c2 => ?_)
    · refine w_N 3 26 [.ref 95, .int lo, .int up, .int 0, lm_jk] [.ref 95] rfl ?_
      refine w_gi (v := nI (tkF tl ts p)) rfl rfl rfl (A_k S 95 (by decide)) (HP.2.2.1) ?_
      refine w_N 1 31 [.ref 95, .int lo, .int up, .int 0, .int (nI (tkF tl ts p))] [] rfl ?_
      have hl2 : tkE tl ts p - tkF tl ts p ≤ 2 := by
        have q := c2
        rw [nI_sub hb.2.2.1, show (2 : Int32) = nI 2 from rfl, nI_lt_iff (by omega) (by omega)] at q
        omega
      refine t_nu1 (lo := lo) (up := up) S Q hts hp HP hl2 (fun c9 => ?_) (tkE tl ts p - tkF tl ts p) (tkF tl ts p) _ _ (by omega) (by rw [Nat.sub_self]; rfl) rfl (Nat.le_refl _)
      rw [← fg_e c1]
      refine w_N 2 64 [.ref 95, .int lo, .int up, .int (fgI tl ts p), .int c9] [.int lo, .int (fgI tl ts p)] rfl ?_
      refine w_icmp_lt (t := 72) rfl rfl (fun c3 => ?_) (fun c3 => ?_)
      · refine w_N 1 73 [.ref 95, .int lo, .int up, .int (fgI tl ts p), .int c9] [.int (-1)] rfl ?_
        refine w_ri rfl rfl ?_
        rfl
      · refine w_N 2 69 [.ref 95, .int lo, .int up, .int (fgI tl ts p), .int c9] [.int up, .int (fgI tl ts p)] rfl ?_
        refine w_icmp_le (t := 74) rfl rfl (fun c4 => ?_) (fun c4 => ?_)
        · exact absurd h (by unfold nmO wi; rw [c1]; simp [c2, c3, c4])
        · refine w_N 1 73 [.ref 95, .int lo, .int up, .int (fgI tl ts p), .int c9] [.int (-1)] rfl ?_
          refine w_ri rfl rfl ?_
          rfl
    · refine w_N 1 22 [.ref 95, .int lo, .int up, lm_jk, lm_jk] [.int (-1)] rfl ?_
      refine w_ri rfl rfl ?_
      rfl
theorem tpC_f {tl : Nat → Int32} {ts p : Nat} {hi hi' : Nat → Nat → Int32} (h1 : hi' 95 = hi 95) (h2 : hi' 96 = hi 96) (H : tpC tl ts hi p) : tpC tl ts hi' p := by unfold tpC; rw [h1, h2]; exact H
theorem t_numT {d : Nat} {hi : Nat → Nat → Int32} {hl : Nat → Nat → Int64} {X : lm_X} {ts p : Nat} {tl : Nat → Int32} (S : sh_A X) (Q : isTx hi X) (hts : ts ≤ 250) (hp : p ≤ ts) (HP : tpC tl ts hi p) {lo up : Int32} (h : nmO tl ts p lo up = true) (hu : up.toInt ≤ 99) : lm_w (d + 2) 42 [.ref 95, .int lo, .int up] (hi, hl, X) (fun v h1 => ∃ hi', v = some (.int (fgI tl ts p)) ∧ h1 = (hi', hl, X) ∧ tpC tl ts hi' (tkE tl ts p) ∧ ∀ a, a ≠ 95 → hi' a = hi a) := by
  refine lm_w_in (Nat.le_of_ble_eq_true rfl) ?_
  show lm_wp (d + 2) 42 0 [.ref 95, .int lo, .int up, lm_jk, lm_jk] [] (hi, hl, X) _
  have hb := tk_b (tl := tl) hp
  have hn := nm_t h
  have hl2 : tkE tl ts p - tkF tl ts p ≤ 2 := by have := nm_len h hu; omega
  have hw := hn.2
  unfold wi at hw
  rw [Bool.and_eq_true] at hw
  have hw1 : ¬ fgI tl ts p < lo := by simpa using hw.1
  have hw2 : ¬ up < fgI tl ts p := by simpa using hw.2
  refine w_N 1 1 [.ref 95, .int lo, .int up, lm_jk, lm_jk] [.ref 95] rfl ?_
  refine w_gi (v := tkS tl ts p) rfl rfl rfl (A_k S 95 (by decide)) (HP.2.2.2.2) ?_
  refine w_N 1 5 [.ref 95, .int lo, .int up, lm_jk, lm_jk] [.int 2, .int (tkS tl ts p)] rfl ?_
  refine w_icmp_ne_f (t := 21) rfl rfl hn.1 ?_
  refine w_N 1 9 [.ref 95, .int lo, .int up, lm_jk, lm_jk] [.ref 95] rfl ?_
  refine w_gi (v := nI (tkE tl ts p)) rfl rfl rfl (A_k S 95 (by decide)) (HP.2.2.2.1) ?_
  refine w_N 1 13 [.ref 95, .int lo, .int up, lm_jk, lm_jk] [.ref 95, .int (nI (tkE tl ts p))] rfl ?_
  refine w_gi (v := nI (tkF tl ts p)) rfl rfl rfl (A_k S 95 (by decide)) (HP.2.2.1) ?_
  refine w_N 2 18 [.ref 95, .int lo, .int up, lm_jk, lm_jk] [.int 2, .int ((nI (tkE tl ts p)) - (nI (tkF tl ts p)))] rfl ?_
  refine w_icmp_le_t (t := 23) rfl rfl (by rw [nI_sub hb.2.2.1, show (2 : Int32) = nI 2 from rfl, nI_lt_iff (by omega) (by omega)]; omega) ?_
  refine w_N 3 26 [.ref 95, .int lo, .int up, .int 0, lm_jk] [.ref 95] rfl ?_
  refine w_gi (v := nI (tkF tl ts p)) rfl rfl rfl (A_k S 95 (by decide)) (HP.2.2.1) ?_
  refine w_N 1 31 [.ref 95, .int lo, .int up, .int 0, .int (nI (tkF tl ts p))] [] rfl ?_
  refine t_nu1 (lo := lo) (up := up) S Q hts hp HP hl2 (fun c9 => ?_) (tkE tl ts p - tkF tl ts p) (tkF tl ts p) _ _ (by omega) (by rw [Nat.sub_self]; rfl) rfl (Nat.le_refl _)
  rw [← fg_e hn.1]
  refine w_N 2 64 [.ref 95, .int lo, .int up, .int (fgI tl ts p), .int c9] [.int lo, .int (fgI tl ts p)] rfl ?_
  refine w_icmp_lt_f (t := 72) rfl rfl hw1 ?_
  refine w_N 2 69 [.ref 95, .int lo, .int up, .int (fgI tl ts p), .int c9] [.int up, .int (fgI tl ts p)] rfl ?_
  refine w_icmp_le_t (t := 74) rfl rfl hw2 ?_
  refine w_N 1 75 [.ref 95, .int lo, .int up, .int (fgI tl ts p), .int c9] [.ref 95] rfl ?_
  refine w_ca (w_vst rfl rfl rfl (Nat.le_of_ble_eq_true rfl) (Nat.le_of_ble_eq_true rfl) (A_k S 95 (by decide))) (t_adv S hts HP.1 HP.2.1 hb.2.2.2.1 HP.2.2.2.1) ?_
  rintro _ _ ⟨h5x, rfl, rfl, P5, f5⟩
  show lm_wp _ 42 78 [.ref 95, .int lo, .int up, .int (fgI tl ts p), .int c9] [] (h5x, hl, X) _
  refine w_N 1 79 [.ref 95, .int lo, .int up, .int (fgI tl ts p), .int c9] [.int (fgI tl ts p)] rfl ?_
  refine w_ri rfl rfl ?_
  exact ⟨_, rfl, rfl, P5, f5⟩
theorem m_wrong {d : Nat} {hi : Nat → Nat → Int32} {hl : Nat → Nat → Int64} {X : lm_X} {ts p : Nat} {tl : Nat → Int32} (S : sh_M X 123) (Q : isTx hi X) (hts : ts ≤ 250) (hp : p ≤ ts) (HP : tpM tl ts hi p) : lm_c d 160 [.ref 123] (hi, hl, X) (some (.int 0), (lm_up hi 123 28 (nI (tkF tl ts p)), hl, X)) := by
  refine lm_c_of (lm_w_in (Nat.le_of_ble_eq_true rfl) ?_)
  show lm_wp d 160 0 [.ref 123] [] (hi, hl, X) _
  refine w_N 2 2 [.ref 123] [.ref 123, .ref 123] rfl ?_
  refine w_gi (v := nI (tkF tl ts p)) rfl rfl rfl (M_kd S) (HP.2.2.1) ?_
  refine w_pi rfl rfl rfl rfl (M_kd S) (M_64 S) ?_
  refine w_N 1 9 [.ref 123] [.int 0] rfl ?_
  refine w_rz rfl rfl (by decide) ?_
  rfl
theorem m_numF {d : Nat} {hi : Nat → Nat → Int32} {hl : Nat → Nat → Int64} {X : lm_X} {ts p : Nat} {tl : Nat → Int32} (S : sh_M X 123) (Q : isTx hi X) (hts : ts ≤ 250) (hp : p ≤ ts) (HP : tpM tl ts hi p) {lo up i : Int32} (h : nmO tl ts p lo up = false) : lm_c (d + 2) 162 [.ref 123, .int i, .int lo, .int up] (hi, hl, X) (some (.int 0), (lm_up hi 123 28 (nI (tkF tl ts p)), hl, X)) := by
  refine lm_c_of (lm_w_in (Nat.le_of_ble_eq_true rfl) ?_)
  show lm_wp (d + 2) 162 0 [.ref 123, .int i, .int lo, .int up] [] (hi, hl, X) _
  refine w_N 1 1 [.ref 123, .int i, .int lo, .int up] [.ref 123] rfl ?_
  refine w_gi (v := tkS tl ts p) rfl rfl rfl (M_kd S) (HP.2.2.2.2.1) ?_
  refine w_N 1 5 [.ref 123, .int i, .int lo, .int up] [.int 2, .int (tkS tl ts p)] rfl ?_
  refine w_icmp_ne (t := 23) rfl rfl (fun c1 => ?_) (fun c1 => ?_)
  · refine w_N 1 24 [.ref 123, .int i, .int lo, .int up] [.ref 123] rfl ?_
    refine w_cc (w_vst rfl rfl rfl (Nat.le_of_ble_eq_true rfl) (Nat.le_of_ble_eq_true rfl) (M_kd S)) (m_wrong S Q hts hp HP) ?_
    show lm_wp _ 162 27 [.ref 123, .int i, .int lo, .int up] [.int 0] ((lm_up hi 123 28 (nI (tkF tl ts p))), hl, X) _
    refine w_rz rfl rfl (by decide) ?_
    rfl
  · refine w_N 1 9 [.ref 123, .int i, .int lo, .int up] [.ref 123] rfl ?_
    refine w_gi (v := fgI tl ts p) rfl rfl rfl (M_kd S) (HP.2.2.2.2.2) ?_
    refine w_N 5 17 [.ref 123, .int i, .int lo, .int up] [.long up.toInt64, .long lo.toInt64, .long ((fgI tl ts p).toInt64)] rfl ?_
    refine w_cc rfl (m_in (x := fgI tl ts p) (lo := lo) (up := up) rfl rfl rfl) ?_
    show lm_wp _ 162 20 [.ref 123, .int i, .int lo, .int up] [.int (bz (wi (fgI tl ts p) lo up))] (hi, hl, X) _
    refine w_zne (t := 28) rfl rfl (fun c2 => ?_) (fun c2 => ?_)
    · exact absurd h (by unfold nmO; simp [c1, c2])
    · refine w_N 1 24 [.ref 123, .int i, .int lo, .int up] [.ref 123] rfl ?_
      refine w_cc (w_vst rfl rfl rfl (Nat.le_of_ble_eq_true rfl) (Nat.le_of_ble_eq_true rfl) (M_kd S)) (m_wrong S Q hts hp HP) ?_
      show lm_wp _ 162 27 [.ref 123, .int i, .int lo, .int up] [.int 0] ((lm_up hi 123 28 (nI (tkF tl ts p))), hl, X) _
      refine w_rz rfl rfl (by decide) ?_
      rfl
theorem m_numT {d : Nat} {hi : Nat → Nat → Int32} {hl : Nat → Nat → Int64} {X : lm_X} {ts p : Nat} {tl : Nat → Int32} (S : sh_M X 123) (Q : isTx hi X) (hts : ts ≤ 250) (hp : p ≤ ts) (HP : tpM tl ts hi p) {lo up x : Int32} {i : Nat} (hx : x = nI i) (h4 : i < 4) (h : nmO tl ts p lo up = true) : lm_w (d + 2) 162 [.ref 123, .int x, .int lo, .int up] (hi, hl, X) (fun v h1 => ∃ hi', v = some (.int 1) ∧ h1 = (hi', hl, X) ∧ tpM tl ts hi' (tkE tl ts p) ∧ hi' 158 i = fgI tl ts p ∧ (∀ j, j ≠ i → hi' 158 j = hi 158 j) ∧ (∀ a, a ≠ 123 → a ≠ 158 → hi' a = hi a) ∧ (∀ k, k ≠ 24 → k ≠ 25 → k ≠ 26 → k ≠ 27 → hi' 123 k = hi 123 k)) := by
  refine lm_w_in (Nat.le_of_ble_eq_true rfl) ?_
  show lm_wp (d + 2) 162 0 [.ref 123, .int x, .int lo, .int up] [] (hi, hl, X) _
  have hb := tk_b (tl := tl) hp
  have hn := nm_t h
  refine w_N 1 1 [.ref 123, .int x, .int lo, .int up] [.ref 123] rfl ?_
  refine w_gi (v := tkS tl ts p) rfl rfl rfl (M_kd S) (HP.2.2.2.2.1) ?_
  refine w_N 1 5 [.ref 123, .int x, .int lo, .int up] [.int 2, .int (tkS tl ts p)] rfl ?_
  refine w_icmp_ne_f (t := 23) rfl rfl hn.1 ?_
  refine w_N 1 9 [.ref 123, .int x, .int lo, .int up] [.ref 123] rfl ?_
  refine w_gi (v := fgI tl ts p) rfl rfl rfl (M_kd S) (HP.2.2.2.2.2) ?_
  refine w_N 5 17 [.ref 123, .int x, .int lo, .int up] [.long up.toInt64, .long lo.toInt64, .long ((fgI tl ts p).toInt64)] rfl ?_
  refine w_cc rfl (lm_c_1 (m_in (x := fgI tl ts p) (lo := lo) (up := up) rfl rfl rfl) hn.2) ?_
  show lm_wp _ 162 20 [.ref 123, .int x, .int lo, .int up] [.int 1] (hi, hl, X) _
  refine w_if_ne_t (t := 28) rfl rfl (by decide) ?_
  refine w_N 1 29 [.ref 123, .int x, .int lo, .int up] [.ref 123] rfl ?_
  refine w_gr 158 rfl rfl rfl (M_kd S) (M_r S (k := 29) (o := 35) rfl) ?_
  refine w_N 2 34 [.ref 123, .int x, .int lo, .int up] [.ref 123, .int x, .ref 158] rfl ?_
  refine w_gi (v := fgI tl ts p) rfl rfl rfl (M_kd S) (HP.2.2.2.2.2) ?_
  refine w_is i rfl (show X.2.1 (158) = 1 from M_k S 35 (by decide)) (by decide) (show X.2.2.1 (158) = 4 from M_l S 35 (by decide)) hx h4 (by decide) ?_
  refine w_N 1 39 [.ref 123, .int x, .int lo, .int up] [.ref 123] rfl ?_
  refine w_ca (w_vst rfl rfl rfl (Nat.le_of_ble_eq_true rfl) (Nat.le_of_ble_eq_true rfl) (M_kd S)) (m_look (tl := tl) (hi := lm_up hi 158 i (fgI tl ts p)) S hts ((lm_up_na (by decide)).trans HP.1) (fun j hj => (lm_up_na (by decide)).trans (HP.2.1 j hj)) hb.2.2.2.1 ((lm_up_na (by decide)).trans HP.2.2.2.1)) ?_
  rintro _ _ ⟨h5x, rfl, rfl, P5, f5, g5⟩
  show lm_wp _ 162 42 [.ref 123, .int x, .int lo, .int up] [] (h5x, hl, X) _
  refine w_N 1 43 [.ref 123, .int x, .int lo, .int up] [.int 1] rfl ?_
  refine w_rz rfl rfl (by decide) ?_
  refine ⟨_, rfl, rfl, P5, ?_, fun j hj => ?_, fun a a1 a2 => ?_, fun k k1 k2 k3 k4 => ?_⟩
  · rw [f5 158 (by decide), lm_up_eq]
  · rw [f5 158 (by decide), lm_up_nk hj]
  · rw [f5 a a1, lm_up_rw a2]
  · rw [g5 k k1 k2 k3 k4, lm_up_na (by decide)]
theorem isTx_f {hi hi' : Nat → Nat → Int32} {X : lm_X} (f : ∀ b, b < 64 → hi' b = hi b) (Q : isTx hi X) : isTx hi' X := fun i hj => by
  obtain ⟨q1, q2, q3, q4, q5, q6⟩ := Q i hj
  exact ⟨q1, q2, q3, q4, by rw [f (1 + i) (by omega)]; exact q5, fun j hj => by rw [f (31 + i) (by omega)]; exact q6 j hj⟩
theorem m_tellsF0 {d : Nat} {hi : Nat → Nat → Int32} {hl : Nat → Nat → Int64} {X : lm_X} {ts p : Nat} {tl : Nat → Int32} (S : sh_M X 123) (Q : isTx hi X) (hts : ts ≤ 250) (hp : p ≤ ts) (HP : tpM tl ts hi p) {lo up x : Int32} (h : wdq tl ts p wL0 = true) (h2 : nmO tl ts (tkE tl ts p) lo up = false) : lm_w (d + 4) 163 [.ref 123, .ref 12, .int x, .int lo, .int up] (hi, hl, X) (fun v h1 => ∃ hi', v = some (.int 0) ∧ h1 = (hi', hl, X) ∧ hi' 123 28 = nI (tkF tl ts (tkE tl ts p)) ∧ (∀ a, a ≠ 123 → hi' a = hi a) ∧ (∀ k, k ≠ 24 → k ≠ 25 → k ≠ 26 → k ≠ 27 → k ≠ 28 → hi' 123 k = hi 123 k)) := by
  refine lm_w_in (Nat.le_of_ble_eq_true rfl) ?_
  show lm_wp (d + 4) 163 0 [.ref 123, .ref 12, .int x, .int lo, .int up] [] (hi, hl, X) _
  have hb := tk_b (tl := tl) hp
  refine w_N 2 2 [.ref 123, .ref 12, .int x, .int lo, .int up] [.ref 12, .ref 123] rfl ?_
  refine w_cc (w_vst rfl rfl rfl (Nat.le_of_ble_eq_true rfl) (Nat.le_of_ble_eq_true rfl) (M_kd S)) (lm_c_1 (m_isWord0 S Q hts hp HP) h) ?_
  show lm_wp _ 163 5 [.ref 123, .ref 12, .int x, .int lo, .int up] [.int 1] (hi, hl, X) _
  refine w_if_ne_t (t := 13) rfl rfl (by decide) ?_
  refine w_N 1 14 [.ref 123, .ref 12, .int x, .int lo, .int up] [.ref 123] rfl ?_
  refine w_ca (w_vst rfl rfl rfl (Nat.le_of_ble_eq_true rfl) (Nat.le_of_ble_eq_true rfl) (M_kd S)) (m_look (tl := tl) S hts HP.1 HP.2.1 hb.2.2.2.1 HP.2.2.2.1) ?_
  rintro _ _ ⟨h5x, rfl, rfl, P5, f5, g5⟩
  have Q5 : isTx h5x X := isTx_f (fun b hb => f5 b (by omega)) Q
  show lm_wp _ 163 17 [.ref 123, .ref 12, .int x, .int lo, .int up] [] (h5x, hl, X) _
  refine w_N 4 22 [.ref 123, .ref 12, .int x, .int lo, .int up] [.int up, .int lo, .int x, .ref 123] rfl ?_
  refine w_cc (w_vst rfl rfl rfl (Nat.le_of_ble_eq_true rfl) (Nat.le_of_ble_eq_true rfl) (M_kd S)) (m_numF S Q5 hts hb.2.2.2.1 P5 h2) ?_
  show lm_wp _ 163 25 [.ref 123, .ref 12, .int x, .int lo, .int up] [.int 0] (lm_up h5x 123 28 (nI (tkF tl ts (tkE tl ts p))), hl, X) _
  refine w_rz rfl rfl (by decide) ?_
  exact ⟨_, rfl, rfl, lm_up_eq, fun a ha => (lm_up_rw ha).trans (f5 a ha), fun k k1 k2 k3 k4 k5 => (lm_up_nk k5).trans (g5 k k1 k2 k3 k4)⟩
theorem m_tellsT0 {d : Nat} {hi : Nat → Nat → Int32} {hl : Nat → Nat → Int64} {X : lm_X} {ts p : Nat} {tl : Nat → Int32} (S : sh_M X 123) (Q : isTx hi X) (hts : ts ≤ 250) (hp : p ≤ ts) (HP : tpM tl ts hi p) {lo up x : Int32} (h : wdq tl ts p wL0 = true) {j : Nat} (hx : x = nI j) (h4 : j < 4) (h2 : nmO tl ts (tkE tl ts p) lo up = true) : lm_w (d + 4) 163 [.ref 123, .ref 12, .int x, .int lo, .int up] (hi, hl, X) (fun v h1 => ∃ hi', v = some (.int 1) ∧ h1 = (hi', hl, X) ∧ tpM tl ts hi' (tkE tl ts (tkE tl ts p)) ∧ hi' 158 j = fgI tl ts (tkE tl ts p) ∧ (∀ i, i ≠ j → hi' 158 i = hi 158 i) ∧ (∀ a, a ≠ 123 → a ≠ 158 → hi' a = hi a) ∧ (∀ k, k ≠ 24 → k ≠ 25 → k ≠ 26 → k ≠ 27 → hi' 123 k = hi 123 k)) := by
  refine lm_w_in (Nat.le_of_ble_eq_true rfl) ?_
  show lm_wp (d + 4) 163 0 [.ref 123, .ref 12, .int x, .int lo, .int up] [] (hi, hl, X) _
  have hb := tk_b (tl := tl) hp
  refine w_N 2 2 [.ref 123, .ref 12, .int x, .int lo, .int up] [.ref 12, .ref 123] rfl ?_
  refine w_cc (w_vst rfl rfl rfl (Nat.le_of_ble_eq_true rfl) (Nat.le_of_ble_eq_true rfl) (M_kd S)) (lm_c_1 (m_isWord0 S Q hts hp HP) h) ?_
  show lm_wp _ 163 5 [.ref 123, .ref 12, .int x, .int lo, .int up] [.int 1] (hi, hl, X) _
  refine w_if_ne_t (t := 13) rfl rfl (by decide) ?_
  refine w_N 1 14 [.ref 123, .ref 12, .int x, .int lo, .int up] [.ref 123] rfl ?_
  refine w_ca (w_vst rfl rfl rfl (Nat.le_of_ble_eq_true rfl) (Nat.le_of_ble_eq_true rfl) (M_kd S)) (m_look (tl := tl) S hts HP.1 HP.2.1 hb.2.2.2.1 HP.2.2.2.1) ?_
  rintro _ _ ⟨h5x, rfl, rfl, P5, f5, g5⟩
  have Q5 : isTx h5x X := isTx_f (fun b hb => f5 b (by omega)) Q
  show lm_wp _ 163 17 [.ref 123, .ref 12, .int x, .int lo, .int up] [] (h5x, hl, X) _
  refine w_N 4 22 [.ref 123, .ref 12, .int x, .int lo, .int up] [.int up, .int lo, .int x, .ref 123] rfl ?_
  refine w_ca (w_vst rfl rfl rfl (Nat.le_of_ble_eq_true rfl) (Nat.le_of_ble_eq_true rfl) (M_kd S)) (m_numT S Q5 hts hb.2.2.2.1 P5 hx h4 h2) ?_
  rintro _ _ ⟨h6x, rfl, rfl, P6, t6, u6, f6, g6⟩
  show lm_wp _ 163 25 [.ref 123, .ref 12, .int x, .int lo, .int up] [.int 1] (h6x, hl, X) _
  refine w_rz rfl rfl (by decide) ?_
  exact ⟨_, rfl, rfl, P6, t6, fun i hi2 => (u6 i hi2).trans (by rw [f5 158 (by decide)]), fun a a1 a2 => (f6 a a1 a2).trans (f5 a a1), fun k k1 k2 k3 k4 => (g6 k k1 k2 k3 k4).trans (g5 k k1 k2 k3 k4)⟩
theorem m_tellsF1 {d : Nat} {hi : Nat → Nat → Int32} {hl : Nat → Nat → Int64} {X : lm_X} {ts p : Nat} {tl : Nat → Int32} (S : sh_M X 123) (Q : isTx hi X) (hts : ts ≤ 250) (hp : p ≤ ts) (HP : tpM tl ts hi p) {lo up x : Int32} (h : wdq tl ts p wL1 = true) (h2 : nmO tl ts (tkE tl ts p) lo up = false) : lm_w (d + 4) 163 [.ref 123, .ref 13, .int x, .int lo, .int up] (hi, hl, X) (fun v h1 => ∃ hi', v = some (.int 0) ∧ h1 = (hi', hl, X) ∧ hi' 123 28 = nI (tkF tl ts (tkE tl ts p)) ∧ (∀ a, a ≠ 123 → hi' a = hi a) ∧ (∀ k, k ≠ 24 → k ≠ 25 → k ≠ 26 → k ≠ 27 → k ≠ 28 → hi' 123 k = hi 123 k)) := by
  refine lm_w_in (Nat.le_of_ble_eq_true rfl) ?_
  show lm_wp (d + 4) 163 0 [.ref 123, .ref 13, .int x, .int lo, .int up] [] (hi, hl, X) _
  have hb := tk_b (tl := tl) hp
  refine w_N 2 2 [.ref 123, .ref 13, .int x, .int lo, .int up] [.ref 13, .ref 123] rfl ?_
  refine w_cc (w_vst rfl rfl rfl (Nat.le_of_ble_eq_true rfl) (Nat.le_of_ble_eq_true rfl) (M_kd S)) (lm_c_1 (m_isWord1 S Q hts hp HP) h) ?_
  show lm_wp _ 163 5 [.ref 123, .ref 13, .int x, .int lo, .int up] [.int 1] (hi, hl, X) _
  refine w_if_ne_t (t := 13) rfl rfl (by decide) ?_
  refine w_N 1 14 [.ref 123, .ref 13, .int x, .int lo, .int up] [.ref 123] rfl ?_
  refine w_ca (w_vst rfl rfl rfl (Nat.le_of_ble_eq_true rfl) (Nat.le_of_ble_eq_true rfl) (M_kd S)) (m_look (tl := tl) S hts HP.1 HP.2.1 hb.2.2.2.1 HP.2.2.2.1) ?_
  rintro _ _ ⟨h5x, rfl, rfl, P5, f5, g5⟩
  have Q5 : isTx h5x X := isTx_f (fun b hb => f5 b (by omega)) Q
  show lm_wp _ 163 17 [.ref 123, .ref 13, .int x, .int lo, .int up] [] (h5x, hl, X) _
  refine w_N 4 22 [.ref 123, .ref 13, .int x, .int lo, .int up] [.int up, .int lo, .int x, .ref 123] rfl ?_
  refine w_cc (w_vst rfl rfl rfl (Nat.le_of_ble_eq_true rfl) (Nat.le_of_ble_eq_true rfl) (M_kd S)) (m_numF S Q5 hts hb.2.2.2.1 P5 h2) ?_
  show lm_wp _ 163 25 [.ref 123, .ref 13, .int x, .int lo, .int up] [.int 0] (lm_up h5x 123 28 (nI (tkF tl ts (tkE tl ts p))), hl, X) _
  refine w_rz rfl rfl (by decide) ?_
  exact ⟨_, rfl, rfl, lm_up_eq, fun a ha => (lm_up_rw ha).trans (f5 a ha), fun k k1 k2 k3 k4 k5 => (lm_up_nk k5).trans (g5 k k1 k2 k3 k4)⟩
theorem m_tellsT1 {d : Nat} {hi : Nat → Nat → Int32} {hl : Nat → Nat → Int64} {X : lm_X} {ts p : Nat} {tl : Nat → Int32} (S : sh_M X 123) (Q : isTx hi X) (hts : ts ≤ 250) (hp : p ≤ ts) (HP : tpM tl ts hi p) {lo up x : Int32} (h : wdq tl ts p wL1 = true) {j : Nat} (hx : x = nI j) (h4 : j < 4) (h2 : nmO tl ts (tkE tl ts p) lo up = true) : lm_w (d + 4) 163 [.ref 123, .ref 13, .int x, .int lo, .int up] (hi, hl, X) (fun v h1 => ∃ hi', v = some (.int 1) ∧ h1 = (hi', hl, X) ∧ tpM tl ts hi' (tkE tl ts (tkE tl ts p)) ∧ hi' 158 j = fgI tl ts (tkE tl ts p) ∧ (∀ i, i ≠ j → hi' 158 i = hi 158 i) ∧ (∀ a, a ≠ 123 → a ≠ 158 → hi' a = hi a) ∧ (∀ k, k ≠ 24 → k ≠ 25 → k ≠ 26 → k ≠ 27 → hi' 123 k = hi 123 k)) := by
  refine lm_w_in (Nat.le_of_ble_eq_true rfl) ?_
  show lm_wp (d + 4) 163 0 [.ref 123, .ref 13, .int x, .int lo, .int up] [] (hi, hl, X) _
  have hb := tk_b (tl := tl) hp
  refine w_N 2 2 [.ref 123, .ref 13, .int x, .int lo, .int up] [.ref 13, .ref 123] rfl ?_
  refine w_cc (w_vst rfl rfl rfl (Nat.le_of_ble_eq_true rfl) (Nat.le_of_ble_eq_true rfl) (M_kd S)) (lm_c_1 (m_isWord1 S Q hts hp HP) h) ?_
  show lm_wp _ 163 5 [.ref 123, .ref 13, .int x, .int lo, .int up] [.int 1] (hi, hl, X) _
  refine w_if_ne_t (t := 13) rfl rfl (by decide) ?_
  refine w_N 1 14 [.ref 123, .ref 13, .int x, .int lo, .int up] [.ref 123] rfl ?_
  refine w_ca (w_vst rfl rfl rfl (Nat.le_of_ble_eq_true rfl) (Nat.le_of_ble_eq_true rfl) (M_kd S)) (m_look (tl := tl) S hts HP.1 HP.2.1 hb.2.2.2.1 HP.2.2.2.1) ?_
  rintro _ _ ⟨h5x, rfl, rfl, P5, f5, g5⟩
  have Q5 : isTx h5x X := isTx_f (fun b hb => f5 b (by omega)) Q
  show lm_wp _ 163 17 [.ref 123, .ref 13, .int x, .int lo, .int up] [] (h5x, hl, X) _
  refine w_N 4 22 [.ref 123, .ref 13, .int x, .int lo, .int up] [.int up, .int lo, .int x, .ref 123] rfl ?_
  refine w_ca (w_vst rfl rfl rfl (Nat.le_of_ble_eq_true rfl) (Nat.le_of_ble_eq_true rfl) (M_kd S)) (m_numT S Q5 hts hb.2.2.2.1 P5 hx h4 h2) ?_
  rintro _ _ ⟨h6x, rfl, rfl, P6, t6, u6, f6, g6⟩
  show lm_wp _ 163 25 [.ref 123, .ref 13, .int x, .int lo, .int up] [.int 1] (h6x, hl, X) _
  refine w_rz rfl rfl (by decide) ?_
  exact ⟨_, rfl, rfl, P6, t6, fun i hi2 => (u6 i hi2).trans (by rw [f5 158 (by decide)]), fun a a1 a2 => (f6 a a1 a2).trans (f5 a a1), fun k k1 k2 k3 k4 => (g6 k k1 k2 k3 k4).trans (g5 k k1 k2 k3 k4)⟩
theorem m_tellsF2 {d : Nat} {hi : Nat → Nat → Int32} {hl : Nat → Nat → Int64} {X : lm_X} {ts p : Nat} {tl : Nat → Int32} (S : sh_M X 123) (Q : isTx hi X) (hts : ts ≤ 250) (hp : p ≤ ts) (HP : tpM tl ts hi p) {lo up x : Int32} (h : wdq tl ts p wL2 = true) (h2 : nmO tl ts (tkE tl ts p) lo up = false) : lm_w (d + 4) 163 [.ref 123, .ref 14, .int x, .int lo, .int up] (hi, hl, X) (fun v h1 => ∃ hi', v = some (.int 0) ∧ h1 = (hi', hl, X) ∧ hi' 123 28 = nI (tkF tl ts (tkE tl ts p)) ∧ (∀ a, a ≠ 123 → hi' a = hi a) ∧ (∀ k, k ≠ 24 → k ≠ 25 → k ≠ 26 → k ≠ 27 → k ≠ 28 → hi' 123 k = hi 123 k)) := by
  refine lm_w_in (Nat.le_of_ble_eq_true rfl) ?_
  show lm_wp (d + 4) 163 0 [.ref 123, .ref 14, .int x, .int lo, .int up] [] (hi, hl, X) _
  have hb := tk_b (tl := tl) hp
  refine w_N 2 2 [.ref 123, .ref 14, .int x, .int lo, .int up] [.ref 14, .ref 123] rfl ?_
  refine w_cc (w_vst rfl rfl rfl (Nat.le_of_ble_eq_true rfl) (Nat.le_of_ble_eq_true rfl) (M_kd S)) (lm_c_1 (m_isWord2 S Q hts hp HP) h) ?_
  show lm_wp _ 163 5 [.ref 123, .ref 14, .int x, .int lo, .int up] [.int 1] (hi, hl, X) _
  refine w_if_ne_t (t := 13) rfl rfl (by decide) ?_
  refine w_N 1 14 [.ref 123, .ref 14, .int x, .int lo, .int up] [.ref 123] rfl ?_
  refine w_ca (w_vst rfl rfl rfl (Nat.le_of_ble_eq_true rfl) (Nat.le_of_ble_eq_true rfl) (M_kd S)) (m_look (tl := tl) S hts HP.1 HP.2.1 hb.2.2.2.1 HP.2.2.2.1) ?_
  rintro _ _ ⟨h5x, rfl, rfl, P5, f5, g5⟩
  have Q5 : isTx h5x X := isTx_f (fun b hb => f5 b (by omega)) Q
  show lm_wp _ 163 17 [.ref 123, .ref 14, .int x, .int lo, .int up] [] (h5x, hl, X) _
  refine w_N 4 22 [.ref 123, .ref 14, .int x, .int lo, .int up] [.int up, .int lo, .int x, .ref 123] rfl ?_
  refine w_cc (w_vst rfl rfl rfl (Nat.le_of_ble_eq_true rfl) (Nat.le_of_ble_eq_true rfl) (M_kd S)) (m_numF S Q5 hts hb.2.2.2.1 P5 h2) ?_
  show lm_wp _ 163 25 [.ref 123, .ref 14, .int x, .int lo, .int up] [.int 0] (lm_up h5x 123 28 (nI (tkF tl ts (tkE tl ts p))), hl, X) _
  refine w_rz rfl rfl (by decide) ?_
  exact ⟨_, rfl, rfl, lm_up_eq, fun a ha => (lm_up_rw ha).trans (f5 a ha), fun k k1 k2 k3 k4 k5 => (lm_up_nk k5).trans (g5 k k1 k2 k3 k4)⟩
theorem m_tellsT2 {d : Nat} {hi : Nat → Nat → Int32} {hl : Nat → Nat → Int64} {X : lm_X} {ts p : Nat} {tl : Nat → Int32} (S : sh_M X 123) (Q : isTx hi X) (hts : ts ≤ 250) (hp : p ≤ ts) (HP : tpM tl ts hi p) {lo up x : Int32} (h : wdq tl ts p wL2 = true) {j : Nat} (hx : x = nI j) (h4 : j < 4) (h2 : nmO tl ts (tkE tl ts p) lo up = true) : lm_w (d + 4) 163 [.ref 123, .ref 14, .int x, .int lo, .int up] (hi, hl, X) (fun v h1 => ∃ hi', v = some (.int 1) ∧ h1 = (hi', hl, X) ∧ tpM tl ts hi' (tkE tl ts (tkE tl ts p)) ∧ hi' 158 j = fgI tl ts (tkE tl ts p) ∧ (∀ i, i ≠ j → hi' 158 i = hi 158 i) ∧ (∀ a, a ≠ 123 → a ≠ 158 → hi' a = hi a) ∧ (∀ k, k ≠ 24 → k ≠ 25 → k ≠ 26 → k ≠ 27 → hi' 123 k = hi 123 k)) := by
  refine lm_w_in (Nat.le_of_ble_eq_true rfl) ?_
  show lm_wp (d + 4) 163 0 [.ref 123, .ref 14, .int x, .int lo, .int up] [] (hi, hl, X) _
  have hb := tk_b (tl := tl) hp
  refine w_N 2 2 [.ref 123, .ref 14, .int x, .int lo, .int up] [.ref 14, .ref 123] rfl ?_
  refine w_cc (w_vst rfl rfl rfl (Nat.le_of_ble_eq_true rfl) (Nat.le_of_ble_eq_true rfl) (M_kd S)) (lm_c_1 (m_isWord2 S Q hts hp HP) h) ?_
  show lm_wp _ 163 5 [.ref 123, .ref 14, .int x, .int lo, .int up] [.int 1] (hi, hl, X) _
  refine w_if_ne_t (t := 13) rfl rfl (by decide) ?_
  refine w_N 1 14 [.ref 123, .ref 14, .int x, .int lo, .int up] [.ref 123] rfl ?_
  refine w_ca (w_vst rfl rfl rfl (Nat.le_of_ble_eq_true rfl) (Nat.le_of_ble_eq_true rfl) (M_kd S)) (m_look (tl := tl) S hts HP.1 HP.2.1 hb.2.2.2.1 HP.2.2.2.1) ?_
  rintro _ _ ⟨h5x, rfl, rfl, P5, f5, g5⟩
  have Q5 : isTx h5x X := isTx_f (fun b hb => f5 b (by omega)) Q
  show lm_wp _ 163 17 [.ref 123, .ref 14, .int x, .int lo, .int up] [] (h5x, hl, X) _
  refine w_N 4 22 [.ref 123, .ref 14, .int x, .int lo, .int up] [.int up, .int lo, .int x, .ref 123] rfl ?_
  refine w_ca (w_vst rfl rfl rfl (Nat.le_of_ble_eq_true rfl) (Nat.le_of_ble_eq_true rfl) (M_kd S)) (m_numT S Q5 hts hb.2.2.2.1 P5 hx h4 h2) ?_
  rintro _ _ ⟨h6x, rfl, rfl, P6, t6, u6, f6, g6⟩
  show lm_wp _ 163 25 [.ref 123, .ref 14, .int x, .int lo, .int up] [.int 1] (h6x, hl, X) _
  refine w_rz rfl rfl (by decide) ?_
  exact ⟨_, rfl, rfl, P6, t6, fun i hi2 => (u6 i hi2).trans (by rw [f5 158 (by decide)]), fun a a1 a2 => (f6 a a1 a2).trans (f5 a a1), fun k k1 k2 k3 k4 => (g6 k k1 k2 k3 k4).trans (g5 k k1 k2 k3 k4)⟩
theorem m_tellsF3 {d : Nat} {hi : Nat → Nat → Int32} {hl : Nat → Nat → Int64} {X : lm_X} {ts p : Nat} {tl : Nat → Int32} (S : sh_M X 123) (Q : isTx hi X) (hts : ts ≤ 250) (hp : p ≤ ts) (HP : tpM tl ts hi p) {lo up x : Int32} (h : wdq tl ts p wL3 = true) (h2 : nmO tl ts (tkE tl ts p) lo up = false) : lm_w (d + 4) 163 [.ref 123, .ref 15, .int x, .int lo, .int up] (hi, hl, X) (fun v h1 => ∃ hi', v = some (.int 0) ∧ h1 = (hi', hl, X) ∧ hi' 123 28 = nI (tkF tl ts (tkE tl ts p)) ∧ (∀ a, a ≠ 123 → hi' a = hi a) ∧ (∀ k, k ≠ 24 → k ≠ 25 → k ≠ 26 → k ≠ 27 → k ≠ 28 → hi' 123 k = hi 123 k)) := by
  refine lm_w_in (Nat.le_of_ble_eq_true rfl) ?_
  show lm_wp (d + 4) 163 0 [.ref 123, .ref 15, .int x, .int lo, .int up] [] (hi, hl, X) _
  have hb := tk_b (tl := tl) hp
  refine w_N 2 2 [.ref 123, .ref 15, .int x, .int lo, .int up] [.ref 15, .ref 123] rfl ?_
  refine w_cc (w_vst rfl rfl rfl (Nat.le_of_ble_eq_true rfl) (Nat.le_of_ble_eq_true rfl) (M_kd S)) (lm_c_1 (m_isWord3 S Q hts hp HP) h) ?_
  show lm_wp _ 163 5 [.ref 123, .ref 15, .int x, .int lo, .int up] [.int 1] (hi, hl, X) _
  refine w_if_ne_t (t := 13) rfl rfl (by decide) ?_
  refine w_N 1 14 [.ref 123, .ref 15, .int x, .int lo, .int up] [.ref 123] rfl ?_
  refine w_ca (w_vst rfl rfl rfl (Nat.le_of_ble_eq_true rfl) (Nat.le_of_ble_eq_true rfl) (M_kd S)) (m_look (tl := tl) S hts HP.1 HP.2.1 hb.2.2.2.1 HP.2.2.2.1) ?_
  rintro _ _ ⟨h5x, rfl, rfl, P5, f5, g5⟩
  have Q5 : isTx h5x X := isTx_f (fun b hb => f5 b (by omega)) Q
  show lm_wp _ 163 17 [.ref 123, .ref 15, .int x, .int lo, .int up] [] (h5x, hl, X) _
  refine w_N 4 22 [.ref 123, .ref 15, .int x, .int lo, .int up] [.int up, .int lo, .int x, .ref 123] rfl ?_
  refine w_cc (w_vst rfl rfl rfl (Nat.le_of_ble_eq_true rfl) (Nat.le_of_ble_eq_true rfl) (M_kd S)) (m_numF S Q5 hts hb.2.2.2.1 P5 h2) ?_
  show lm_wp _ 163 25 [.ref 123, .ref 15, .int x, .int lo, .int up] [.int 0] (lm_up h5x 123 28 (nI (tkF tl ts (tkE tl ts p))), hl, X) _
  refine w_rz rfl rfl (by decide) ?_
  exact ⟨_, rfl, rfl, lm_up_eq, fun a ha => (lm_up_rw ha).trans (f5 a ha), fun k k1 k2 k3 k4 k5 => (lm_up_nk k5).trans (g5 k k1 k2 k3 k4)⟩
theorem m_tellsT3 {d : Nat} {hi : Nat → Nat → Int32} {hl : Nat → Nat → Int64} {X : lm_X} {ts p : Nat} {tl : Nat → Int32} (S : sh_M X 123) (Q : isTx hi X) (hts : ts ≤ 250) (hp : p ≤ ts) (HP : tpM tl ts hi p) {lo up x : Int32} (h : wdq tl ts p wL3 = true) {j : Nat} (hx : x = nI j) (h4 : j < 4) (h2 : nmO tl ts (tkE tl ts p) lo up = true) : lm_w (d + 4) 163 [.ref 123, .ref 15, .int x, .int lo, .int up] (hi, hl, X) (fun v h1 => ∃ hi', v = some (.int 1) ∧ h1 = (hi', hl, X) ∧ tpM tl ts hi' (tkE tl ts (tkE tl ts p)) ∧ hi' 158 j = fgI tl ts (tkE tl ts p) ∧ (∀ i, i ≠ j → hi' 158 i = hi 158 i) ∧ (∀ a, a ≠ 123 → a ≠ 158 → hi' a = hi a) ∧ (∀ k, k ≠ 24 → k ≠ 25 → k ≠ 26 → k ≠ 27 → hi' 123 k = hi 123 k)) := by
  refine lm_w_in (Nat.le_of_ble_eq_true rfl) ?_
  show lm_wp (d + 4) 163 0 [.ref 123, .ref 15, .int x, .int lo, .int up] [] (hi, hl, X) _
  have hb := tk_b (tl := tl) hp
  refine w_N 2 2 [.ref 123, .ref 15, .int x, .int lo, .int up] [.ref 15, .ref 123] rfl ?_
  refine w_cc (w_vst rfl rfl rfl (Nat.le_of_ble_eq_true rfl) (Nat.le_of_ble_eq_true rfl) (M_kd S)) (lm_c_1 (m_isWord3 S Q hts hp HP) h) ?_
  show lm_wp _ 163 5 [.ref 123, .ref 15, .int x, .int lo, .int up] [.int 1] (hi, hl, X) _
  refine w_if_ne_t (t := 13) rfl rfl (by decide) ?_
  refine w_N 1 14 [.ref 123, .ref 15, .int x, .int lo, .int up] [.ref 123] rfl ?_
  refine w_ca (w_vst rfl rfl rfl (Nat.le_of_ble_eq_true rfl) (Nat.le_of_ble_eq_true rfl) (M_kd S)) (m_look (tl := tl) S hts HP.1 HP.2.1 hb.2.2.2.1 HP.2.2.2.1) ?_
  rintro _ _ ⟨h5x, rfl, rfl, P5, f5, g5⟩
  have Q5 : isTx h5x X := isTx_f (fun b hb => f5 b (by omega)) Q
  show lm_wp _ 163 17 [.ref 123, .ref 15, .int x, .int lo, .int up] [] (h5x, hl, X) _
  refine w_N 4 22 [.ref 123, .ref 15, .int x, .int lo, .int up] [.int up, .int lo, .int x, .ref 123] rfl ?_
  refine w_ca (w_vst rfl rfl rfl (Nat.le_of_ble_eq_true rfl) (Nat.le_of_ble_eq_true rfl) (M_kd S)) (m_numT S Q5 hts hb.2.2.2.1 P5 hx h4 h2) ?_
  rintro _ _ ⟨h6x, rfl, rfl, P6, t6, u6, f6, g6⟩
  show lm_wp _ 163 25 [.ref 123, .ref 15, .int x, .int lo, .int up] [.int 1] (h6x, hl, X) _
  refine w_rz rfl rfl (by decide) ?_
  exact ⟨_, rfl, rfl, P6, t6, fun i hi2 => (u6 i hi2).trans (by rw [f5 158 (by decide)]), fun a a1 a2 => (f6 a a1 a2).trans (f5 a a1), fun k k1 k2 k3 k4 => (g6 k k1 k2 k3 k4).trans (g5 k k1 k2 k3 k4)⟩
theorem m_tellsF4 {d : Nat} {hi : Nat → Nat → Int32} {hl : Nat → Nat → Int64} {X : lm_X} {ts p : Nat} {tl : Nat → Int32} (S : sh_M X 123) (Q : isTx hi X) (hts : ts ≤ 250) (hp : p ≤ ts) (HP : tpM tl ts hi p) {lo up x : Int32} (h : wdq tl ts p wL4 = true) (h2 : nmO tl ts (tkE tl ts p) lo up = false) : lm_w (d + 4) 163 [.ref 123, .ref 16, .int x, .int lo, .int up] (hi, hl, X) (fun v h1 => ∃ hi', v = some (.int 0) ∧ h1 = (hi', hl, X) ∧ hi' 123 28 = nI (tkF tl ts (tkE tl ts p)) ∧ (∀ a, a ≠ 123 → hi' a = hi a) ∧ (∀ k, k ≠ 24 → k ≠ 25 → k ≠ 26 → k ≠ 27 → k ≠ 28 → hi' 123 k = hi 123 k)) := by
  refine lm_w_in (Nat.le_of_ble_eq_true rfl) ?_
  show lm_wp (d + 4) 163 0 [.ref 123, .ref 16, .int x, .int lo, .int up] [] (hi, hl, X) _
  have hb := tk_b (tl := tl) hp
  refine w_N 2 2 [.ref 123, .ref 16, .int x, .int lo, .int up] [.ref 16, .ref 123] rfl ?_
  refine w_cc (w_vst rfl rfl rfl (Nat.le_of_ble_eq_true rfl) (Nat.le_of_ble_eq_true rfl) (M_kd S)) (lm_c_1 (m_isWord4 S Q hts hp HP) h) ?_
  show lm_wp _ 163 5 [.ref 123, .ref 16, .int x, .int lo, .int up] [.int 1] (hi, hl, X) _
  refine w_if_ne_t (t := 13) rfl rfl (by decide) ?_
  refine w_N 1 14 [.ref 123, .ref 16, .int x, .int lo, .int up] [.ref 123] rfl ?_
  refine w_ca (w_vst rfl rfl rfl (Nat.le_of_ble_eq_true rfl) (Nat.le_of_ble_eq_true rfl) (M_kd S)) (m_look (tl := tl) S hts HP.1 HP.2.1 hb.2.2.2.1 HP.2.2.2.1) ?_
  rintro _ _ ⟨h5x, rfl, rfl, P5, f5, g5⟩
  have Q5 : isTx h5x X := isTx_f (fun b hb => f5 b (by omega)) Q
  show lm_wp _ 163 17 [.ref 123, .ref 16, .int x, .int lo, .int up] [] (h5x, hl, X) _
  refine w_N 4 22 [.ref 123, .ref 16, .int x, .int lo, .int up] [.int up, .int lo, .int x, .ref 123] rfl ?_
  refine w_cc (w_vst rfl rfl rfl (Nat.le_of_ble_eq_true rfl) (Nat.le_of_ble_eq_true rfl) (M_kd S)) (m_numF S Q5 hts hb.2.2.2.1 P5 h2) ?_
  show lm_wp _ 163 25 [.ref 123, .ref 16, .int x, .int lo, .int up] [.int 0] (lm_up h5x 123 28 (nI (tkF tl ts (tkE tl ts p))), hl, X) _
  refine w_rz rfl rfl (by decide) ?_
  exact ⟨_, rfl, rfl, lm_up_eq, fun a ha => (lm_up_rw ha).trans (f5 a ha), fun k k1 k2 k3 k4 k5 => (lm_up_nk k5).trans (g5 k k1 k2 k3 k4)⟩
theorem m_tellsT4 {d : Nat} {hi : Nat → Nat → Int32} {hl : Nat → Nat → Int64} {X : lm_X} {ts p : Nat} {tl : Nat → Int32} (S : sh_M X 123) (Q : isTx hi X) (hts : ts ≤ 250) (hp : p ≤ ts) (HP : tpM tl ts hi p) {lo up x : Int32} (h : wdq tl ts p wL4 = true) {j : Nat} (hx : x = nI j) (h4 : j < 4) (h2 : nmO tl ts (tkE tl ts p) lo up = true) : lm_w (d + 4) 163 [.ref 123, .ref 16, .int x, .int lo, .int up] (hi, hl, X) (fun v h1 => ∃ hi', v = some (.int 1) ∧ h1 = (hi', hl, X) ∧ tpM tl ts hi' (tkE tl ts (tkE tl ts p)) ∧ hi' 158 j = fgI tl ts (tkE tl ts p) ∧ (∀ i, i ≠ j → hi' 158 i = hi 158 i) ∧ (∀ a, a ≠ 123 → a ≠ 158 → hi' a = hi a) ∧ (∀ k, k ≠ 24 → k ≠ 25 → k ≠ 26 → k ≠ 27 → hi' 123 k = hi 123 k)) := by
  refine lm_w_in (Nat.le_of_ble_eq_true rfl) ?_
  show lm_wp (d + 4) 163 0 [.ref 123, .ref 16, .int x, .int lo, .int up] [] (hi, hl, X) _
  have hb := tk_b (tl := tl) hp
  refine w_N 2 2 [.ref 123, .ref 16, .int x, .int lo, .int up] [.ref 16, .ref 123] rfl ?_
  refine w_cc (w_vst rfl rfl rfl (Nat.le_of_ble_eq_true rfl) (Nat.le_of_ble_eq_true rfl) (M_kd S)) (lm_c_1 (m_isWord4 S Q hts hp HP) h) ?_
  show lm_wp _ 163 5 [.ref 123, .ref 16, .int x, .int lo, .int up] [.int 1] (hi, hl, X) _
  refine w_if_ne_t (t := 13) rfl rfl (by decide) ?_
  refine w_N 1 14 [.ref 123, .ref 16, .int x, .int lo, .int up] [.ref 123] rfl ?_
  refine w_ca (w_vst rfl rfl rfl (Nat.le_of_ble_eq_true rfl) (Nat.le_of_ble_eq_true rfl) (M_kd S)) (m_look (tl := tl) S hts HP.1 HP.2.1 hb.2.2.2.1 HP.2.2.2.1) ?_
  rintro _ _ ⟨h5x, rfl, rfl, P5, f5, g5⟩
  have Q5 : isTx h5x X := isTx_f (fun b hb => f5 b (by omega)) Q
  show lm_wp _ 163 17 [.ref 123, .ref 16, .int x, .int lo, .int up] [] (h5x, hl, X) _
  refine w_N 4 22 [.ref 123, .ref 16, .int x, .int lo, .int up] [.int up, .int lo, .int x, .ref 123] rfl ?_
  refine w_ca (w_vst rfl rfl rfl (Nat.le_of_ble_eq_true rfl) (Nat.le_of_ble_eq_true rfl) (M_kd S)) (m_numT S Q5 hts hb.2.2.2.1 P5 hx h4 h2) ?_
  rintro _ _ ⟨h6x, rfl, rfl, P6, t6, u6, f6, g6⟩
  show lm_wp _ 163 25 [.ref 123, .ref 16, .int x, .int lo, .int up] [.int 1] (h6x, hl, X) _
  refine w_rz rfl rfl (by decide) ?_
  exact ⟨_, rfl, rfl, P6, t6, fun i hi2 => (u6 i hi2).trans (by rw [f5 158 (by decide)]), fun a a1 a2 => (f6 a a1 a2).trans (f5 a a1), fun k k1 k2 k3 k4 => (g6 k k1 k2 k3 k4).trans (g5 k k1 k2 k3 k4)⟩
theorem m_tellsF5 {d : Nat} {hi : Nat → Nat → Int32} {hl : Nat → Nat → Int64} {X : lm_X} {ts p : Nat} {tl : Nat → Int32} (S : sh_M X 123) (Q : isTx hi X) (hts : ts ≤ 250) (hp : p ≤ ts) (HP : tpM tl ts hi p) {lo up x : Int32} (h : wdq tl ts p wL5 = true) (h2 : nmO tl ts (tkE tl ts p) lo up = false) : lm_w (d + 4) 163 [.ref 123, .ref 17, .int x, .int lo, .int up] (hi, hl, X) (fun v h1 => ∃ hi', v = some (.int 0) ∧ h1 = (hi', hl, X) ∧ hi' 123 28 = nI (tkF tl ts (tkE tl ts p)) ∧ (∀ a, a ≠ 123 → hi' a = hi a) ∧ (∀ k, k ≠ 24 → k ≠ 25 → k ≠ 26 → k ≠ 27 → k ≠ 28 → hi' 123 k = hi 123 k)) := by
  refine lm_w_in (Nat.le_of_ble_eq_true rfl) ?_
  show lm_wp (d + 4) 163 0 [.ref 123, .ref 17, .int x, .int lo, .int up] [] (hi, hl, X) _
  have hb := tk_b (tl := tl) hp
  refine w_N 2 2 [.ref 123, .ref 17, .int x, .int lo, .int up] [.ref 17, .ref 123] rfl ?_
  refine w_cc (w_vst rfl rfl rfl (Nat.le_of_ble_eq_true rfl) (Nat.le_of_ble_eq_true rfl) (M_kd S)) (lm_c_1 (m_isWord5 S Q hts hp HP) h) ?_
  show lm_wp _ 163 5 [.ref 123, .ref 17, .int x, .int lo, .int up] [.int 1] (hi, hl, X) _
  refine w_if_ne_t (t := 13) rfl rfl (by decide) ?_
  refine w_N 1 14 [.ref 123, .ref 17, .int x, .int lo, .int up] [.ref 123] rfl ?_
  refine w_ca (w_vst rfl rfl rfl (Nat.le_of_ble_eq_true rfl) (Nat.le_of_ble_eq_true rfl) (M_kd S)) (m_look (tl := tl) S hts HP.1 HP.2.1 hb.2.2.2.1 HP.2.2.2.1) ?_
  rintro _ _ ⟨h5x, rfl, rfl, P5, f5, g5⟩
  have Q5 : isTx h5x X := isTx_f (fun b hb => f5 b (by omega)) Q
  show lm_wp _ 163 17 [.ref 123, .ref 17, .int x, .int lo, .int up] [] (h5x, hl, X) _
  refine w_N 4 22 [.ref 123, .ref 17, .int x, .int lo, .int up] [.int up, .int lo, .int x, .ref 123] rfl ?_
  refine w_cc (w_vst rfl rfl rfl (Nat.le_of_ble_eq_true rfl) (Nat.le_of_ble_eq_true rfl) (M_kd S)) (m_numF S Q5 hts hb.2.2.2.1 P5 h2) ?_
  show lm_wp _ 163 25 [.ref 123, .ref 17, .int x, .int lo, .int up] [.int 0] (lm_up h5x 123 28 (nI (tkF tl ts (tkE tl ts p))), hl, X) _
  refine w_rz rfl rfl (by decide) ?_
  exact ⟨_, rfl, rfl, lm_up_eq, fun a ha => (lm_up_rw ha).trans (f5 a ha), fun k k1 k2 k3 k4 k5 => (lm_up_nk k5).trans (g5 k k1 k2 k3 k4)⟩
theorem m_tellsT5 {d : Nat} {hi : Nat → Nat → Int32} {hl : Nat → Nat → Int64} {X : lm_X} {ts p : Nat} {tl : Nat → Int32} (S : sh_M X 123) (Q : isTx hi X) (hts : ts ≤ 250) (hp : p ≤ ts) (HP : tpM tl ts hi p) {lo up x : Int32} (h : wdq tl ts p wL5 = true) {j : Nat} (hx : x = nI j) (h4 : j < 4) (h2 : nmO tl ts (tkE tl ts p) lo up = true) : lm_w (d + 4) 163 [.ref 123, .ref 17, .int x, .int lo, .int up] (hi, hl, X) (fun v h1 => ∃ hi', v = some (.int 1) ∧ h1 = (hi', hl, X) ∧ tpM tl ts hi' (tkE tl ts (tkE tl ts p)) ∧ hi' 158 j = fgI tl ts (tkE tl ts p) ∧ (∀ i, i ≠ j → hi' 158 i = hi 158 i) ∧ (∀ a, a ≠ 123 → a ≠ 158 → hi' a = hi a) ∧ (∀ k, k ≠ 24 → k ≠ 25 → k ≠ 26 → k ≠ 27 → hi' 123 k = hi 123 k)) := by
  refine lm_w_in (Nat.le_of_ble_eq_true rfl) ?_
  show lm_wp (d + 4) 163 0 [.ref 123, .ref 17, .int x, .int lo, .int up] [] (hi, hl, X) _
  have hb := tk_b (tl := tl) hp
  refine w_N 2 2 [.ref 123, .ref 17, .int x, .int lo, .int up] [.ref 17, .ref 123] rfl ?_
  refine w_cc (w_vst rfl rfl rfl (Nat.le_of_ble_eq_true rfl) (Nat.le_of_ble_eq_true rfl) (M_kd S)) (lm_c_1 (m_isWord5 S Q hts hp HP) h) ?_
  show lm_wp _ 163 5 [.ref 123, .ref 17, .int x, .int lo, .int up] [.int 1] (hi, hl, X) _
  refine w_if_ne_t (t := 13) rfl rfl (by decide) ?_
  refine w_N 1 14 [.ref 123, .ref 17, .int x, .int lo, .int up] [.ref 123] rfl ?_
  refine w_ca (w_vst rfl rfl rfl (Nat.le_of_ble_eq_true rfl) (Nat.le_of_ble_eq_true rfl) (M_kd S)) (m_look (tl := tl) S hts HP.1 HP.2.1 hb.2.2.2.1 HP.2.2.2.1) ?_
  rintro _ _ ⟨h5x, rfl, rfl, P5, f5, g5⟩
  have Q5 : isTx h5x X := isTx_f (fun b hb => f5 b (by omega)) Q
  show lm_wp _ 163 17 [.ref 123, .ref 17, .int x, .int lo, .int up] [] (h5x, hl, X) _
  refine w_N 4 22 [.ref 123, .ref 17, .int x, .int lo, .int up] [.int up, .int lo, .int x, .ref 123] rfl ?_
  refine w_ca (w_vst rfl rfl rfl (Nat.le_of_ble_eq_true rfl) (Nat.le_of_ble_eq_true rfl) (M_kd S)) (m_numT S Q5 hts hb.2.2.2.1 P5 hx h4 h2) ?_
  rintro _ _ ⟨h6x, rfl, rfl, P6, t6, u6, f6, g6⟩
  show lm_wp _ 163 25 [.ref 123, .ref 17, .int x, .int lo, .int up] [.int 1] (h6x, hl, X) _
  refine w_rz rfl rfl (by decide) ?_
  exact ⟨_, rfl, rfl, P6, t6, fun i hi2 => (u6 i hi2).trans (by rw [f5 158 (by decide)]), fun a a1 a2 => (f6 a a1 a2).trans (f5 a a1), fun k k1 k2 k3 k4 => (g6 k k1 k2 k3 k4).trans (g5 k k1 k2 k3 k4)⟩
theorem m_tellsF6 {d : Nat} {hi : Nat → Nat → Int32} {hl : Nat → Nat → Int64} {X : lm_X} {ts p : Nat} {tl : Nat → Int32} (S : sh_M X 123) (Q : isTx hi X) (hts : ts ≤ 250) (hp : p ≤ ts) (HP : tpM tl ts hi p) {lo up x : Int32} (h : wdq tl ts p wL6 = true) (h2 : nmO tl ts (tkE tl ts p) lo up = false) : lm_w (d + 4) 163 [.ref 123, .ref 18, .int x, .int lo, .int up] (hi, hl, X) (fun v h1 => ∃ hi', v = some (.int 0) ∧ h1 = (hi', hl, X) ∧ hi' 123 28 = nI (tkF tl ts (tkE tl ts p)) ∧ (∀ a, a ≠ 123 → hi' a = hi a) ∧ (∀ k, k ≠ 24 → k ≠ 25 → k ≠ 26 → k ≠ 27 → k ≠ 28 → hi' 123 k = hi 123 k)) := by
  refine lm_w_in (Nat.le_of_ble_eq_true rfl) ?_
  show lm_wp (d + 4) 163 0 [.ref 123, .ref 18, .int x, .int lo, .int up] [] (hi, hl, X) _
  have hb := tk_b (tl := tl) hp
  refine w_N 2 2 [.ref 123, .ref 18, .int x, .int lo, .int up] [.ref 18, .ref 123] rfl ?_
  refine w_cc (w_vst rfl rfl rfl (Nat.le_of_ble_eq_true rfl) (Nat.le_of_ble_eq_true rfl) (M_kd S)) (lm_c_1 (m_isWord6 S Q hts hp HP) h) ?_
  show lm_wp _ 163 5 [.ref 123, .ref 18, .int x, .int lo, .int up] [.int 1] (hi, hl, X) _
  refine w_if_ne_t (t := 13) rfl rfl (by decide) ?_
  refine w_N 1 14 [.ref 123, .ref 18, .int x, .int lo, .int up] [.ref 123] rfl ?_
  refine w_ca (w_vst rfl rfl rfl (Nat.le_of_ble_eq_true rfl) (Nat.le_of_ble_eq_true rfl) (M_kd S)) (m_look (tl := tl) S hts HP.1 HP.2.1 hb.2.2.2.1 HP.2.2.2.1) ?_
  rintro _ _ ⟨h5x, rfl, rfl, P5, f5, g5⟩
  have Q5 : isTx h5x X := isTx_f (fun b hb => f5 b (by omega)) Q
  show lm_wp _ 163 17 [.ref 123, .ref 18, .int x, .int lo, .int up] [] (h5x, hl, X) _
  refine w_N 4 22 [.ref 123, .ref 18, .int x, .int lo, .int up] [.int up, .int lo, .int x, .ref 123] rfl ?_
  refine w_cc (w_vst rfl rfl rfl (Nat.le_of_ble_eq_true rfl) (Nat.le_of_ble_eq_true rfl) (M_kd S)) (m_numF S Q5 hts hb.2.2.2.1 P5 h2) ?_
  show lm_wp _ 163 25 [.ref 123, .ref 18, .int x, .int lo, .int up] [.int 0] (lm_up h5x 123 28 (nI (tkF tl ts (tkE tl ts p))), hl, X) _
  refine w_rz rfl rfl (by decide) ?_
  exact ⟨_, rfl, rfl, lm_up_eq, fun a ha => (lm_up_rw ha).trans (f5 a ha), fun k k1 k2 k3 k4 k5 => (lm_up_nk k5).trans (g5 k k1 k2 k3 k4)⟩
theorem m_tellsT6 {d : Nat} {hi : Nat → Nat → Int32} {hl : Nat → Nat → Int64} {X : lm_X} {ts p : Nat} {tl : Nat → Int32} (S : sh_M X 123) (Q : isTx hi X) (hts : ts ≤ 250) (hp : p ≤ ts) (HP : tpM tl ts hi p) {lo up x : Int32} (h : wdq tl ts p wL6 = true) {j : Nat} (hx : x = nI j) (h4 : j < 4) (h2 : nmO tl ts (tkE tl ts p) lo up = true) : lm_w (d + 4) 163 [.ref 123, .ref 18, .int x, .int lo, .int up] (hi, hl, X) (fun v h1 => ∃ hi', v = some (.int 1) ∧ h1 = (hi', hl, X) ∧ tpM tl ts hi' (tkE tl ts (tkE tl ts p)) ∧ hi' 158 j = fgI tl ts (tkE tl ts p) ∧ (∀ i, i ≠ j → hi' 158 i = hi 158 i) ∧ (∀ a, a ≠ 123 → a ≠ 158 → hi' a = hi a) ∧ (∀ k, k ≠ 24 → k ≠ 25 → k ≠ 26 → k ≠ 27 → hi' 123 k = hi 123 k)) := by
  refine lm_w_in (Nat.le_of_ble_eq_true rfl) ?_
  show lm_wp (d + 4) 163 0 [.ref 123, .ref 18, .int x, .int lo, .int up] [] (hi, hl, X) _
  have hb := tk_b (tl := tl) hp
  refine w_N 2 2 [.ref 123, .ref 18, .int x, .int lo, .int up] [.ref 18, .ref 123] rfl ?_
  refine w_cc (w_vst rfl rfl rfl (Nat.le_of_ble_eq_true rfl) (Nat.le_of_ble_eq_true rfl) (M_kd S)) (lm_c_1 (m_isWord6 S Q hts hp HP) h) ?_
  show lm_wp _ 163 5 [.ref 123, .ref 18, .int x, .int lo, .int up] [.int 1] (hi, hl, X) _
  refine w_if_ne_t (t := 13) rfl rfl (by decide) ?_
  refine w_N 1 14 [.ref 123, .ref 18, .int x, .int lo, .int up] [.ref 123] rfl ?_
  refine w_ca (w_vst rfl rfl rfl (Nat.le_of_ble_eq_true rfl) (Nat.le_of_ble_eq_true rfl) (M_kd S)) (m_look (tl := tl) S hts HP.1 HP.2.1 hb.2.2.2.1 HP.2.2.2.1) ?_
  rintro _ _ ⟨h5x, rfl, rfl, P5, f5, g5⟩
  have Q5 : isTx h5x X := isTx_f (fun b hb => f5 b (by omega)) Q
  show lm_wp _ 163 17 [.ref 123, .ref 18, .int x, .int lo, .int up] [] (h5x, hl, X) _
  refine w_N 4 22 [.ref 123, .ref 18, .int x, .int lo, .int up] [.int up, .int lo, .int x, .ref 123] rfl ?_
  refine w_ca (w_vst rfl rfl rfl (Nat.le_of_ble_eq_true rfl) (Nat.le_of_ble_eq_true rfl) (M_kd S)) (m_numT S Q5 hts hb.2.2.2.1 P5 hx h4 h2) ?_
  rintro _ _ ⟨h6x, rfl, rfl, P6, t6, u6, f6, g6⟩
  show lm_wp _ 163 25 [.ref 123, .ref 18, .int x, .int lo, .int up] [.int 1] (h6x, hl, X) _
  refine w_rz rfl rfl (by decide) ?_
  exact ⟨_, rfl, rfl, P6, t6, fun i hi2 => (u6 i hi2).trans (by rw [f5 158 (by decide)]), fun a a1 a2 => (f6 a a1 a2).trans (f5 a a1), fun k k1 k2 k3 k4 => (g6 k k1 k2 k3 k4).trans (g5 k k1 k2 k3 k4)⟩
theorem m_tellsF7 {d : Nat} {hi : Nat → Nat → Int32} {hl : Nat → Nat → Int64} {X : lm_X} {ts p : Nat} {tl : Nat → Int32} (S : sh_M X 123) (Q : isTx hi X) (hts : ts ≤ 250) (hp : p ≤ ts) (HP : tpM tl ts hi p) {lo up x : Int32} (h : wdq tl ts p wL7 = true) (h2 : nmO tl ts (tkE tl ts p) lo up = false) : lm_w (d + 4) 163 [.ref 123, .ref 19, .int x, .int lo, .int up] (hi, hl, X) (fun v h1 => ∃ hi', v = some (.int 0) ∧ h1 = (hi', hl, X) ∧ hi' 123 28 = nI (tkF tl ts (tkE tl ts p)) ∧ (∀ a, a ≠ 123 → hi' a = hi a) ∧ (∀ k, k ≠ 24 → k ≠ 25 → k ≠ 26 → k ≠ 27 → k ≠ 28 → hi' 123 k = hi 123 k)) := by
  refine lm_w_in (Nat.le_of_ble_eq_true rfl) ?_
  show lm_wp (d + 4) 163 0 [.ref 123, .ref 19, .int x, .int lo, .int up] [] (hi, hl, X) _
  have hb := tk_b (tl := tl) hp
  refine w_N 2 2 [.ref 123, .ref 19, .int x, .int lo, .int up] [.ref 19, .ref 123] rfl ?_
  refine w_cc (w_vst rfl rfl rfl (Nat.le_of_ble_eq_true rfl) (Nat.le_of_ble_eq_true rfl) (M_kd S)) (lm_c_1 (m_isWord7 S Q hts hp HP) h) ?_
  show lm_wp _ 163 5 [.ref 123, .ref 19, .int x, .int lo, .int up] [.int 1] (hi, hl, X) _
  refine w_if_ne_t (t := 13) rfl rfl (by decide) ?_
  refine w_N 1 14 [.ref 123, .ref 19, .int x, .int lo, .int up] [.ref 123] rfl ?_
  refine w_ca (w_vst rfl rfl rfl (Nat.le_of_ble_eq_true rfl) (Nat.le_of_ble_eq_true rfl) (M_kd S)) (m_look (tl := tl) S hts HP.1 HP.2.1 hb.2.2.2.1 HP.2.2.2.1) ?_
  rintro _ _ ⟨h5x, rfl, rfl, P5, f5, g5⟩
  have Q5 : isTx h5x X := isTx_f (fun b hb => f5 b (by omega)) Q
  show lm_wp _ 163 17 [.ref 123, .ref 19, .int x, .int lo, .int up] [] (h5x, hl, X) _
  refine w_N 4 22 [.ref 123, .ref 19, .int x, .int lo, .int up] [.int up, .int lo, .int x, .ref 123] rfl ?_
  refine w_cc (w_vst rfl rfl rfl (Nat.le_of_ble_eq_true rfl) (Nat.le_of_ble_eq_true rfl) (M_kd S)) (m_numF S Q5 hts hb.2.2.2.1 P5 h2) ?_
  show lm_wp _ 163 25 [.ref 123, .ref 19, .int x, .int lo, .int up] [.int 0] (lm_up h5x 123 28 (nI (tkF tl ts (tkE tl ts p))), hl, X) _
  refine w_rz rfl rfl (by decide) ?_
  exact ⟨_, rfl, rfl, lm_up_eq, fun a ha => (lm_up_rw ha).trans (f5 a ha), fun k k1 k2 k3 k4 k5 => (lm_up_nk k5).trans (g5 k k1 k2 k3 k4)⟩
theorem m_tellsT7 {d : Nat} {hi : Nat → Nat → Int32} {hl : Nat → Nat → Int64} {X : lm_X} {ts p : Nat} {tl : Nat → Int32} (S : sh_M X 123) (Q : isTx hi X) (hts : ts ≤ 250) (hp : p ≤ ts) (HP : tpM tl ts hi p) {lo up x : Int32} (h : wdq tl ts p wL7 = true) {j : Nat} (hx : x = nI j) (h4 : j < 4) (h2 : nmO tl ts (tkE tl ts p) lo up = true) : lm_w (d + 4) 163 [.ref 123, .ref 19, .int x, .int lo, .int up] (hi, hl, X) (fun v h1 => ∃ hi', v = some (.int 1) ∧ h1 = (hi', hl, X) ∧ tpM tl ts hi' (tkE tl ts (tkE tl ts p)) ∧ hi' 158 j = fgI tl ts (tkE tl ts p) ∧ (∀ i, i ≠ j → hi' 158 i = hi 158 i) ∧ (∀ a, a ≠ 123 → a ≠ 158 → hi' a = hi a) ∧ (∀ k, k ≠ 24 → k ≠ 25 → k ≠ 26 → k ≠ 27 → hi' 123 k = hi 123 k)) := by
  refine lm_w_in (Nat.le_of_ble_eq_true rfl) ?_
  show lm_wp (d + 4) 163 0 [.ref 123, .ref 19, .int x, .int lo, .int up] [] (hi, hl, X) _
  have hb := tk_b (tl := tl) hp
  refine w_N 2 2 [.ref 123, .ref 19, .int x, .int lo, .int up] [.ref 19, .ref 123] rfl ?_
  refine w_cc (w_vst rfl rfl rfl (Nat.le_of_ble_eq_true rfl) (Nat.le_of_ble_eq_true rfl) (M_kd S)) (lm_c_1 (m_isWord7 S Q hts hp HP) h) ?_
  show lm_wp _ 163 5 [.ref 123, .ref 19, .int x, .int lo, .int up] [.int 1] (hi, hl, X) _
  refine w_if_ne_t (t := 13) rfl rfl (by decide) ?_
  refine w_N 1 14 [.ref 123, .ref 19, .int x, .int lo, .int up] [.ref 123] rfl ?_
  refine w_ca (w_vst rfl rfl rfl (Nat.le_of_ble_eq_true rfl) (Nat.le_of_ble_eq_true rfl) (M_kd S)) (m_look (tl := tl) S hts HP.1 HP.2.1 hb.2.2.2.1 HP.2.2.2.1) ?_
  rintro _ _ ⟨h5x, rfl, rfl, P5, f5, g5⟩
  have Q5 : isTx h5x X := isTx_f (fun b hb => f5 b (by omega)) Q
  show lm_wp _ 163 17 [.ref 123, .ref 19, .int x, .int lo, .int up] [] (h5x, hl, X) _
  refine w_N 4 22 [.ref 123, .ref 19, .int x, .int lo, .int up] [.int up, .int lo, .int x, .ref 123] rfl ?_
  refine w_ca (w_vst rfl rfl rfl (Nat.le_of_ble_eq_true rfl) (Nat.le_of_ble_eq_true rfl) (M_kd S)) (m_numT S Q5 hts hb.2.2.2.1 P5 hx h4 h2) ?_
  rintro _ _ ⟨h6x, rfl, rfl, P6, t6, u6, f6, g6⟩
  show lm_wp _ 163 25 [.ref 123, .ref 19, .int x, .int lo, .int up] [.int 1] (h6x, hl, X) _
  refine w_rz rfl rfl (by decide) ?_
  exact ⟨_, rfl, rfl, P6, t6, fun i hi2 => (u6 i hi2).trans (by rw [f5 158 (by decide)]), fun a a1 a2 => (f6 a a1 a2).trans (f5 a a1), fun k k1 k2 k3 k4 => (g6 k k1 k2 k3 k4).trans (g5 k k1 k2 k3 k4)⟩
theorem m_tellsF8 {d : Nat} {hi : Nat → Nat → Int32} {hl : Nat → Nat → Int64} {X : lm_X} {ts p : Nat} {tl : Nat → Int32} (S : sh_M X 123) (Q : isTx hi X) (hts : ts ≤ 250) (hp : p ≤ ts) (HP : tpM tl ts hi p) {lo up x : Int32} (h : wdq tl ts p wL8 = true) (h2 : nmO tl ts (tkE tl ts p) lo up = false) : lm_w (d + 4) 163 [.ref 123, .ref 20, .int x, .int lo, .int up] (hi, hl, X) (fun v h1 => ∃ hi', v = some (.int 0) ∧ h1 = (hi', hl, X) ∧ hi' 123 28 = nI (tkF tl ts (tkE tl ts p)) ∧ (∀ a, a ≠ 123 → hi' a = hi a) ∧ (∀ k, k ≠ 24 → k ≠ 25 → k ≠ 26 → k ≠ 27 → k ≠ 28 → hi' 123 k = hi 123 k)) := by
  refine lm_w_in (Nat.le_of_ble_eq_true rfl) ?_
  show lm_wp (d + 4) 163 0 [.ref 123, .ref 20, .int x, .int lo, .int up] [] (hi, hl, X) _
  have hb := tk_b (tl := tl) hp
  refine w_N 2 2 [.ref 123, .ref 20, .int x, .int lo, .int up] [.ref 20, .ref 123] rfl ?_
  refine w_cc (w_vst rfl rfl rfl (Nat.le_of_ble_eq_true rfl) (Nat.le_of_ble_eq_true rfl) (M_kd S)) (lm_c_1 (m_isWord8 S Q hts hp HP) h) ?_
  show lm_wp _ 163 5 [.ref 123, .ref 20, .int x, .int lo, .int up] [.int 1] (hi, hl, X) _
  refine w_if_ne_t (t := 13) rfl rfl (by decide) ?_
  refine w_N 1 14 [.ref 123, .ref 20, .int x, .int lo, .int up] [.ref 123] rfl ?_
  refine w_ca (w_vst rfl rfl rfl (Nat.le_of_ble_eq_true rfl) (Nat.le_of_ble_eq_true rfl) (M_kd S)) (m_look (tl := tl) S hts HP.1 HP.2.1 hb.2.2.2.1 HP.2.2.2.1) ?_
  rintro _ _ ⟨h5x, rfl, rfl, P5, f5, g5⟩
  have Q5 : isTx h5x X := isTx_f (fun b hb => f5 b (by omega)) Q
  show lm_wp _ 163 17 [.ref 123, .ref 20, .int x, .int lo, .int up] [] (h5x, hl, X) _
  refine w_N 4 22 [.ref 123, .ref 20, .int x, .int lo, .int up] [.int up, .int lo, .int x, .ref 123] rfl ?_
  refine w_cc (w_vst rfl rfl rfl (Nat.le_of_ble_eq_true rfl) (Nat.le_of_ble_eq_true rfl) (M_kd S)) (m_numF S Q5 hts hb.2.2.2.1 P5 h2) ?_
  show lm_wp _ 163 25 [.ref 123, .ref 20, .int x, .int lo, .int up] [.int 0] (lm_up h5x 123 28 (nI (tkF tl ts (tkE tl ts p))), hl, X) _
  refine w_rz rfl rfl (by decide) ?_
  exact ⟨_, rfl, rfl, lm_up_eq, fun a ha => (lm_up_rw ha).trans (f5 a ha), fun k k1 k2 k3 k4 k5 => (lm_up_nk k5).trans (g5 k k1 k2 k3 k4)⟩
theorem m_tellsT8 {d : Nat} {hi : Nat → Nat → Int32} {hl : Nat → Nat → Int64} {X : lm_X} {ts p : Nat} {tl : Nat → Int32} (S : sh_M X 123) (Q : isTx hi X) (hts : ts ≤ 250) (hp : p ≤ ts) (HP : tpM tl ts hi p) {lo up x : Int32} (h : wdq tl ts p wL8 = true) {j : Nat} (hx : x = nI j) (h4 : j < 4) (h2 : nmO tl ts (tkE tl ts p) lo up = true) : lm_w (d + 4) 163 [.ref 123, .ref 20, .int x, .int lo, .int up] (hi, hl, X) (fun v h1 => ∃ hi', v = some (.int 1) ∧ h1 = (hi', hl, X) ∧ tpM tl ts hi' (tkE tl ts (tkE tl ts p)) ∧ hi' 158 j = fgI tl ts (tkE tl ts p) ∧ (∀ i, i ≠ j → hi' 158 i = hi 158 i) ∧ (∀ a, a ≠ 123 → a ≠ 158 → hi' a = hi a) ∧ (∀ k, k ≠ 24 → k ≠ 25 → k ≠ 26 → k ≠ 27 → hi' 123 k = hi 123 k)) := by
  refine lm_w_in (Nat.le_of_ble_eq_true rfl) ?_
  show lm_wp (d + 4) 163 0 [.ref 123, .ref 20, .int x, .int lo, .int up] [] (hi, hl, X) _
  have hb := tk_b (tl := tl) hp
  refine w_N 2 2 [.ref 123, .ref 20, .int x, .int lo, .int up] [.ref 20, .ref 123] rfl ?_
  refine w_cc (w_vst rfl rfl rfl (Nat.le_of_ble_eq_true rfl) (Nat.le_of_ble_eq_true rfl) (M_kd S)) (lm_c_1 (m_isWord8 S Q hts hp HP) h) ?_
  show lm_wp _ 163 5 [.ref 123, .ref 20, .int x, .int lo, .int up] [.int 1] (hi, hl, X) _
  refine w_if_ne_t (t := 13) rfl rfl (by decide) ?_
  refine w_N 1 14 [.ref 123, .ref 20, .int x, .int lo, .int up] [.ref 123] rfl ?_
  refine w_ca (w_vst rfl rfl rfl (Nat.le_of_ble_eq_true rfl) (Nat.le_of_ble_eq_true rfl) (M_kd S)) (m_look (tl := tl) S hts HP.1 HP.2.1 hb.2.2.2.1 HP.2.2.2.1) ?_
  rintro _ _ ⟨h5x, rfl, rfl, P5, f5, g5⟩
  have Q5 : isTx h5x X := isTx_f (fun b hb => f5 b (by omega)) Q
  show lm_wp _ 163 17 [.ref 123, .ref 20, .int x, .int lo, .int up] [] (h5x, hl, X) _
  refine w_N 4 22 [.ref 123, .ref 20, .int x, .int lo, .int up] [.int up, .int lo, .int x, .ref 123] rfl ?_
  refine w_ca (w_vst rfl rfl rfl (Nat.le_of_ble_eq_true rfl) (Nat.le_of_ble_eq_true rfl) (M_kd S)) (m_numT S Q5 hts hb.2.2.2.1 P5 hx h4 h2) ?_
  rintro _ _ ⟨h6x, rfl, rfl, P6, t6, u6, f6, g6⟩
  show lm_wp _ 163 25 [.ref 123, .ref 20, .int x, .int lo, .int up] [.int 1] (h6x, hl, X) _
  refine w_rz rfl rfl (by decide) ?_
  exact ⟨_, rfl, rfl, P6, t6, fun i hi2 => (u6 i hi2).trans (by rw [f5 158 (by decide)]), fun a a1 a2 => (f6 a a1 a2).trans (f5 a a1), fun k k1 k2 k3 k4 => (g6 k k1 k2 k3 k4).trans (g5 k k1 k2 k3 k4)⟩
theorem m_tellsF9 {d : Nat} {hi : Nat → Nat → Int32} {hl : Nat → Nat → Int64} {X : lm_X} {ts p : Nat} {tl : Nat → Int32} (S : sh_M X 123) (Q : isTx hi X) (hts : ts ≤ 250) (hp : p ≤ ts) (HP : tpM tl ts hi p) {lo up x : Int32} (h : wdq tl ts p wL9 = true) (h2 : nmO tl ts (tkE tl ts p) lo up = false) : lm_w (d + 4) 163 [.ref 123, .ref 21, .int x, .int lo, .int up] (hi, hl, X) (fun v h1 => ∃ hi', v = some (.int 0) ∧ h1 = (hi', hl, X) ∧ hi' 123 28 = nI (tkF tl ts (tkE tl ts p)) ∧ (∀ a, a ≠ 123 → hi' a = hi a) ∧ (∀ k, k ≠ 24 → k ≠ 25 → k ≠ 26 → k ≠ 27 → k ≠ 28 → hi' 123 k = hi 123 k)) := by
  refine lm_w_in (Nat.le_of_ble_eq_true rfl) ?_
  show lm_wp (d + 4) 163 0 [.ref 123, .ref 21, .int x, .int lo, .int up] [] (hi, hl, X) _
  have hb := tk_b (tl := tl) hp
  refine w_N 2 2 [.ref 123, .ref 21, .int x, .int lo, .int up] [.ref 21, .ref 123] rfl ?_
  refine w_cc (w_vst rfl rfl rfl (Nat.le_of_ble_eq_true rfl) (Nat.le_of_ble_eq_true rfl) (M_kd S)) (lm_c_1 (m_isWord9 S Q hts hp HP) h) ?_
  show lm_wp _ 163 5 [.ref 123, .ref 21, .int x, .int lo, .int up] [.int 1] (hi, hl, X) _
  refine w_if_ne_t (t := 13) rfl rfl (by decide) ?_
  refine w_N 1 14 [.ref 123, .ref 21, .int x, .int lo, .int up] [.ref 123] rfl ?_
  refine w_ca (w_vst rfl rfl rfl (Nat.le_of_ble_eq_true rfl) (Nat.le_of_ble_eq_true rfl) (M_kd S)) (m_look (tl := tl) S hts HP.1 HP.2.1 hb.2.2.2.1 HP.2.2.2.1) ?_
  rintro _ _ ⟨h5x, rfl, rfl, P5, f5, g5⟩
  have Q5 : isTx h5x X := isTx_f (fun b hb => f5 b (by omega)) Q
  show lm_wp _ 163 17 [.ref 123, .ref 21, .int x, .int lo, .int up] [] (h5x, hl, X) _
  refine w_N 4 22 [.ref 123, .ref 21, .int x, .int lo, .int up] [.int up, .int lo, .int x, .ref 123] rfl ?_
  refine w_cc (w_vst rfl rfl rfl (Nat.le_of_ble_eq_true rfl) (Nat.le_of_ble_eq_true rfl) (M_kd S)) (m_numF S Q5 hts hb.2.2.2.1 P5 h2) ?_
  show lm_wp _ 163 25 [.ref 123, .ref 21, .int x, .int lo, .int up] [.int 0] (lm_up h5x 123 28 (nI (tkF tl ts (tkE tl ts p))), hl, X) _
  refine w_rz rfl rfl (by decide) ?_
  exact ⟨_, rfl, rfl, lm_up_eq, fun a ha => (lm_up_rw ha).trans (f5 a ha), fun k k1 k2 k3 k4 k5 => (lm_up_nk k5).trans (g5 k k1 k2 k3 k4)⟩
theorem m_tellsT9 {d : Nat} {hi : Nat → Nat → Int32} {hl : Nat → Nat → Int64} {X : lm_X} {ts p : Nat} {tl : Nat → Int32} (S : sh_M X 123) (Q : isTx hi X) (hts : ts ≤ 250) (hp : p ≤ ts) (HP : tpM tl ts hi p) {lo up x : Int32} (h : wdq tl ts p wL9 = true) {j : Nat} (hx : x = nI j) (h4 : j < 4) (h2 : nmO tl ts (tkE tl ts p) lo up = true) : lm_w (d + 4) 163 [.ref 123, .ref 21, .int x, .int lo, .int up] (hi, hl, X) (fun v h1 => ∃ hi', v = some (.int 1) ∧ h1 = (hi', hl, X) ∧ tpM tl ts hi' (tkE tl ts (tkE tl ts p)) ∧ hi' 158 j = fgI tl ts (tkE tl ts p) ∧ (∀ i, i ≠ j → hi' 158 i = hi 158 i) ∧ (∀ a, a ≠ 123 → a ≠ 158 → hi' a = hi a) ∧ (∀ k, k ≠ 24 → k ≠ 25 → k ≠ 26 → k ≠ 27 → hi' 123 k = hi 123 k)) := by
  refine lm_w_in (Nat.le_of_ble_eq_true rfl) ?_
  show lm_wp (d + 4) 163 0 [.ref 123, .ref 21, .int x, .int lo, .int up] [] (hi, hl, X) _
  have hb := tk_b (tl := tl) hp
  refine w_N 2 2 [.ref 123, .ref 21, .int x, .int lo, .int up] [.ref 21, .ref 123] rfl ?_
  refine w_cc (w_vst rfl rfl rfl (Nat.le_of_ble_eq_true rfl) (Nat.le_of_ble_eq_true rfl) (M_kd S)) (lm_c_1 (m_isWord9 S Q hts hp HP) h) ?_
  show lm_wp _ 163 5 [.ref 123, .ref 21, .int x, .int lo, .int up] [.int 1] (hi, hl, X) _
  refine w_if_ne_t (t := 13) rfl rfl (by decide) ?_
  refine w_N 1 14 [.ref 123, .ref 21, .int x, .int lo, .int up] [.ref 123] rfl ?_
  refine w_ca (w_vst rfl rfl rfl (Nat.le_of_ble_eq_true rfl) (Nat.le_of_ble_eq_true rfl) (M_kd S)) (m_look (tl := tl) S hts HP.1 HP.2.1 hb.2.2.2.1 HP.2.2.2.1) ?_
  rintro _ _ ⟨h5x, rfl, rfl, P5, f5, g5⟩
  have Q5 : isTx h5x X := isTx_f (fun b hb => f5 b (by omega)) Q
  show lm_wp _ 163 17 [.ref 123, .ref 21, .int x, .int lo, .int up] [] (h5x, hl, X) _
  refine w_N 4 22 [.ref 123, .ref 21, .int x, .int lo, .int up] [.int up, .int lo, .int x, .ref 123] rfl ?_
  refine w_ca (w_vst rfl rfl rfl (Nat.le_of_ble_eq_true rfl) (Nat.le_of_ble_eq_true rfl) (M_kd S)) (m_numT S Q5 hts hb.2.2.2.1 P5 hx h4 h2) ?_
  rintro _ _ ⟨h6x, rfl, rfl, P6, t6, u6, f6, g6⟩
  show lm_wp _ 163 25 [.ref 123, .ref 21, .int x, .int lo, .int up] [.int 1] (h6x, hl, X) _
  refine w_rz rfl rfl (by decide) ?_
  exact ⟨_, rfl, rfl, P6, t6, fun i hi2 => (u6 i hi2).trans (by rw [f5 158 (by decide)]), fun a a1 a2 => (f6 a a1 a2).trans (f5 a a1), fun k k1 k2 k3 k4 => (g6 k k1 k2 k3 k4).trans (g5 k k1 k2 k3 k4)⟩
theorem m_tellsN {d : Nat} {hi : Nat → Nat → Int32} {hl : Nat → Nat → Int64} {X : lm_X} {ts p : Nat} {tl : Nat → Int32} (S : sh_M X 123) (Q : isTx hi X) (hts : ts ≤ 250) (hp : p ≤ ts) (HP : tpM tl ts hi p) {lo up x : Int32} (h : wdq tl ts p wL10 = false) : lm_c (d + 4) 163 [.ref 123, .ref 22, .int x, .int lo, .int up] (hi, hl, X) (some (.int 0), (lm_up hi 123 28 (nI (tkF tl ts p)), hl, X)) := by
  refine lm_c_of (lm_w_in (Nat.le_of_ble_eq_true rfl) ?_)
  show lm_wp (d + 4) 163 0 [.ref 123, .ref 22, .int x, .int lo, .int up] [] (hi, hl, X) _
  refine w_N 2 2 [.ref 123, .ref 22, .int x, .int lo, .int up] [.ref 22, .ref 123] rfl ?_
  refine w_cc (w_vst rfl rfl rfl (Nat.le_of_ble_eq_true rfl) (Nat.le_of_ble_eq_true rfl) (M_kd S)) (m_isWord10 S Q hts hp HP) ?_
  show lm_wp _ 163 5 [.ref 123, .ref 22, .int x, .int lo, .int up] [.int (bz (wdq tl ts p wL10))] (hi, hl, X) _
  refine w_if_ne_f (t := 13) rfl rfl (c_eqz h) ?_
  refine w_N 1 9 [.ref 123, .ref 22, .int x, .int lo, .int up] [.ref 123] rfl ?_
  refine w_cc (w_vst rfl rfl rfl (Nat.le_of_ble_eq_true rfl) (Nat.le_of_ble_eq_true rfl) (M_kd S)) (m_wrong S Q hts hp HP) ?_
  show lm_wp _ 163 12 [.ref 123, .ref 22, .int x, .int lo, .int up] [.int 0] ((lm_up hi 123 28 (nI (tkF tl ts p))), hl, X) _
  refine w_rz rfl rfl (by decide) ?_
  rfl
theorem m_tellsF10 {d : Nat} {hi : Nat → Nat → Int32} {hl : Nat → Nat → Int64} {X : lm_X} {ts p : Nat} {tl : Nat → Int32} (S : sh_M X 123) (Q : isTx hi X) (hts : ts ≤ 250) (hp : p ≤ ts) (HP : tpM tl ts hi p) {lo up x : Int32} (h : wdq tl ts p wL10 = true) (h2 : nmO tl ts (tkE tl ts p) lo up = false) : lm_w (d + 4) 163 [.ref 123, .ref 22, .int x, .int lo, .int up] (hi, hl, X) (fun v h1 => ∃ hi', v = some (.int 0) ∧ h1 = (hi', hl, X) ∧ hi' 123 28 = nI (tkF tl ts (tkE tl ts p)) ∧ (∀ a, a ≠ 123 → hi' a = hi a) ∧ (∀ k, k ≠ 24 → k ≠ 25 → k ≠ 26 → k ≠ 27 → k ≠ 28 → hi' 123 k = hi 123 k)) := by
  refine lm_w_in (Nat.le_of_ble_eq_true rfl) ?_
  show lm_wp (d + 4) 163 0 [.ref 123, .ref 22, .int x, .int lo, .int up] [] (hi, hl, X) _
  have hb := tk_b (tl := tl) hp
  refine w_N 2 2 [.ref 123, .ref 22, .int x, .int lo, .int up] [.ref 22, .ref 123] rfl ?_
  refine w_cc (w_vst rfl rfl rfl (Nat.le_of_ble_eq_true rfl) (Nat.le_of_ble_eq_true rfl) (M_kd S)) (lm_c_1 (m_isWord10 S Q hts hp HP) h) ?_
  show lm_wp _ 163 5 [.ref 123, .ref 22, .int x, .int lo, .int up] [.int 1] (hi, hl, X) _
  refine w_if_ne_t (t := 13) rfl rfl (by decide) ?_
  refine w_N 1 14 [.ref 123, .ref 22, .int x, .int lo, .int up] [.ref 123] rfl ?_
  refine w_ca (w_vst rfl rfl rfl (Nat.le_of_ble_eq_true rfl) (Nat.le_of_ble_eq_true rfl) (M_kd S)) (m_look (tl := tl) S hts HP.1 HP.2.1 hb.2.2.2.1 HP.2.2.2.1) ?_
  rintro _ _ ⟨h5x, rfl, rfl, P5, f5, g5⟩
  have Q5 : isTx h5x X := isTx_f (fun b hb => f5 b (by omega)) Q
  show lm_wp _ 163 17 [.ref 123, .ref 22, .int x, .int lo, .int up] [] (h5x, hl, X) _
  refine w_N 4 22 [.ref 123, .ref 22, .int x, .int lo, .int up] [.int up, .int lo, .int x, .ref 123] rfl ?_
  refine w_cc (w_vst rfl rfl rfl (Nat.le_of_ble_eq_true rfl) (Nat.le_of_ble_eq_true rfl) (M_kd S)) (m_numF S Q5 hts hb.2.2.2.1 P5 h2) ?_
  show lm_wp _ 163 25 [.ref 123, .ref 22, .int x, .int lo, .int up] [.int 0] (lm_up h5x 123 28 (nI (tkF tl ts (tkE tl ts p))), hl, X) _
  refine w_rz rfl rfl (by decide) ?_
  exact ⟨_, rfl, rfl, lm_up_eq, fun a ha => (lm_up_rw ha).trans (f5 a ha), fun k k1 k2 k3 k4 k5 => (lm_up_nk k5).trans (g5 k k1 k2 k3 k4)⟩
theorem m_tellsT10 {d : Nat} {hi : Nat → Nat → Int32} {hl : Nat → Nat → Int64} {X : lm_X} {ts p : Nat} {tl : Nat → Int32} (S : sh_M X 123) (Q : isTx hi X) (hts : ts ≤ 250) (hp : p ≤ ts) (HP : tpM tl ts hi p) {lo up x : Int32} (h : wdq tl ts p wL10 = true) {j : Nat} (hx : x = nI j) (h4 : j < 4) (h2 : nmO tl ts (tkE tl ts p) lo up = true) : lm_w (d + 4) 163 [.ref 123, .ref 22, .int x, .int lo, .int up] (hi, hl, X) (fun v h1 => ∃ hi', v = some (.int 1) ∧ h1 = (hi', hl, X) ∧ tpM tl ts hi' (tkE tl ts (tkE tl ts p)) ∧ hi' 158 j = fgI tl ts (tkE tl ts p) ∧ (∀ i, i ≠ j → hi' 158 i = hi 158 i) ∧ (∀ a, a ≠ 123 → a ≠ 158 → hi' a = hi a) ∧ (∀ k, k ≠ 24 → k ≠ 25 → k ≠ 26 → k ≠ 27 → hi' 123 k = hi 123 k)) := by
  refine lm_w_in (Nat.le_of_ble_eq_true rfl) ?_
  show lm_wp (d + 4) 163 0 [.ref 123, .ref 22, .int x, .int lo, .int up] [] (hi, hl, X) _
  have hb := tk_b (tl := tl) hp
  refine w_N 2 2 [.ref 123, .ref 22, .int x, .int lo, .int up] [.ref 22, .ref 123] rfl ?_
  refine w_cc (w_vst rfl rfl rfl (Nat.le_of_ble_eq_true rfl) (Nat.le_of_ble_eq_true rfl) (M_kd S)) (lm_c_1 (m_isWord10 S Q hts hp HP) h) ?_
  show lm_wp _ 163 5 [.ref 123, .ref 22, .int x, .int lo, .int up] [.int 1] (hi, hl, X) _
  refine w_if_ne_t (t := 13) rfl rfl (by decide) ?_
  refine w_N 1 14 [.ref 123, .ref 22, .int x, .int lo, .int up] [.ref 123] rfl ?_
  refine w_ca (w_vst rfl rfl rfl (Nat.le_of_ble_eq_true rfl) (Nat.le_of_ble_eq_true rfl) (M_kd S)) (m_look (tl := tl) S hts HP.1 HP.2.1 hb.2.2.2.1 HP.2.2.2.1) ?_
  rintro _ _ ⟨h5x, rfl, rfl, P5, f5, g5⟩
  have Q5 : isTx h5x X := isTx_f (fun b hb => f5 b (by omega)) Q
  show lm_wp _ 163 17 [.ref 123, .ref 22, .int x, .int lo, .int up] [] (h5x, hl, X) _
  refine w_N 4 22 [.ref 123, .ref 22, .int x, .int lo, .int up] [.int up, .int lo, .int x, .ref 123] rfl ?_
  refine w_ca (w_vst rfl rfl rfl (Nat.le_of_ble_eq_true rfl) (Nat.le_of_ble_eq_true rfl) (M_kd S)) (m_numT S Q5 hts hb.2.2.2.1 P5 hx h4 h2) ?_
  rintro _ _ ⟨h6x, rfl, rfl, P6, t6, u6, f6, g6⟩
  show lm_wp _ 163 25 [.ref 123, .ref 22, .int x, .int lo, .int up] [.int 1] (h6x, hl, X) _
  refine w_rz rfl rfl (by decide) ?_
  exact ⟨_, rfl, rfl, P6, t6, fun i hi2 => (u6 i hi2).trans (by rw [f5 158 (by decide)]), fun a a1 a2 => (f6 a a1 a2).trans (f5 a a1), fun k k1 k2 k3 k4 => (g6 k k1 k2 k3 k4).trans (g5 k k1 k2 k3 k4)⟩
