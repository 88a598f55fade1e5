set_option maxRecDepth 16384
/-! Trial: 0 the state, 1 and 2 gains, 3 days on which something was done, 4 what was chosen last -/
def isZ (hi : Nat → Nat → Int32) (Z : Nat → Int32) : Prop := hi 104 3 = Z 0 ∧ hi 105 0 = Z 1 ∧ hi 105 1 = Z 2 ∧ hi 104 4 = Z 3 ∧ hi 104 5 = Z 4
theorem isZ_fr {hi hi' : Nat → Nat → Int32} {Z : Nat → Int32} {lo up : Nat} (f : fr lo up hi hi') (hd : 106 ≤ lo ∨ up ≤ 104) (H : isZ hi Z) : isZ hi' Z := by
  unfold isZ
  rw [f 104 (by omega), f 105 (by omega)]
  exact H
def bgZ (s : Int32) : Nat → Int32 := fun k => if k = 0 then s else if k = 4 then -1 else 0
def goZ (T : lm_T) (i : Nat) (Z : Nat → Int32) : Nat → Int32 := fun k => if k = 0 then s_next (aft T i (Z 0)) else if k = 1 + awk (Z 0) then Z k + val T (awk (Z 0)) (aft T i (Z 0)) else if k = 3 then (if i = 0 then Z 3 else Z 3 + 1) else if k = 4 then aI i else Z k
/-- days by two rules: of half h the rule of kind K h by A h -/
def rnZ (T : lm_T) (n : Nat) (K A : Nat → Nat) (Z : Nat → Int32) : Nat → Nat → Int32
  | 0 => Z
  | m + 1 => goZ T (chs T n (K (awk (rnZ T n K A Z m 0))) (A (awk (rnZ T n K A Z m 0))) (rnZ T n K A Z m 0)) (rnZ T n K A Z m)
def tdN (n : Nat) (x : Int64) : Nat := if 0 ≤ x.toInt ∧ x.toInt < n then x.toInt.toNat + 1 else 0
def jrZ (T : lm_T) (n : Nat) (cl : Nat → Int64) : Nat → Nat → (Nat → Int32) → Int32 × (Nat → Int32)
  | _, 0, Z => (-1, Z)
  | m, j + 1, Z => if alw T (tdN n (cl m)) (awk (Z 0)) (Z 0) = true then jrZ T n cl (m + 1) j (goZ T (tdN n (cl m)) Z) else (nI m, Z)
theorem goZ_ok {T : lm_T} {n i : Nat} {Z : Nat → Int32} (hT : okT T n) (hi : i ≤ n) (ha : alw T i (awk (Z 0)) (Z 0) = true) (hs : okS (Z 0)) : okS (goZ T i Z 0) := okS_next ((aft_ok hT hi ha).1 hs)
theorem rnZ_ok {T : lm_T} {n : Nat} {K A : Nat → Nat} {Z : Nat → Int32} (hT : okT T n) (hn : n ≤ 10) (hs : okS (Z 0)) : ∀ m, okS (rnZ T n K A Z m 0) := by
  intro m
  induction m with
  | zero => exact hs
  | succ m ih =>
    have h := chs_ok T n (K (awk (rnZ T n K A Z m 0))) (A (awk (rnZ T n K A Z m 0))) (rnZ T n K A Z m 0) hn
    exact goZ_ok hT h.1 h.2 ih
theorem lgc_lt (x y : Int64) : lg_cmp x y < 0 ↔ x.toInt < y.toInt := by
  unfold lg_cmp
  split
  · rename_i h
    have h := Int64.lt_iff_toInt_lt.mp h
    constructor
    · intro z; exact absurd z (by decide)
    · intro z; omega
  · rename_i h1
    split
    · rename_i h2
      subst h2
      constructor
      · intro z; exact absurd z (by decide)
      · intro z; omega
    · rename_i h2
      have h3 : ¬ y.toInt < x.toInt := fun z => h1 (Int64.lt_iff_toInt_lt.mpr z)
      have h4 : x.toInt ≠ y.toInt := fun z => h2 (Int64.toInt_inj.mp z)
      constructor
      · intro _; omega
      · intro _; decide
theorem z_begin {d : Nat} {hi : Nat → Nat → Int32} {hl : Nat → Nat → Int64} {X : lm_X} (S : sh_A X) {s : Int32} (hs : hi 65 10 = s) : lm_w (d + 1) 69 [.ref 104] (hi, hl, X) (fun v h1 => ∃ hi', v = none ∧ h1 = (hi', hl, X) ∧ isZ hi' (bgZ s) ∧ fr 104 106 hi hi') := by
  refine lm_w_in (Nat.le_of_ble_eq_true rfl) ?_
  show lm_wp (d + 1) 69 0 [.ref 104] [] (hi, hl, X) _
  refine w_N 2 2 [.ref 104] [.ref 104, .ref 104] rfl ?_
  refine w_gr 65 rfl rfl rfl (A_k S 104 (by decide)) (A_r S 104 0 (by decide)) ?_
  refine w_gi (v := s) rfl rfl rfl (T_kd (A_T65 S)) (hs) ?_
  refine w_pi rfl rfl rfl rfl (A_k S 104 (by decide)) (by decide) ?_
  refine w_N 1 12 [.ref 104] [.ref 104] rfl ?_
  refine w_gr 105 rfl rfl rfl (A_k S 104 (by decide)) (A_r S 104 2 (by decide)) ?_
  refine w_N 1 16 [.ref 104] [.int 0, .ref 105] rfl ?_
  refine w_cc rfl (c_fillI (A_k S 105 (by decide)) (by decide) (show X.2.2.1 105 = 2 from A_l S 105 (by decide)) (by decide)) ?_
  show lm_wp _ 69 19 [.ref 104] [] (lm_row (lm_up hi 104 3 s) 105 (flr ((lm_up hi 104 3 s) 105) 2 0), hl, X) _
  refine w_N 2 21 [.ref 104] [.int 0, .ref 104] rfl ?_
  refine w_pi rfl rfl rfl rfl (A_k S 104 (by decide)) (by decide) ?_
  refine w_N 2 26 [.ref 104] [.int (-1), .ref 104] rfl ?_
  refine w_pi rfl rfl rfl rfl (A_k S 104 (by decide)) (by decide) ?_
  refine w_rv rfl rfl ?_
  refine ⟨_, rfl, rfl, ⟨?_, ?_, ?_, ?_, ?_⟩, fr_up (fr_up (fr_row (fr_up fr_rfl (by decide)) (by decide)) (by decide)) (by decide)⟩
  all_goals simp [lm_up, lm_row, flr, bgZ]
theorem z_go0 {d : Nat} {hi : Nat → Nat → Int32} {hl : Nat → Nat → Int64} {X : lm_X} (S : sh_A X) {n i : Nat} {T : lm_T} {Z : Nat → Int32} (H : isT hi 65 T n) (HZ : isZ hi Z) (hi10 : i ≤ 10) (hz : awk (Z 0) = 0) : lm_w (d + 2) 70 [.ref 104, .int (aI i)] (hi, hl, X) (fun v h1 => ∃ hi', v = none ∧ h1 = (hi', hl, X) ∧ isZ hi' (goZ T i Z) ∧ fr 104 106 hi hi') := by
  refine lm_w_in (Nat.le_of_ble_eq_true rfl) ?_
  show lm_wp (d + 2) 70 0 [.ref 104, .int (aI i), lm_jk] [] (hi, hl, X) _
  refine w_N 1 1 [.ref 104, .int (aI i), lm_jk] [.ref 104] rfl ?_
  refine w_gi (v := Z 0) rfl rfl rfl (A_k S 104 (by decide)) (HZ.1) ?_
  refine w_cc rfl (c_awkz hz) ?_
  show lm_wp _ 70 7 [.ref 104, .int (aI i), lm_jk] [.int 0] (hi, hl, X) _
  refine w_N 3 10 [.ref 104, .int (aI i), .int 0] [.ref 104, .ref 104] rfl ?_
  refine w_gr 65 rfl rfl rfl (A_k S 104 (by decide)) (A_r S 104 0 (by decide)) ?_
  refine w_N 2 15 [.ref 104, .int (aI i), .int 0] [.ref 104, .int (aI i), .ref 65, .ref 104] rfl ?_
  refine w_gi (v := Z 0) rfl rfl rfl (A_k S 104 (by decide)) (HZ.1) ?_
  refine w_cc (w_vst rfl rfl rfl (Nat.le_of_ble_eq_true rfl) (Nat.le_of_ble_eq_true rfl) (T_kd (A_T65 S))) (t_after (A_T65 S) H hi10) ?_
  show lm_wp _ 70 21 [.ref 104, .int (aI i), .int 0] [.int (aft T i (Z 0)), .ref 104] (hi, hl, X) _
  refine w_pi rfl rfl rfl rfl (A_k S 104 (by decide)) (by decide) ?_
  refine w_N 1 25 [.ref 104, .int (aI i), .int 0] [.ref 104] rfl ?_
  refine w_gr 105 rfl rfl rfl (A_k S 104 (by decide)) (A_r S 104 2 (by decide)) ?_
  refine w_N 2 30 [.ref 104, .int (aI i), .int 0] [.int 0, .ref 105, .int 0, .ref 105] rfl ?_
  refine w_ia 0 (v := Z 1) rfl (A_k S 105 (by decide)) (show X.2.2.1 105 = 2 from A_l S 105 (by decide)) rfl (by decide) (by decide) ((lm_up_na (by decide)).trans (HZ.2.1)) ?_
  refine w_N 1 32 [.ref 104, .int (aI i), .int 0] [.ref 104, .int (Z 1), .int 0, .ref 105] rfl ?_
  refine w_gr 65 rfl rfl rfl (A_k S 104 (by decide)) (A_r S 104 0 (by decide)) ?_
  refine w_N 2 37 [.ref 104, .int (aI i), .int 0] [.ref 104, .int 0, .ref 65, .int (Z 1), .int 0, .ref 105] rfl ?_
  refine w_gi (v := aft T i (Z 0)) rfl rfl rfl (A_k S 104 (by decide)) (lm_up_eq) ?_
  refine w_cc (w_vst rfl rfl rfl (Nat.le_of_ble_eq_true rfl) (Nat.le_of_ble_eq_true rfl) (T_kd (A_T65 S))) (t_valueTo (hf := 0) (A_T65 S) (isT_o (by decide) H) (by decide)) ?_
  show lm_wp _ 70 43 [.ref 104, .int (aI i), .int 0] [.int (val T 0 (aft T i (Z 0))), .int (Z 1), .int 0, .ref 105] (lm_up hi 104 3 (aft T i (Z 0)), hl, X) _
  refine w_N 1 44 [.ref 104, .int (aI i), .int 0] [.int ((Z 1) + (val T 0 (aft T i (Z 0)))), .int 0, .ref 105] rfl ?_
  refine w_is 0 rfl (A_k S 105 (by decide)) (by decide) (show X.2.2.1 105 = 2 from A_l S 105 (by decide)) rfl (by decide) (by decide) ?_
  refine w_N 2 47 [.ref 104, .int (aI i), .int 0] [.ref 104, .ref 104] rfl ?_
  refine w_gi (v := aft T i (Z 0)) rfl rfl rfl (A_k S 104 (by decide)) ((lm_up_na (by decide)).trans (lm_up_eq)) ?_
  refine w_cc rfl c_X4_nextDay ?_
  show lm_wp _ 70 53 [.ref 104, .int (aI i), .int 0] [.int (s_next (aft T i (Z 0))), .ref 104] (lm_up (lm_up hi 104 3 (aft T i (Z 0))) 105 0 ((Z 1) + (val T 0 (aft T i (Z 0)))), hl, X) _
  refine w_pi rfl rfl rfl rfl (A_k S 104 (by decide)) (by decide) ?_
  refine w_N 2 58 [.ref 104, .int (aI i), .int 0] [.int (aI i), .ref 104] rfl ?_
  refine w_pi rfl rfl rfl rfl (A_k S 104 (by decide)) (by decide) ?_
  refine w_N 2 63 [.ref 104, .int (aI i), .int 0] [.int (-1), .int (aI i)] rfl ?_
  refine w_icmp_eq (t := 76) rfl rfl (fun c1 => ?_) (fun c1 => ?_)
  · refine w_rv rfl rfl ?_
    have e0 : i = 0 := (aI_none (by omega)).mp c1
    obtain ⟨z0, z1, z2, z3, z4⟩ := HZ
    refine ⟨_, rfl, rfl, ⟨?_, ?_, ?_, ?_, ?_⟩, fr_up (fr_up (fr_up (fr_up (fr_rfl) (by decide)) (by decide)) (by decide)) (by decide)⟩
    all_goals simp [lm_up, goZ, hz, e0, *]
  · refine w_N 2 68 [.ref 104, .int (aI i), .int 0] [.ref 104, .ref 104] rfl ?_
    refine w_gi (v := Z 3) rfl rfl rfl (A_k S 104 (by decide)) ((lm_up_nk (by decide)).trans ((lm_up_nk (by decide)).trans ((lm_up_na (by decide)).trans ((lm_up_nk (by decide)).trans (HZ.2.2.2.1))))) ?_
    refine w_N 2 73 [.ref 104, .int (aI i), .int 0] [.int ((Z 3) + 1), .ref 104] rfl ?_
    refine w_pi rfl rfl rfl rfl (A_k S 104 (by decide)) (by decide) ?_
    refine w_rv rfl rfl ?_
    have e0 : i ≠ 0 := fun q => c1 ((aI_none (by omega)).mpr q)
    obtain ⟨z0, z1, z2, z3, z4⟩ := HZ
    refine ⟨_, rfl, rfl, ⟨?_, ?_, ?_, ?_, ?_⟩, fr_up (fr_up (fr_up (fr_up (fr_up (fr_rfl) (by decide)) (by decide)) (by decide)) (by decide)) (by decide)⟩
    all_goals simp [lm_up, goZ, hz, e0, *]
theorem z_go1 {d : Nat} {hi : Nat → Nat → Int32} {hl : Nat → Nat → Int64} {X : lm_X} (S : sh_A X) {n i : Nat} {T : lm_T} {Z : Nat → Int32} (H : isT hi 65 T n) (HZ : isZ hi Z) (hi10 : i ≤ 10) (hz : awk (Z 0) = 1) : lm_w (d + 2) 70 [.ref 104, .int (aI i)] (hi, hl, X) (fun v h1 => ∃ hi', v = none ∧ h1 = (hi', hl, X) ∧ isZ hi' (goZ T i Z) ∧ fr 104 106 hi hi') := by
  refine lm_w_in (Nat.le_of_ble_eq_true rfl) ?_
  show lm_wp (d + 2) 70 0 [.ref 104, .int (aI i), lm_jk] [] (hi, hl, X) _
  refine w_N 1 1 [.ref 104, .int (aI i), lm_jk] [.ref 104] rfl ?_
  refine w_gi (v := Z 0) rfl rfl rfl (A_k S 104 (by decide)) (HZ.1) ?_
  refine w_cc rfl (c_awkz hz) ?_
  show lm_wp _ 70 7 [.ref 104, .int (aI i), lm_jk] [.int 1] (hi, hl, X) _
  refine w_N 3 10 [.ref 104, .int (aI i), .int 1] [.ref 104, .ref 104] rfl ?_
  refine w_gr 65 rfl rfl rfl (A_k S 104 (by decide)) (A_r S 104 0 (by decide)) ?_
  refine w_N 2 15 [.ref 104, .int (aI i), .int 1] [.ref 104, .int (aI i), .ref 65, .ref 104] rfl ?_
  refine w_gi (v := Z 0) rfl rfl rfl (A_k S 104 (by decide)) (HZ.1) ?_
  refine w_cc (w_vst rfl rfl rfl (Nat.le_of_ble_eq_true rfl) (Nat.le_of_ble_eq_true rfl) (T_kd (A_T65 S))) (t_after (A_T65 S) H hi10) ?_
  show lm_wp _ 70 21 [.ref 104, .int (aI i), .int 1] [.int (aft T i (Z 0)), .ref 104] (hi, hl, X) _
  refine w_pi rfl rfl rfl rfl (A_k S 104 (by decide)) (by decide) ?_
  refine w_N 1 25 [.ref 104, .int (aI i), .int 1] [.ref 104] rfl ?_
  refine w_gr 105 rfl rfl rfl (A_k S 104 (by decide)) (A_r S 104 2 (by decide)) ?_
  refine w_N 2 30 [.ref 104, .int (aI i), .int 1] [.int 1, .ref 105, .int 1, .ref 105] rfl ?_
  refine w_ia 1 (v := Z 2) rfl (A_k S 105 (by decide)) (show X.2.2.1 105 = 2 from A_l S 105 (by decide)) rfl (by decide) (by decide) ((lm_up_na (by decide)).trans (HZ.2.2.1)) ?_
  refine w_N 1 32 [.ref 104, .int (aI i), .int 1] [.ref 104, .int (Z 2), .int 1, .ref 105] rfl ?_
  refine w_gr 65 rfl rfl rfl (A_k S 104 (by decide)) (A_r S 104 0 (by decide)) ?_
  refine w_N 2 37 [.ref 104, .int (aI i), .int 1] [.ref 104, .int 1, .ref 65, .int (Z 2), .int 1, .ref 105] rfl ?_
  refine w_gi (v := aft T i (Z 0)) rfl rfl rfl (A_k S 104 (by decide)) (lm_up_eq) ?_
  refine w_cc (w_vst rfl rfl rfl (Nat.le_of_ble_eq_true rfl) (Nat.le_of_ble_eq_true rfl) (T_kd (A_T65 S))) (t_valueTo (hf := 1) (A_T65 S) (isT_o (by decide) H) (by decide)) ?_
  show lm_wp _ 70 43 [.ref 104, .int (aI i), .int 1] [.int (val T 1 (aft T i (Z 0))), .int (Z 2), .int 1, .ref 105] (lm_up hi 104 3 (aft T i (Z 0)), hl, X) _
  refine w_N 1 44 [.ref 104, .int (aI i), .int 1] [.int ((Z 2) + (val T 1 (aft T i (Z 0)))), .int 1, .ref 105] rfl ?_
  refine w_is 1 rfl (A_k S 105 (by decide)) (by decide) (show X.2.2.1 105 = 2 from A_l S 105 (by decide)) rfl (by decide) (by decide) ?_
  refine w_N 2 47 [.ref 104, .int (aI i), .int 1] [.ref 104, .ref 104] rfl ?_
  refine w_gi (v := aft T i (Z 0)) rfl rfl rfl (A_k S 104 (by decide)) ((lm_up_na (by decide)).trans (lm_up_eq)) ?_
  refine w_cc rfl c_X4_nextDay ?_
  show lm_wp _ 70 53 [.ref 104, .int (aI i), .int 1] [.int (s_next (aft T i (Z 0))), .ref 104] (lm_up (lm_up hi 104 3 (aft T i (Z 0))) 105 1 ((Z 2) + (val T 1 (aft T i (Z 0)))), hl, X) _
  refine w_pi rfl rfl rfl rfl (A_k S 104 (by decide)) (by decide) ?_
  refine w_N 2 58 [.ref 104, .int (aI i), .int 1] [.int (aI i), .ref 104] rfl ?_
  refine w_pi rfl rfl rfl rfl (A_k S 104 (by decide)) (by decide) ?_
  refine w_N 2 63 [.ref 104, .int (aI i), .int 1] [.int (-1), .int (aI i)] rfl ?_
  refine w_icmp_eq (t := 76) rfl rfl (fun c1 => ?_) (fun c1 => ?_)
  · refine w_rv rfl rfl ?_
    have e0 : i = 0 := (aI_none (by omega)).mp c1
    obtain ⟨z0, z1, z2, z3, z4⟩ := HZ
    refine ⟨_, rfl, rfl, ⟨?_, ?_, ?_, ?_, ?_⟩, fr_up (fr_up (fr_up (fr_up (fr_rfl) (by decide)) (by decide)) (by decide)) (by decide)⟩
    all_goals simp [lm_up, goZ, hz, e0, *]
  · refine w_N 2 68 [.ref 104, .int (aI i), .int 1] [.ref 104, .ref 104] rfl ?_
    refine w_gi (v := Z 3) rfl rfl rfl (A_k S 104 (by decide)) ((lm_up_nk (by decide)).trans ((lm_up_nk (by decide)).trans ((lm_up_na (by decide)).trans ((lm_up_nk (by decide)).trans (HZ.2.2.2.1))))) ?_
    refine w_N 2 73 [.ref 104, .int (aI i), .int 1] [.int ((Z 3) + 1), .ref 104] rfl ?_
    refine w_pi rfl rfl rfl rfl (A_k S 104 (by decide)) (by decide) ?_
    refine w_rv rfl rfl ?_
    have e0 : i ≠ 0 := fun q => c1 ((aI_none (by omega)).mpr q)
    obtain ⟨z0, z1, z2, z3, z4⟩ := HZ
    refine ⟨_, rfl, rfl, ⟨?_, ?_, ?_, ?_, ?_⟩, fr_up (fr_up (fr_up (fr_up (fr_up (fr_rfl) (by decide)) (by decide)) (by decide)) (by decide)) (by decide)⟩
    all_goals simp [lm_up, goZ, hz, e0, *]
theorem z_go {d : Nat} {hi : Nat → Nat → Int32} {hl : Nat → Nat → Int64} {X : lm_X} (S : sh_A X) {n i : Nat} {T : lm_T} {Z : Nat → Int32} (H : isT hi 65 T n) (HZ : isZ hi Z) (hi10 : i ≤ 10) : lm_w (d + 2) 70 [.ref 104, .int (aI i)] (hi, hl, X) (fun v h1 => ∃ hi', v = none ∧ h1 = (hi', hl, X) ∧ isZ hi' (goZ T i Z) ∧ fr 104 106 hi hi') := by
  have h := awk_lt (Z 0)
  rcases (by omega : awk (Z 0) = 0 ∨ awk (Z 0) = 1) with h | h
  · exact z_go0 S H HZ hi10 h
  · exact z_go1 S H HZ hi10 h
theorem z_gr1 {d : Nat} {hi : Nat → Nat → Int32} {hl : Nat → Nat → Int64} {X : lm_X} (S : sh_A X) {n C N q r aw : Nat} {T : lm_T} {K A : Nat → Nat} {Z0 : Nat → Int32} (hT : okT T n) (hs : okS (Z0 0)) (haw : aw < 2) (Q : sh_Sf X q) (R : sh_Sf X r) (hq : 106 ≤ q) (hr : 106 ≤ r) (hK : ∀ h, h < 2 → 1 ≤ K h ∧ K h ≤ 6 ∧ A h ≤ 99) (q1 : hi q 1 = nI (10 + K aw)) (q3 : hi q 3 = nI (A aw)) (r1 : hi r 1 = nI (10 + K (1 - aw))) (r3 : hi r 3 = nI (A (1 - aw))) (hN : N < 1000) {P : Option Value → lm_H → Prop} (k : ∀ (c : Int32) (hi' : Nat → Nat → Int32), isZ hi' (rnZ T n K A Z0 N) → fr 98 106 hi hi' → fok hi' T n C → lm_wp (d + 15) 67 60 [.ref 104, .ref q, .ref r, .int (nI N), .int (nI aw), .int c] [] (hi', hl, X) P) : ∀ (j m : Nat) (hi' : Nat → Nat → Int32) (mk : Int32), m + j = N → (mk = nI m) → (isT hi' 65 T n) → (fok hi' T n C) → (fr 98 106 hi hi') → (isZ hi' (rnZ T n K A Z0 m)) → lm_wp (d + 15) 67 16 [.ref 104, .ref q, .ref r, .int (nI N), .int (nI aw), .int mk] [] (hi', hl, X) P := by
  intro j
  induction j with
  | zero =>
    intro m hi' mk hm e2 H FO F HZ
    refine w_N 2 19 [.ref 104, .ref q, .ref r, .int (nI N), .int (nI aw), .int mk] [.int (nI N), .int mk] rfl ?_
    refine w_icmp_ge_t (t := 60) rfl rfl (by rw [e2, show m = N by omega]; exact fun z => Int32.lt_irrefl z) ?_
    obtain rfl : m = N := by omega
    exact k _ hi' HZ F FO
  | succ j ih =>
    intro m hi' mk hm e2 H FO F HZ
    have hn10 := isTle H
    have hok := rnZ_ok (K := K) (A := A) hT hn10 hs m
    have hk := hK (awk (rnZ T n K A Z0 m 0)) (awk_lt _)
    refine w_N 2 19 [.ref 104, .ref q, .ref r, .int (nI N), .int (nI aw), .int mk] [.int (nI N), .int mk] rfl ?_
    refine w_icmp_ge_f (t := 60) rfl rfl (by rw [e2]; exact nI_lt (by omega) (by omega)) ?_
    refine w_N 2 24 [.ref 104, .ref q, .ref r, .int (nI N), .int (nI aw), .int mk] [.ref 104, .ref 104] rfl ?_
    refine w_gr 103 rfl rfl rfl (A_k S 104 (by decide)) (A_r S 104 1 (by decide)) ?_
    refine w_N 1 28 [.ref 104, .ref q, .ref r, .int (nI N), .int (nI aw), .int mk] [.ref 104, .ref 103, .ref 104] rfl ?_
    refine w_gi (v := rnZ T n K A Z0 m 0) rfl rfl rfl (A_k S 104 (by decide)) (HZ.1) ?_
    refine w_cc rfl (c_awkz rfl) ?_
    show lm_wp _ 67 34 [.ref 104, .ref q, .ref r, .int (nI N), .int (nI aw), .int mk] [.int (nI (awk (rnZ T n K A Z0 m 0))), .ref 103, .ref 104] (hi', hl, X) _
    refine w_N 1 36 [.ref 104, .ref q, .ref r, .int (nI N), .int (nI aw), .int mk] [.int (nI aw), .int (nI (awk (rnZ T n K A Z0 m 0))), .ref 103, .ref 104] rfl ?_
    refine w_icmp_ne (t := 43) rfl rfl (fun c1 => ?_) (fun c1 => ?_)
    · refine w_N 2 45 [.ref 104, .ref q, .ref r, .int (nI N), .int (nI aw), .int mk] [.ref 104, .ref r, .ref 103, .ref 104] rfl ?_
      refine w_gi (v := rnZ T n K A Z0 m 0) rfl rfl rfl (A_k S 104 (by decide)) (HZ.1) ?_
      have hh : awk (rnZ T n K A Z0 m 0) = 1 - aw := by
        have h1 := awk_lt (rnZ T n K A Z0 m 0)
        have h2 : awk (rnZ T n K A Z0 m 0) ≠ aw := fun z => c1 (by rw [z])
        omega
      refine w_ca (w_vst rfl rfl rfl (Nat.le_of_ble_eq_true rfl) (Nat.le_of_ble_eq_true rfl) (A_k S 103 (by decide))) (lm_w_dep (d := d + 14) (by omega) (r_choose S H FO hT hok R (by rw [F r (by omega), hh]; exact r1) (by rw [F r (by omega), hh]; exact r3) hk.1 hk.2.1 hk.2.2)) ?_
      rintro _ _ ⟨hi1, rfl, rfl, F1, FO1⟩
      show lm_wp _ 67 51 [.ref 104, .ref q, .ref r, .int (nI N), .int (nI aw), .int mk] [.int (aI (chs T n (K (awk (rnZ T n K A Z0 m 0))) (A (awk (rnZ T n K A Z0 m 0))) (rnZ T n K A Z0 m 0))), .ref 104] (hi1, hl, X) _
      have hc := chs_ok T n (K (awk (rnZ T n K A Z0 m 0))) (A (awk (rnZ T n K A Z0 m 0))) (rnZ T n K A Z0 m 0) hn10
      have H1 := isT_fr F1 (by omega) H
      refine w_ca (w_vst rfl rfl rfl (Nat.le_of_ble_eq_true rfl) (Nat.le_of_ble_eq_true rfl) (A_k S 104 (by decide))) (lm_w_dep (d := d + 2) (by omega) (z_go S H1 (isZ_fr F1 (by omega) HZ) (by omega))) ?_
      rintro _ _ ⟨hi2, rfl, rfl, HZ2, F2⟩
      show lm_wp _ 67 54 [.ref 104, .ref q, .ref r, .int (nI N), .int (nI aw), .int mk] [] (hi2, hl, X) _
      refine w_N 2 16 [.ref 104, .ref q, .ref r, .int (nI N), .int (nI aw), .int (mk + 1)] [] rfl ?_
      exact ih (m + 1) hi2 _ (by omega) (by rw [e2, nI_succ]) (isT_fr F2 (by omega) H1) (fok_fr F2 (by omega) FO1) (fr_trans F (fr_trans (fr_mono F1 (by omega)) (fr_mono F2 (by omega)))) HZ2
    · refine w_N 3 45 [.ref 104, .ref q, .ref r, .int (nI N), .int (nI aw), .int mk] [.ref 104, .ref q, .ref 103, .ref 104] rfl ?_
      refine w_gi (v := rnZ T n K A Z0 m 0) rfl rfl rfl (A_k S 104 (by decide)) (HZ.1) ?_
      have hh : awk (rnZ T n K A Z0 m 0) = aw := (nI_inj (by have := awk_lt (rnZ T n K A Z0 m 0); omega) (by omega)).mp c1
      refine w_ca (w_vst rfl rfl rfl (Nat.le_of_ble_eq_true rfl) (Nat.le_of_ble_eq_true rfl) (A_k S 103 (by decide))) (lm_w_dep (d := d + 14) (by omega) (r_choose S H FO hT hok Q (by rw [F q (by omega), hh]; exact q1) (by rw [F q (by omega), hh]; exact q3) hk.1 hk.2.1 hk.2.2)) ?_
      rintro _ _ ⟨hi1, rfl, rfl, F1, FO1⟩
      show lm_wp _ 67 51 [.ref 104, .ref q, .ref r, .int (nI N), .int (nI aw), .int mk] [.int (aI (chs T n (K (awk (rnZ T n K A Z0 m 0))) (A (awk (rnZ T n K A Z0 m 0))) (rnZ T n K A Z0 m 0))), .ref 104] (hi1, hl, X) _
      have hc := chs_ok T n (K (awk (rnZ T n K A Z0 m 0))) (A (awk (rnZ T n K A Z0 m 0))) (rnZ T n K A Z0 m 0) hn10
      have H1 := isT_fr F1 (by omega) H
      refine w_ca (w_vst rfl rfl rfl (Nat.le_of_ble_eq_true rfl) (Nat.le_of_ble_eq_true rfl) (A_k S 104 (by decide))) (lm_w_dep (d := d + 2) (by omega) (z_go S H1 (isZ_fr F1 (by omega) HZ) (by omega))) ?_
      rintro _ _ ⟨hi2, rfl, rfl, HZ2, F2⟩
      show lm_wp _ 67 54 [.ref 104, .ref q, .ref r, .int (nI N), .int (nI aw), .int mk] [] (hi2, hl, X) _
      refine w_N 2 16 [.ref 104, .ref q, .ref r, .int (nI N), .int (nI aw), .int (mk + 1)] [] rfl ?_
      exact ih (m + 1) hi2 _ (by omega) (by rw [e2, nI_succ]) (isT_fr F2 (by omega) H1) (fok_fr F2 (by omega) FO1) (fr_trans F (fr_trans (fr_mono F1 (by omega)) (fr_mono F2 (by omega)))) HZ2
theorem z_goByRules {d : Nat} {hi : Nat → Nat → Int32} {hl : Nat → Nat → Int64} {X : lm_X} (S : sh_A X) {n C N q r aw : Nat} {T : lm_T} {K A : Nat → Nat} {s : Int32} (hT : okT T n) (hs : okS s) (haw : awk s = aw) (Q : sh_Sf X q) (R : sh_Sf X r) (hq : 106 ≤ q) (hr : 106 ≤ r) (hK : ∀ h, h < 2 → 1 ≤ K h ∧ K h ≤ 6 ∧ A h ≤ 99) (q1 : hi q 1 = nI (10 + K aw)) (q3 : hi q 3 = nI (A aw)) (r1 : hi r 1 = nI (10 + K (1 - aw))) (r3 : hi r 3 = nI (A (1 - aw))) (hN : N < 1000) (H : isT hi 65 T n) (FO : fok hi T n C) (h10 : hi 65 10 = s) : lm_w (d + 15) 67 [.ref 104, .ref q, .ref r, .int (nI N)] (hi, hl, X) (fun v h1 => ∃ hi', v = none ∧ h1 = (hi', hl, X) ∧ isZ hi' (rnZ T n K A (bgZ s) N) ∧ fr 98 106 hi hi' ∧ fok hi' T n C) := by
  refine lm_w_in (Nat.le_of_ble_eq_true rfl) ?_
  show lm_wp (d + 15) 67 0 [.ref 104, .ref q, .ref r, .int (nI N), lm_jk, lm_jk] [] (hi, hl, X) _
  refine w_N 1 1 [.ref 104, .ref q, .ref r, .int (nI N), lm_jk, lm_jk] [.ref 104] rfl ?_
  refine w_ca (w_vst rfl rfl rfl (Nat.le_of_ble_eq_true rfl) (Nat.le_of_ble_eq_true rfl) (A_k S 104 (by decide))) (lm_w_dep (d := d + 1) (by omega) (z_begin S h10)) ?_
  rintro _ _ ⟨hi1, rfl, rfl, HZ, F1⟩
  show lm_wp _ 67 4 [.ref 104, .ref q, .ref r, .int (nI N), lm_jk, lm_jk] [] (hi1, hl, X) _
  refine w_N 1 5 [.ref 104, .ref q, .ref r, .int (nI N), lm_jk, lm_jk] [.ref 104] rfl ?_
  refine w_gi (v := hi1 104 3) rfl rfl rfl (A_k S 104 (by decide)) (rfl) ?_
  refine w_cc rfl (c_awkz (z := aw) (by rw [HZ.1]; exact haw)) ?_
  show lm_wp _ 67 11 [.ref 104, .ref q, .ref r, .int (nI N), lm_jk, lm_jk] [.int (nI aw)] (hi1, hl, X) _
  refine w_N 3 16 [.ref 104, .ref q, .ref r, .int (nI N), .int (nI aw), .int 0] [] rfl ?_
  refine z_gr1 (hi := hi1) (Z0 := bgZ s) (C := C) S hT hs (by have := awk_lt s; omega) Q R hq hr hK (by rw [F1 q (by omega)]; exact q1) (by rw [F1 q (by omega)]; exact q3) (by rw [F1 r (by omega)]; exact r1) (by rw [F1 r (by omega)]; exact r3) hN (fun c hi2 HZ2 F2 FO2 => ?_) N 0 hi1 _ (by omega) rfl (isT_fr F1 (by omega) H) (fok_fr F1 (by omega) FO) fr_rfl HZ
  refine w_rv rfl rfl ?_
  exact ⟨hi2, rfl, rfl, HZ2, fr_trans (fr_mono F1 (by omega)) F2, FO2⟩
theorem z_gw1 {d : Nat} {hi : Nat → Nat → Int32} {hl : Nat → Nat → Int64} {X : lm_X} (S : sh_A X) {n N q : Nat} {T : lm_T} (Q : sh_Sf X q) (hT : okT T n) (hN : N ≤ 40) {P : Option Value → lm_H → Prop} : ∀ (j m : Nat) (hi' : Nat → Nat → Int32) (mk : Int32) (Z : Nat → Int32) (x4 : Value) (x5 : Value) (x6 : Value), m + j = N → (mk = nI m) → (isT hi' 65 T n) → (isZ hi' Z) → (fr 104 106 hi hi') → (∀ v h1, (∃ hi2, v = some (.int (jrZ T n (hl (q + 1)) m j Z).1) ∧ h1 = (hi2, hl, X) ∧ isZ hi2 (jrZ T n (hl (q + 1)) m j Z).2 ∧ fr 104 106 hi hi2) → P v h1) → lm_wp (d + 3) 68 6 [.ref 104, .ref q, .int (nI N), .int mk, x4, x5, x6] [] (hi', hl, X) P := by
  intro j
  induction j with
  | zero =>
    intro m hi' mk Z x4 x5 x6 hm e2 H HZ F hP
    refine w_N 2 8 [.ref 104, .ref q, .int (nI N), .int mk, x4, x5, x6] [.int (nI N), .int mk] rfl ?_
    refine w_icmp_ge_t (t := 86) rfl rfl (by rw [e2, show m = N by omega]; exact fun z => Int32.lt_irrefl z) ?_
    refine w_N 1 87 [.ref 104, .ref q, .int (nI N), .int mk, x4, x5, x6] [.int (-1)] rfl ?_
    refine w_ri rfl rfl ?_
    exact hP _ _ ⟨hi', rfl, rfl, HZ, F⟩
  | succ j ih =>
    intro m hi' mk Z x4 x5 x6 hm e2 H HZ F hP
    have hn10 := isTle H
    refine w_N 2 8 [.ref 104, .ref q, .int (nI N), .int mk, x4, x5, x6] [.int (nI N), .int mk] rfl ?_
    refine w_icmp_ge_f (t := 86) rfl rfl (by rw [e2]; exact nI_lt (by omega) (by omega)) ?_
    refine w_N 1 12 [.ref 104, .ref q, .int (nI N), .int mk, x4, x5, x6] [.ref q] rfl ?_
    refine w_gr (q + 1) rfl rfl rfl (Sf_kd Q) (Sf_r0 Q) ?_
    refine w_N 1 16 [.ref 104, .ref q, .int (nI N), .int mk, x4, x5, x6] [.int mk, .ref (q + 1)] rfl ?_
    refine w_la m (v := hl (q + 1) m) rfl (Sf_k0 Q) (Sf_l0 Q) e2 (by omega) (by decide) (rfl) ?_
    refine w_N 4 23 [.ref 104, .ref q, .int (nI N), .int mk, .long (hl (q + 1) m), lm_jk, x6] [.int (lg_cmp (hl (q + 1) m) 0)] rfl ?_
    refine w_if_lt (t := 46) rfl rfl (fun c1 => ?_) (fun c1 => ?_)
    · refine w_N 3 50 [.ref 104, .ref q, .int (nI N), .int mk, .long (hl (q + 1) m), lm_jk, .int (-1)] [.ref 104] rfl ?_
      refine w_gr 65 rfl rfl rfl (A_k S 104 (by decide)) (A_r S 104 0 (by decide)) ?_
      refine w_N 2 56 [.ref 104, .ref q, .int (nI N), .int mk, .long (hl (q + 1) m), lm_jk, .int (-1)] [.ref 104, .int (-1), .ref 65] rfl ?_
      refine w_gi (v := Z 0) rfl rfl rfl (A_k S 104 (by decide)) (HZ.1) ?_
      refine w_cc rfl (c_awkz rfl) ?_
      show lm_wp _ 68 62 [.ref 104, .ref q, .int (nI N), .int mk, .long (hl (q + 1) m), lm_jk, .int (-1)] [.int (nI (awk (Z 0))), .int (-1), .ref 65] (hi', hl, X) _
      refine w_N 1 63 [.ref 104, .ref q, .int (nI N), .int mk, .long (hl (q + 1) m), lm_jk, .int (-1)] [.ref 104, .int (nI (awk (Z 0))), .int (-1), .ref 65] rfl ?_
      refine w_gi (v := Z 0) rfl rfl rfl (A_k S 104 (by decide)) (HZ.1) ?_
      have ht : tdN n (hl (q + 1) m) = 0 := if_neg (fun z => by
        rw [lgc_lt] at c1; have := z.1; simp at c1; omega)
      have htn : tdN n (hl (q + 1) m) ≤ n := by
        unfold tdN
        split <;> omega
      have hxe := (show (-1 : Int32) = aI (tdN n (hl (q + 1) m)) by rw [ht]; rfl)
      refine w_cc (w_vst rfl rfl rfl (Nat.le_of_ble_eq_true rfl) (Nat.le_of_ble_eq_true rfl) (T_kd (A_T65 S))) (t_allowsE (d := d + 1) (A_T65 S) H hxe rfl (by omega)) ?_
      show lm_wp _ 68 69 [.ref 104, .ref q, .int (nI N), .int mk, .long (hl (q + 1) m), lm_jk, .int (-1)] [.int (bz (alw T (tdN n (hl (q + 1) m)) (awk (Z 0)) (Z 0)))] (hi', hl, X) _
      refine w_zne (t := 74) rfl rfl (fun c2 => ?_) (fun c2 => ?_)
      · refine w_N 2 77 [.ref 104, .ref q, .int (nI N), .int mk, .long (hl (q + 1) m), lm_jk, .int (-1)] [.int (-1), .ref 104] rfl ?_
        refine w_ca (w_vst rfl rfl rfl (Nat.le_of_ble_eq_true rfl) (Nat.le_of_ble_eq_true rfl) (A_k S 104 (by decide))) (hxe ▸ z_go S H HZ (by omega)) ?_
        rintro _ _ ⟨hi2, rfl, rfl, HZ2, F2⟩
        show lm_wp _ 68 80 [.ref 104, .ref q, .int (nI N), .int mk, .long (hl (q + 1) m), lm_jk, .int (-1)] [] (hi2, hl, X) _
        refine w_N 2 6 [.ref 104, .ref q, .int (nI N), .int (mk + 1), .long (hl (q + 1) m), lm_jk, .int (-1)] [] rfl ?_
        have eb : jrZ T n (hl (q + 1)) m (j + 1) Z = jrZ T n (hl (q + 1)) (m + 1) j (goZ T (tdN n (hl (q + 1) m)) Z) := if_pos c2
        rw [eb] at hP
        exact ih (m + 1) hi2 _ _ _ _ _ (by omega) (by rw [e2, nI_succ]) (isT_fr F2 (by omega) H) HZ2 (fr_trans F F2) hP
      · refine w_N 1 73 [.ref 104, .ref q, .int (nI N), .int mk, .long (hl (q + 1) m), lm_jk, .int (-1)] [.int mk] rfl ?_
        refine w_ri rfl rfl ?_
        refine hP _ _ ⟨hi', ?_, rfl, ?_, F⟩
        · rw [show jrZ T n (hl (q + 1)) m (j + 1) Z = (nI m, Z) from if_neg (by rw [c2]; decide), e2]
        · rw [show jrZ T n (hl (q + 1)) m (j + 1) Z = (nI m, Z) from if_neg (by rw [c2]; decide)]; exact HZ
    · refine w_N 2 29 [.ref 104, .ref q, .int (nI N), .int mk, .long (hl (q + 1) m), lm_jk, x6] [.ref 104, .long (hl (q + 1) m)] rfl ?_
      refine w_gr 65 rfl rfl rfl (A_k S 104 (by decide)) (A_r S 104 0 (by decide)) ?_
      refine w_gi (v := nI n) rfl rfl rfl (T_kd (A_T65 S)) (isTn H) ?_
      refine w_N 2 37 [.ref 104, .ref q, .int (nI N), .int mk, .long (hl (q + 1) m), lm_jk, x6] [.int (lg_cmp (hl (q + 1) m) ((nI n).toInt64))] rfl ?_
      refine w_if_ge (t := 46) rfl rfl (fun c3 => ?_) (fun c3 => ?_)
      · refine w_N 3 50 [.ref 104, .ref q, .int (nI N), .int mk, .long (hl (q + 1) m), lm_jk, .int (-1)] [.ref 104] rfl ?_
        refine w_gr 65 rfl rfl rfl (A_k S 104 (by decide)) (A_r S 104 0 (by decide)) ?_
        refine w_N 2 56 [.ref 104, .ref q, .int (nI N), .int mk, .long (hl (q + 1) m), lm_jk, .int (-1)] [.ref 104, .int (-1), .ref 65] rfl ?_
        refine w_gi (v := Z 0) rfl rfl rfl (A_k S 104 (by decide)) (HZ.1) ?_
        refine w_cc rfl (c_awkz rfl) ?_
        show lm_wp _ 68 62 [.ref 104, .ref q, .int (nI N), .int mk, .long (hl (q + 1) m), lm_jk, .int (-1)] [.int (nI (awk (Z 0))), .int (-1), .ref 65] (hi', hl, X) _
        refine w_N 1 63 [.ref 104, .ref q, .int (nI N), .int mk, .long (hl (q + 1) m), lm_jk, .int (-1)] [.ref 104, .int (nI (awk (Z 0))), .int (-1), .ref 65] rfl ?_
        refine w_gi (v := Z 0) rfl rfl rfl (A_k S 104 (by decide)) (HZ.1) ?_
        have ht : tdN n (hl (q + 1) m) = 0 := if_neg (fun z => by
          rw [lgc_lt, Int32.toInt_toInt64, nI_ti (by omega)] at c3; exact c3 z.2)
        have htn : tdN n (hl (q + 1) m) ≤ n := by
          unfold tdN
          split <;> omega
        have hxe := (show (-1 : Int32) = aI (tdN n (hl (q + 1) m)) by rw [ht]; rfl)
        refine w_cc (w_vst rfl rfl rfl (Nat.le_of_ble_eq_true rfl) (Nat.le_of_ble_eq_true rfl) (T_kd (A_T65 S))) (t_allowsE (d := d + 1) (A_T65 S) H hxe rfl (by omega)) ?_
        show lm_wp _ 68 69 [.ref 104, .ref q, .int (nI N), .int mk, .long (hl (q + 1) m), lm_jk, .int (-1)] [.int (bz (alw T (tdN n (hl (q + 1) m)) (awk (Z 0)) (Z 0)))] (hi', hl, X) _
        refine w_zne (t := 74) rfl rfl (fun c4 => ?_) (fun c4 => ?_)
        · refine w_N 2 77 [.ref 104, .ref q, .int (nI N), .int mk, .long (hl (q + 1) m), lm_jk, .int (-1)] [.int (-1), .ref 104] rfl ?_
          refine w_ca (w_vst rfl rfl rfl (Nat.le_of_ble_eq_true rfl) (Nat.le_of_ble_eq_true rfl) (A_k S 104 (by decide))) (hxe ▸ z_go S H HZ (by omega)) ?_
          rintro _ _ ⟨hi2, rfl, rfl, HZ2, F2⟩
          show lm_wp _ 68 80 [.ref 104, .ref q, .int (nI N), .int mk, .long (hl (q + 1) m), lm_jk, .int (-1)] [] (hi2, hl, X) _
          refine w_N 2 6 [.ref 104, .ref q, .int (nI N), .int (mk + 1), .long (hl (q + 1) m), lm_jk, .int (-1)] [] rfl ?_
          have eb : jrZ T n (hl (q + 1)) m (j + 1) Z = jrZ T n (hl (q + 1)) (m + 1) j (goZ T (tdN n (hl (q + 1) m)) Z) := if_pos c4
          rw [eb] at hP
          exact ih (m + 1) hi2 _ _ _ _ _ (by omega) (by rw [e2, nI_succ]) (isT_fr F2 (by omega) H) HZ2 (fr_trans F F2) hP
        · refine w_N 1 73 [.ref 104, .ref q, .int (nI N), .int mk, .long (hl (q + 1) m), lm_jk, .int (-1)] [.int mk] rfl ?_
          refine w_ri rfl rfl ?_
          refine hP _ _ ⟨hi', ?_, rfl, ?_, F⟩
          · rw [show jrZ T n (hl (q + 1)) m (j + 1) Z = (nI m, Z) from if_neg (by rw [c4]; decide), e2]
          · rw [show jrZ T n (hl (q + 1)) m (j + 1) Z = (nI m, Z) from if_neg (by rw [c4]; decide)]; exact HZ
      · refine w_N 5 50 [.ref 104, .ref q, .int (nI N), .int mk, .long (hl (q + 1) m), lm_jk, .int ((hl (q + 1) m).toInt32)] [.ref 104] rfl ?_
        refine w_gr 65 rfl rfl rfl (A_k S 104 (by decide)) (A_r S 104 0 (by decide)) ?_
        refine w_N 2 56 [.ref 104, .ref q, .int (nI N), .int mk, .long (hl (q + 1) m), lm_jk, .int ((hl (q + 1) m).toInt32)] [.ref 104, .int ((hl (q + 1) m).toInt32), .ref 65] rfl ?_
        refine w_gi (v := Z 0) rfl rfl rfl (A_k S 104 (by decide)) (HZ.1) ?_
        refine w_cc rfl (c_awkz rfl) ?_
        show lm_wp _ 68 62 [.ref 104, .ref q, .int (nI N), .int mk, .long (hl (q + 1) m), lm_jk, .int ((hl (q + 1) m).toInt32)] [.int (nI (awk (Z 0))), .int ((hl (q + 1) m).toInt32), .ref 65] (hi', hl, X) _
        refine w_N 1 63 [.ref 104, .ref q, .int (nI N), .int mk, .long (hl (q + 1) m), lm_jk, .int ((hl (q + 1) m).toInt32)] [.ref 104, .int (nI (awk (Z 0))), .int ((hl (q + 1) m).toInt32), .ref 65] rfl ?_
        refine w_gi (v := Z 0) rfl rfl rfl (A_k S 104 (by decide)) (HZ.1) ?_
        have hr : 0 ≤ (hl (q + 1) m).toInt ∧ (hl (q + 1) m).toInt < n := by
          rw [lgc_lt] at c1 c3
          rw [Int32.toInt_toInt64, nI_ti (by omega)] at c3
          simp at c1
          omega
        have ht : tdN n (hl (q + 1) m) = (hl (q + 1) m).toInt.toNat + 1 := if_pos hr
        have hx : (hl (q + 1) m).toInt32 = nI (hl (q + 1) m).toInt.toNat := by
          apply Int32.toInt_inj.mp
          rw [nI_ti (by omega), Int64.toInt_toInt32, Int.bmod_eq_of_le (by simp; omega) (by simp; omega)]
          omega
        have htn : tdN n (hl (q + 1) m) ≤ n := by
          unfold tdN
          split <;> omega
        have hxe := (show (hl (q + 1) m).toInt32 = aI (tdN n (hl (q + 1) m)) by rw [ht]; exact hx)
        refine w_cc (w_vst rfl rfl rfl (Nat.le_of_ble_eq_true rfl) (Nat.le_of_ble_eq_true rfl) (T_kd (A_T65 S))) (t_allowsE (d := d + 1) (A_T65 S) H hxe rfl (by omega)) ?_
        show lm_wp _ 68 69 [.ref 104, .ref q, .int (nI N), .int mk, .long (hl (q + 1) m), lm_jk, .int ((hl (q + 1) m).toInt32)] [.int (bz (alw T (tdN n (hl (q + 1) m)) (awk (Z 0)) (Z 0)))] (hi', hl, X) _
        refine w_zne (t := 74) rfl rfl (fun c5 => ?_) (fun c5 => ?_)
        · refine w_N 2 77 [.ref 104, .ref q, .int (nI N), .int mk, .long (hl (q + 1) m), lm_jk, .int ((hl (q + 1) m).toInt32)] [.int ((hl (q + 1) m).toInt32), .ref 104] rfl ?_
          refine w_ca (w_vst rfl rfl rfl (Nat.le_of_ble_eq_true rfl) (Nat.le_of_ble_eq_true rfl) (A_k S 104 (by decide))) (hxe ▸ z_go S H HZ (by omega)) ?_
          rintro _ _ ⟨hi2, rfl, rfl, HZ2, F2⟩
          show lm_wp _ 68 80 [.ref 104, .ref q, .int (nI N), .int mk, .long (hl (q + 1) m), lm_jk, .int ((hl (q + 1) m).toInt32)] [] (hi2, hl, X) _
          refine w_N 2 6 [.ref 104, .ref q, .int (nI N), .int (mk + 1), .long (hl (q + 1) m), lm_jk, .int ((hl (q + 1) m).toInt32)] [] rfl ?_
          have eb : jrZ T n (hl (q + 1)) m (j + 1) Z = jrZ T n (hl (q + 1)) (m + 1) j (goZ T (tdN n (hl (q + 1) m)) Z) := if_pos c5
          rw [eb] at hP
          exact ih (m + 1) hi2 _ _ _ _ _ (by omega) (by rw [e2, nI_succ]) (isT_fr F2 (by omega) H) HZ2 (fr_trans F F2) hP
        · refine w_N 1 73 [.ref 104, .ref q, .int (nI N), .int mk, .long (hl (q + 1) m), lm_jk, .int ((hl (q + 1) m).toInt32)] [.int mk] rfl ?_
          refine w_ri rfl rfl ?_
          refine hP _ _ ⟨hi', ?_, rfl, ?_, F⟩
          · rw [show jrZ T n (hl (q + 1)) m (j + 1) Z = (nI m, Z) from if_neg (by rw [c5]; decide), e2]
          · rw [show jrZ T n (hl (q + 1)) m (j + 1) Z = (nI m, Z) from if_neg (by rw [c5]; decide)]; exact HZ
theorem z_goByRow {d : Nat} {hi : Nat → Nat → Int32} {hl : Nat → Nat → Int64} {X : lm_X} (S : sh_A X) {n N q : Nat} {T : lm_T} (Q : sh_Sf X q) (hT : okT T n) (hN : N ≤ 40) {s : Int32} (H : isT hi 65 T n) (h10 : hi 65 10 = s) : lm_w (d + 3) 68 [.ref 104, .ref q, .int (nI N)] (hi, hl, X) (fun v h1 => ∃ hi', v = some (.int (jrZ T n (hl (q + 1)) 0 N (bgZ s)).1) ∧ h1 = (hi', hl, X) ∧ isZ hi' (jrZ T n (hl (q + 1)) 0 N (bgZ s)).2 ∧ fr 104 106 hi hi') := by
  refine lm_w_in (Nat.le_of_ble_eq_true rfl) ?_
  show lm_wp (d + 3) 68 0 [.ref 104, .ref q, .int (nI N), lm_jk, lm_jk, lm_jk, lm_jk] [] (hi, hl, X) _
  refine w_N 1 1 [.ref 104, .ref q, .int (nI N), lm_jk, lm_jk, lm_jk, lm_jk] [.ref 104] rfl ?_
  refine w_ca (w_vst rfl rfl rfl (Nat.le_of_ble_eq_true rfl) (Nat.le_of_ble_eq_true rfl) (A_k S 104 (by decide))) (lm_w_dep (d := d + 1) (by omega) (z_begin S h10)) ?_
  rintro _ _ ⟨hi1, rfl, rfl, HZ, F1⟩
  show lm_wp _ 68 4 [.ref 104, .ref q, .int (nI N), lm_jk, lm_jk, lm_jk, lm_jk] [] (hi1, hl, X) _
  refine w_N 2 6 [.ref 104, .ref q, .int (nI N), .int 0, lm_jk, lm_jk, lm_jk] [] rfl ?_
  refine z_gw1 (hi := hi1) S Q hT hN N 0 hi1 _ (bgZ s) _ _ _ (by omega) rfl (isT_fr F1 (by omega) H) HZ fr_rfl (fun v h1 ⟨hi2, q1, q2, q3, q4⟩ => ⟨hi2, q1, q2, q3, fr_trans F1 q4⟩)
