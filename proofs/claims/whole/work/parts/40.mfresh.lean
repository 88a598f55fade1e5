set_option maxRecDepth 16384
/-! the reference: fresh, runs -/
/-- the reference's objects: 123, perhaps 700 (tried) and 1000 (kept) -/
def sh_R (X : lm_X) : Prop := sh_M X 123 ∧ ((X.1 123 23 = none ∧ ∀ o, o < 49 → X.2.1 (700 + o) = 0) ∨ (X.1 123 23 = some 700 ∧ sh_M X 700)) ∧ ((X.1 123 22 = none ∧ ∀ o, o < 49 → X.2.1 (1000 + o) = 0) ∨ (X.1 123 22 = some 1000 ∧ sh_M X 1000)) ∧ X.2.2.2.2.1 ≤ 200 + (if X.1 123 23 = none then 0 else 49) + (if X.1 123 22 = none then 0 else 49) ∧ X.2.2.2.2.2 ≤ 20000 + (if X.1 123 23 = none then 0 else 1000) + (if X.1 123 22 = none then 0 else 1000)
/-- of X only lo .. lo + 48 and a field of 123 may have changed -/
def xF (lo fk : Nat) (X X' : lm_X) : Prop := (∀ a, (a < lo ∨ lo + 49 ≤ a) → X'.2.1 a = X.2.1 a ∧ X'.2.2.1 a = X.2.2.1 a ∧ ∀ k, (a ≠ 123 ∨ k ≠ fk) → X'.1 a k = X.1 a k)
theorem xF_rfl {lo fk : Nat} {X : lm_X} : xF lo fk X X := fun _ _ => ⟨rfl, rfl, fun _ _ => rfl⟩
theorem xF_M {lo fk b : Nat} {X X' : lm_X} (f : xF lo fk X X') (h123 : 123 ≤ b) (hb : b + 49 ≤ lo ∨ lo + 49 ≤ b) (hf : mRf.getD fk none = none) (S : sh_M X b) : sh_M X' b := by
  obtain ⟨s1, s2, s3, s4, s5, s6, s7, s8, s9⟩ := S
  have hk : ∀ k o, mRf.getD k none = some o → k ≠ fk := fun k o h z => by rw [z, hf] at h; cases h
  refine ⟨s1, fun o ho => ?_, fun o ho => ?_, fun k o hk1 => ?_, fun i hi => ?_, fun i hi => ?_, fun i hi => ?_, fun i hi => ?_, fun i hi => ?_⟩
  · rw [(f (b + o) (by omega)).1]; exact s2 o ho
  · rw [(f (b + o) (by omega)).2.1]; exact s3 o ho
  · rw [(f b (by omega)).2.2 k (Or.inr (hk k o hk1))]; exact s4 k o hk1
  · rw [(f (b + 4) (by omega)).2.2 i (by omega)]; exact s5 i hi
  · rw [(f (b + 18) (by omega)).2.2 i (by omega)]; exact s6 i hi
  · rw [(f (b + 30) (by omega)).2.2 i (by omega)]; exact s7 i hi
  · rw [(f (b + 36) (by omega)).2.2 i (by omega)]; exact s8 i hi
  · rw [(f (b + 43) (by omega)).2.2 i (by omega)]; exact s9 i hi
/-- a town whose gains are none yet -/
def zrR (R : Nat → Int32) : Nat → Int32 := fun k => if k = 20 ∨ k = 21 then 0 else R k
theorem okR_zr {R : Nat → Int32} {D : Nat} (h : okR R D) : okR (zrR R) D := h
theorem m_fr18 {d : Nat} {hi : Nat → Nat → Int32} {hl : Nat → Nat → Int64} {X : lm_X} {n : Nat} {T : lm_T} {R : Nat → Int32} (S : sh_M X 123) (S7 : sh_M X 700) (h23 : X.1 123 23 = some 700) (H : rT hi 123 T n) (HR : rR hi 123 R) (hk : R 15 = 0 ∨ R 15 = 1) : lm_wp (d + 2) 186 18 [.ref 123] [] (hi, hl, X) (fun v h1 => ∃ hi', v = some (.ref 700) ∧ h1 = (hi', hl, X) ∧ rT hi' 700 T n ∧ rR hi' 700 (zrR R) ∧ fr 700 749 hi hi') := by
  refine w_N 1 19 [.ref 123] [.ref 123] rfl ?_
  refine w_gr 700 rfl rfl rfl (M_kd S) h23 ?_
  refine w_N 1 23 [.ref 123] [.ref 123, .ref 700] rfl ?_
  refine w_ca (w_vst rfl rfl rfl (Nat.le_of_ble_eq_true rfl) (Nat.le_of_ble_eq_true rfl) (M_kd S7)) (m_takeFrom S7 S H HR hk (by decide)) ?_
  rintro _ _ ⟨hi1, rfl, rfl, H1, R1, Q1⟩
  show lm_wp _ 186 26 [.ref 123] [] (hi1, hl, X) _
  refine w_N 1 27 [.ref 123] [.ref 123] rfl ?_
  refine w_gr 700 rfl rfl rfl (M_kd S) h23 ?_
  refine w_gr 733 rfl rfl rfl (M_kd S7) (M_r S7 (k := 17) (o := 33) rfl) ?_
  refine w_N 2 35 [.ref 123] [.int 0, .int 0, .ref 733] rfl ?_
  refine w_is 0 rfl (show X.2.1 733 = 1 from M_k S7 33 (by decide)) (by decide) (show X.2.2.1 733 = 2 from M_l S7 33 (by decide)) rfl (by decide) (by decide) ?_
  refine w_N 1 37 [.ref 123] [.ref 123] rfl ?_
  refine w_gr 700 rfl rfl rfl (M_kd S) h23 ?_
  refine w_gr 733 rfl rfl rfl (M_kd S7) (M_r S7 (k := 17) (o := 33) rfl) ?_
  refine w_N 2 45 [.ref 123] [.int 0, .int 1, .ref 733] rfl ?_
  refine w_is 1 rfl (show X.2.1 733 = 1 from M_k S7 33 (by decide)) (by decide) (show X.2.2.1 733 = 2 from M_l S7 33 (by decide)) rfl (by decide) (by decide) ?_
  refine w_N 1 47 [.ref 123] [.ref 123] rfl ?_
  refine w_gr 700 rfl rfl rfl (M_kd S) h23 ?_
  refine w_ra rfl rfl ?_
  refine ⟨_, rfl, rfl, ?_, ?_, fun a ha => ?_⟩
  · have hn := rTle H
    refine ⟨fun k hk a ha => ?_, fun h hh w hw => ?_, ?_, hn⟩
    · rw [lm_up_na (by omega), lm_up_na (by omega)]; exact H1.1 k hk a ha
    · rw [lm_up_na (by omega), lm_up_na (by omega)]; exact H1.2.1 h hh w hw
    · rw [lm_up_na (by decide), lm_up_na (by decide)]; exact H1.2.2.1
  · obtain ⟨r1, r2, r3, r4, r5, r6, r7, r8⟩ := R1
    refine ⟨⟨?_, fun c hc => ?_⟩, ?_, ?_, ?_, fun h1 => ⟨?_, fun c hc => ?_⟩, ?_, ?_, ?_⟩
    · rw [lm_up_na (by decide), lm_up_na (by decide)]; exact r1.1
    · rw [lm_up_na (by decide), lm_up_na (by decide)]; exact r1.2 c hc
    · rw [lm_up_na (by decide), lm_up_na (by decide)]; exact r2
    · rw [lm_up_na (by decide), lm_up_na (by decide)]; exact r3
    · rw [lm_up_na (by decide), lm_up_na (by decide)]; exact r4
    · rw [lm_up_na (by decide), lm_up_na (by decide)]; exact (r5 h1).1
    · rw [lm_up_na (by decide), lm_up_na (by decide)]; exact (r5 h1).2 c hc
    · rw [lm_up_na (by decide), lm_up_na (by decide)]; exact r6
    · rw [lm_up_nk (by decide), lm_up_eq]; rfl
    · rw [lm_up_eq]; rfl
  · rw [lm_up_rw (by omega), lm_up_rw (by omega)]; exact Q1.1 a (by omega)
/-- fresh: what it makes and what it leaves -/
def frP (hi : Nat → Nat → Int32) (hl : Nat → Nat → Int64) (X : lm_X) (T : lm_T) (n : Nat) (R : Nat → Int32) : Option Value → lm_H → Prop := fun v h1 => ∃ hi' hl' X', v = some (.ref 700) ∧ h1 = (hi', hl', X') ∧ sh_M X' 123 ∧ sh_M X' 700 ∧ X'.1 123 23 = some 700 ∧ sh_R X' ∧ rT hi' 700 T n ∧ rR hi' 700 (zrR R) ∧ fr 700 749 hi hi' ∧ (∀ a, (a < 700 ∨ 749 ≤ a) → hl' a = hl a) ∧ xF 700 23 X X'
theorem m_fresh {d : Nat} {hi : Nat → Nat → Int32} {hl : Nat → Nat → Int64} {X : lm_X} {n : Nat} {T : lm_T} {R : Nat → Int32} (SR : sh_R X) (H : rT hi 123 T n) (HR : rR hi 123 R) (hk : R 15 = 0 ∨ R 15 = 1) : lm_w (d + 2) 186 [.ref 123] (hi, hl, X) (frP hi hl X T n R) := by
  obtain ⟨S, h7, h10, hnc, hns⟩ := id SR
  refine lm_w_in (Nat.le_of_ble_eq_true rfl) ?_
  show lm_wp (d + 2) 186 0 [.ref 123] [] (hi, hl, X) _
  refine w_N 1 1 [.ref 123] [.ref 123] rfl ?_
  rcases h7 with ⟨h23, hf⟩ | ⟨h23, S7⟩
  · refine w_g0 rfl rfl rfl (M_kd S) h23 ?_
    refine w_n0 rfl ?_
    refine w_N 1 8 [.ref 123] [.ref 123] rfl ?_
    refine w_new 700 rfl rfl rfl (hf 0 (by decide)) (by decide) (by decide) ?_
    refine w_N 1 12 [.ref 123] [.ref 700, .ref 700, .ref 123] rfl ?_
    refine w_ca rfl (m_init (h0 := (hi, hl, X)) (b := 700) (cn_new trivial) (fun o ho => hf o ho.2) (by decide)) ?_
    rintro _ ⟨hi1, hl1, X1⟩ ⟨rfl, C⟩
    show lm_wp _ 186 15 [.ref 123] [.ref 700, .ref 123] (hi1, hl1, X1) _
    have S7 := cn_sh (by decide) C
    obtain ⟨c1, -, -, -, -, -, -, -, -, -, -, c12, c13, c14⟩ := C
    have k123 : X1.2.1 123 = 10 + 7 := (c1 123 (by decide)).2.2.2.1.trans (M_kd S)
    refine w_pr rfl rfl rfl rfl k123 (by decide) ?_
    show lm_wp _ 186 18 [.ref 123] [] (hi1, hl1, lm_up X1.1 123 23 (some 700), X1.2) _
    have hF : xF 700 23 X (lm_up X1.1 123 23 (some 700), X1.2) := fun a ha => by
      obtain ⟨q1, q2, q3, q4, q5⟩ := c1 a (by omega)
      refine ⟨q4, q5, fun k hk => ?_⟩
      show lm_up X1.1 123 23 (some 700) a k = _
      by_cases z : a = 123
      · subst z; rw [lm_up_nk (by omega)]; exact congrFun q3 k
      · rw [lm_up_na z]; exact congrFun q3 k
    have S1' : sh_M (lm_up X1.1 123 23 (some 700), X1.2) 123 := xF_M hF (by decide) (by decide) rfl S
    have S7' : sh_M (lm_up X1.1 123 23 (some 700), X1.2) 700 := by
      obtain ⟨s1, s2, s3, s4, s5, s6, s7, s8, s9⟩ := S7
      have e : ∀ a k, a ≠ 123 → (lm_up X1.1 123 23 (some 700)) a k = X1.1 a k := fun a k h => lm_up_na h
      exact ⟨s1, s2, s3, fun k o h => (e _ _ (by decide)).trans (s4 k o h), fun i h => (e _ _ (by decide)).trans (s5 i h), fun i h => (e _ _ (by decide)).trans (s6 i h), fun i h => (e _ _ (by decide)).trans (s7 i h), fun i h => (e _ _ (by decide)).trans (s8 i h), fun i h => (e _ _ (by decide)).trans (s9 i h)⟩
    have F1 : fr 700 749 hi hi1 := fun a ha => (c1 a (by omega)).1
    have n22 : (lm_up X1.1 123 23 (some 700)) 123 22 = X.1 123 22 := (hF 123 (by decide)).2.2 22 (by decide)
    have n23 : (lm_up X1.1 123 23 (some 700)) 123 23 = some 700 := lm_up_eq
    refine lm_wp_mono (m_fr18 S1' S7' n23 (rT_fr F1 (by decide) H) (rR_fr F1 (by decide) HR) hk) ?_
    rintro v h ⟨hi2, rfl, rfl, H2, R2, F2⟩
    refine ⟨hi2, hl1, _, rfl, rfl, S1', S7', n23, ⟨S1', Or.inr ⟨n23, S7'⟩, ?_, ?_, ?_⟩, H2, R2, fr_trans F1 F2, fun a ha => (c1 a (by omega)).2.1, hF⟩
    · rcases h10 with ⟨a1, a2⟩ | ⟨a1, a2⟩
      · exact Or.inl ⟨n22.trans a1, fun o ho => (hF (1000 + o) (by omega)).1.trans (a2 o ho)⟩
      · exact Or.inr ⟨n22.trans a1, xF_M hF (by decide) (by decide) rfl a2⟩
    · show X1.2.2.2.2.1 ≤ 200 + (if (lm_up X1.1 123 23 (some 700)) 123 23 = none then 0 else 49) + (if (lm_up X1.1 123 23 (some 700)) 123 22 = none then 0 else 49)
      rw [n22, n23, if_neg (by simp)]
      rw [if_pos h23] at hnc
      have : X1.2.2.2.2.1 = X.2.2.2.2.1 + 49 := c13
      omega
    · show X1.2.2.2.2.2 ≤ 20000 + (if (lm_up X1.1 123 23 (some 700)) 123 23 = none then 0 else 1000) + (if (lm_up X1.1 123 23 (some 700)) 123 22 = none then 0 else 1000)
      rw [n22, n23, if_neg (by simp)]
      rw [if_pos h23] at hns
      have e : (mLns.take 49).sum ≤ 900 := by decide
      have : X1.2.2.2.2.2 = X.2.2.2.2.2 + (36 + (mLns.take 49).sum) := c14
      omega
  · refine w_gr 700 rfl rfl rfl (M_kd S) h23 ?_
    refine w_nn (t := 18) rfl rfl ?_
    refine lm_wp_mono (m_fr18 S S7 h23 H HR hk) ?_
    rintro v h ⟨hi1, rfl, rfl, H1, R1, F1⟩
    exact ⟨hi1, hl, X, rfl, rfl, S, S7, h23, SR, H1, R1, F1, fun _ _ => rfl, xF_rfl⟩
/-- days by two rules in the reference: the town's rest -/
def rnR (T : lm_T) (n : Nat) (K A : Nat → Nat) (R : Nat → Int32) : Nat → Nat → Int32
  | 0 => R
  | m + 1 => lvR T (chs T n (K (awk (rnR T n K A R m 10))) (A (awk (rnR T n K A R m 10))) (rnR T n K A R m 10)) (rnR T n K A R m)
def rnC (T : lm_T) (n : Nat) (K A : Nat → Nat) (R : Nat → Int32) (m : Nat) : Nat := chs T n (K (awk (rnR T n K A R m 10))) (A (awk (rnR T n K A R m 10))) (rnR T n K A R m 10)
def rnB (T : lm_T) (n : Nat) (K A : Nat → Nat) (R : Nat → Int32) : Nat → Int32
  | 0 => 0
  | m + 1 => if rnC T n K A R m = 0 then rnB T n K A R m else rnB T n K A R m + 1
def rnL (T : lm_T) (n : Nat) (K A : Nat → Nat) (R : Nat → Int32) : Nat → Int32
  | 0 => -1
  | m + 1 => aI (rnC T n K A R m)
theorem okR_rn {T : lm_T} {n D : Nat} {K A : Nat → Nat} {R : Nat → Int32} (hT : okT T n) (hn : n ≤ 10) (h : okR R D) : ∀ m, okR (rnR T n K A R m) (D + m) := by
  intro m
  induction m with
  | zero => exact h
  | succ m ih =>
    have hc := chs_ok T n (K (awk (rnR T n K A R m 10))) (A (awk (rnR T n K A R m 10))) (rnR T n K A R m 10) hn
    exact okR_lv hT hc.1 hc.2 ih
theorem m_ru1 {d : Nat} {hi : Nat → Nat → Int32} {hl : Nat → Nat → Int64} {X : lm_X} {b n D N : Nat} {T : lm_T} {K A : Nat → Nat} {R : Nat → Int32} (S : sh_M X b) (hT : okT T n) (hO : okR R D) (hD : D + N + 10 < 2147483647) (hN : N < 1000) (hK : ∀ h, h < 2 → 1 ≤ K h ∧ K h ≤ 6 ∧ A h ≤ 99) {P : Option Value → lm_H → Prop} (k : ∀ (c : Int32) (hi' : Nat → Nat → Int32), rT hi' b T n → rR hi' b (rnR T n K A R N) → rQ hi hi' b → hi' b 31 = rnB T n K A R N → hi' b 32 = rnL T n K A R N → lm_wp (d + 8) 187 85 [.ref b, .int (nI (K 0)), .int (nI (A 0)), .int (nI (K 1)), .int (nI (A 1)), .int (nI N), .int c] [] (hi', hl, X) P) : ∀ (j m : Nat) (hi' : Nat → Nat → Int32) (mk : Int32), m + j = N → (mk = nI m) → (rT hi' b T n) → (rR hi' b (rnR T n K A R m)) → (rQ hi hi' b) → (hi' b 31 = rnB T n K A R m) → (hi' b 32 = rnL T n K A R m) → lm_wp (d + 8) 187 13 [.ref b, .int (nI (K 0)), .int (nI (A 0)), .int (nI (K 1)), .int (nI (A 1)), .int (nI N), .int mk] [] (hi', hl, X) P := by
  intro j
  induction j with
  | zero =>
    intro m hi' mk hm e2' H0 HR0 F0 B0 L0
    refine w_N 2 17 [.ref b, .int (nI (K 0)), .int (nI (A 0)), .int (nI (K 1)), .int (nI (A 1)), .int (nI N), .int mk] [.int (nI N), .int mk] rfl ?_
    refine w_icmp_ge_t (t := 85) rfl rfl (by rw [e2', show m = N by omega]; exact fun z => Int32.lt_irrefl z) ?_
    obtain rfl : m = N := by omega
    exact k _ hi' H0 HR0 F0 B0 L0
  | succ j ih =>
    intro m hi' mk hm e2' H0 HR0 F0 B0 L0
    have hn10 := rTle H0
    have hO0 := okR_rn (K := K) (A := A) hT hn10 hO m
    have H14 : hi' b 14 = nI (D + m) := HR0.2.2.1.trans hO0.2.2.1
    have hw2 := awk_lt (rnR T n K A R m 10)
    refine w_N 2 17 [.ref b, .int (nI (K 0)), .int (nI (A 0)), .int (nI (K 1)), .int (nI (A 1)), .int (nI N), .int mk] [.int (nI N), .int mk] rfl ?_
    refine w_icmp_ge_f (t := 85) rfl rfl (by rw [e2']; exact nI_lt (by omega) (by omega)) ?_
    refine w_N 2 22 [.ref b, .int (nI (K 0)), .int (nI (A 0)), .int (nI (K 1)), .int (nI (A 1)), .int (nI N), .int mk] [.ref b, .ref b] rfl ?_
    refine w_gi (v := nI (D + m)) rfl rfl rfl (M_kd S) (H14) ?_
    refine w_N 1 26 [.ref b, .int (nI (K 0)), .int (nI (A 0)), .int (nI (K 1)), .int (nI (A 1)), .int (nI N), .int mk] [.int 2, .int (nI (D + m)), .ref b] rfl ?_
    refine w_rem rfl (by decide) ?_
    rw [hrem (s := rnR T n K A R m 10) hO0.2.2.2.1 (by omega)]
    refine w_if_ne (t := 39) rfl rfl (fun c1 => ?_) (fun c1 => ?_)
    · refine w_N 3 43 [.ref b, .int (nI (K 0)), .int (nI (A 0)), .int (nI (K 1)), .int (nI (A 1)), .int (nI N), .int mk] [.int (nI (A 1)), .int (nI (K 1)), .ref b, .ref b] rfl ?_
      have hz : awk (rnR T n K A R m 10) = 1 := by
        have q := (nI_inj (a := awk (rnR T n K A R m 10)) (b := 0) (by omega) (by decide))
        have q2 := awk_lt (rnR T n K A R m 10)
        have q3 := c1
        have q4 : nI 0 = 0 := rfl
        rw [q4] at q
        have : awk (rnR T n K A R m 10) ≠ 0 := fun z => q3 (q.mpr z)
        omega
      have eC : rnC T n K A R m = chs T n (K 1) (A 1) (rnR T n K A R m 10) := by unfold rnC; rw [hz]
      refine w_ca (w_vst rfl rfl rfl (Nat.le_of_ble_eq_true rfl) (Nat.le_of_ble_eq_true rfl) (M_kd S)) (m_chosen (d := d) (kd := K 1) S H0 HR0.1 hT H14 hO0.2.2.2.1 (by omega) (hK 1 (by decide)).2.2 (hK 1 (by decide)).1 (hK 1 (by decide)).2.1 rfl rfl) ?_
      rintro _ _ ⟨hi1, rfl, rfl, F1⟩
      rw [← eC]
      have B1 : hi1 b 31 = rnB T n K A R m := by rw [F1 b (by omega)]; exact B0
      show lm_wp _ 187 46 [.ref b, .int (nI (K 0)), .int (nI (A 0)), .int (nI (K 1)), .int (nI (A 1)), .int (nI N), .int mk] [.int (aI (rnC T n K A R m)), .ref b] (hi1, hl, X) _
      refine w_pi rfl rfl rfl rfl (M_kd S) (M_64 S) ?_
      refine w_N 2 51 [.ref b, .int (nI (K 0)), .int (nI (A 0)), .int (nI (K 1)), .int (nI (A 1)), .int (nI N), .int mk] [.ref b, .ref b] rfl ?_
      refine w_gi (v := rnB T n K A R m) rfl rfl rfl (M_kd S) ((lm_up_nk (by decide)).trans (B1)) ?_
      refine w_N 1 55 [.ref b, .int (nI (K 0)), .int (nI (A 0)), .int (nI (K 1)), .int (nI (A 1)), .int (nI N), .int mk] [.ref b, .int (rnB T n K A R m), .ref b] rfl ?_
      refine w_gi (v := aI (rnC T n K A R m)) rfl rfl rfl (M_kd S) (lm_up_eq) ?_
      refine w_N 1 59 [.ref b, .int (nI (K 0)), .int (nI (A 0)), .int (nI (K 1)), .int (nI (A 1)), .int (nI N), .int mk] [.int (-1), .int (aI (rnC T n K A R m)), .int (rnB T n K A R m), .ref b] rfl ?_
      refine w_icmp_ne (t := 66) rfl rfl (fun c2 => ?_) (fun c2 => ?_)
      · refine w_N 2 68 [.ref b, .int (nI (K 0)), .int (nI (A 0)), .int (nI (K 1)), .int (nI (A 1)), .int (nI N), .int mk] [.int ((rnB T n K A R m) + 1), .ref b] rfl ?_
        refine w_pi rfl rfl rfl rfl (M_kd S) (M_64 S) ?_
        refine w_N 2 73 [.ref b, .int (nI (K 0)), .int (nI (A 0)), .int (nI (K 1)), .int (nI (A 1)), .int (nI N), .int mk] [.ref b, .ref b] rfl ?_
        refine w_gi (v := aI (rnC T n K A R m)) rfl rfl rfl (M_kd S) ((lm_up_nk (by decide)).trans (lm_up_eq)) ?_
        obtain ⟨hi2, e2⟩ : ∃ q, q = lm_up (lm_up hi1 b 32 (aI (rnC T n K A R m))) b 31 ((rnB T n K A R m) + 1) := ⟨_, rfl⟩
        rw [← e2]
        have a2 : ∀ a, a ≠ b → hi2 a = hi1 a := fun a ha => by rw [e2, lm_up_rw ha, lm_up_rw ha]
        have b2 : ∀ j, j ≠ 31 → j ≠ 32 → hi2 b j = hi1 b j := fun j j1 j2 => by rw [e2, lm_up_nk j1, lm_up_nk j2]
        have B2 : hi2 b 31 = (rnB T n K A R m) + 1 := by rw [e2, lm_up_eq]
        have L2 : hi2 b 32 = aI (rnC T n K A R m) := by rw [e2, lm_up_nk (by decide), lm_up_eq]
        have H1 := rT_fr F1 (by omega) H0
        have R1 := rR_fr F1 (by omega) HR0
        have H2 : rT hi2 b T n := by
          refine ⟨fun k hk a ha => ?_, fun h hh w hw => ?_, ?_, rTle H0⟩
          · rw [a2 _ (by omega)]; exact H1.1 k hk a ha
          · rw [a2 _ (by omega)]; exact H1.2.1 h hh w hw
          · rw [b2 _ (by decide) (by decide)]; exact H1.2.2.1
        have R2 : rR hi2 b (rnR T n K A R m) := by
          unfold rR rS
          rw [b2 12 (by decide) (by decide), b2 14 (by decide) (by decide), b2 15 (by decide) (by decide), b2 18 (by decide) (by decide), b2 19 (by decide) (by decide), b2 21 (by decide) (by decide), a2 (b + 29) (by omega), a2 (b + 33) (by omega), a2 (b + 34) (by omega)]
          exact R1
        have Q2 : rQ hi1 hi2 b := ⟨fun a ha => a2 a (by omega), b2 8 (by decide) (by decide)⟩
        clear e2
        have hc := chs_ok T n (K (awk (rnR T n K A R m 10))) (A (awk (rnR T n K A R m 10))) (rnR T n K A R m 10) hn10
        refine w_ca (w_vst rfl rfl rfl (Nat.le_of_ble_eq_true rfl) (Nat.le_of_ble_eq_true rfl) (M_kd S)) (lm_w_dep (d := d + 2) (by omega) (m_goes (i := rnC T n K A R m) S H2 R2 hT hO0 (by omega) hc.1 hc.2 rfl)) ?_
        rintro _ _ ⟨hi3, rfl, rfl, H3, R3, Q3, q3⟩
        show lm_wp _ 187 79 [.ref b, .int (nI (K 0)), .int (nI (A 0)), .int (nI (K 1)), .int (nI (A 1)), .int (nI N), .int mk] [] (hi3, hl, X) _
        refine w_N 2 13 [.ref b, .int (nI (K 0)), .int (nI (A 0)), .int (nI (K 1)), .int (nI (A 1)), .int (nI N), .int (mk + 1)] [] rfl ?_
        refine ih (m + 1) hi3 _ (by omega) (by rw [e2', nI_succ]) H3 R3 (rQ_trans F0 (rQ_trans (rQ_fr F1 (by omega)) (rQ_trans Q2 ⟨fun a ha => Q3 a (by omega) (by omega) (by omega) (by omega), q3 8 (by decide) (by decide) (by decide) (by decide)⟩))) ?_ ?_
        · rw [q3 31 (by decide) (by decide) (by decide) (by decide), B2]
          show _ = if rnC T n K A R m = 0 then rnB T n K A R m else rnB T n K A R m + 1
          have hz0 := aI_none (i := rnC T n K A R m) (by have : rnC T n K A R m ≤ n := hc.1; omega)
          rw [if_neg (fun z => c2 (hz0.mpr z))]
        · rw [q3 32 (by decide) (by decide) (by decide) (by decide), L2]; rfl
      · refine w_N 3 68 [.ref b, .int (nI (K 0)), .int (nI (A 0)), .int (nI (K 1)), .int (nI (A 1)), .int (nI N), .int mk] [.int ((rnB T n K A R m) + 0), .ref b] rfl ?_
        refine w_pi rfl rfl rfl rfl (M_kd S) (M_64 S) ?_
        refine w_N 2 73 [.ref b, .int (nI (K 0)), .int (nI (A 0)), .int (nI (K 1)), .int (nI (A 1)), .int (nI N), .int mk] [.ref b, .ref b] rfl ?_
        refine w_gi (v := aI (rnC T n K A R m)) rfl rfl rfl (M_kd S) ((lm_up_nk (by decide)).trans (lm_up_eq)) ?_
        obtain ⟨hi2, e2⟩ : ∃ q, q = lm_up (lm_up hi1 b 32 (aI (rnC T n K A R m))) b 31 ((rnB T n K A R m) + 0) := ⟨_, rfl⟩
        rw [← e2]
        have a2 : ∀ a, a ≠ b → hi2 a = hi1 a := fun a ha => by rw [e2, lm_up_rw ha, lm_up_rw ha]
        have b2 : ∀ j, j ≠ 31 → j ≠ 32 → hi2 b j = hi1 b j := fun j j1 j2 => by rw [e2, lm_up_nk j1, lm_up_nk j2]
        have B2 : hi2 b 31 = (rnB T n K A R m) + 0 := by rw [e2, lm_up_eq]
        have L2 : hi2 b 32 = aI (rnC T n K A R m) := by rw [e2, lm_up_nk (by decide), lm_up_eq]
        have H1 := rT_fr F1 (by omega) H0
        have R1 := rR_fr F1 (by omega) HR0
        have H2 : rT hi2 b T n := by
          refine ⟨fun k hk a ha => ?_, fun h hh w hw => ?_, ?_, rTle H0⟩
          · rw [a2 _ (by omega)]; exact H1.1 k hk a ha
          · rw [a2 _ (by omega)]; exact H1.2.1 h hh w hw
          · rw [b2 _ (by decide) (by decide)]; exact H1.2.2.1
        have R2 : rR hi2 b (rnR T n K A R m) := by
          unfold rR rS
          rw [b2 12 (by decide) (by decide), b2 14 (by decide) (by decide), b2 15 (by decide) (by decide), b2 18 (by decide) (by decide), b2 19 (by decide) (by decide), b2 21 (by decide) (by decide), a2 (b + 29) (by omega), a2 (b + 33) (by omega), a2 (b + 34) (by omega)]
          exact R1
        have Q2 : rQ hi1 hi2 b := ⟨fun a ha => a2 a (by omega), b2 8 (by decide) (by decide)⟩
        clear e2
        have hc := chs_ok T n (K (awk (rnR T n K A R m 10))) (A (awk (rnR T n K A R m 10))) (rnR T n K A R m 10) hn10
        refine w_ca (w_vst rfl rfl rfl (Nat.le_of_ble_eq_true rfl) (Nat.le_of_ble_eq_true rfl) (M_kd S)) (lm_w_dep (d := d + 2) (by omega) (m_goes (i := rnC T n K A R m) S H2 R2 hT hO0 (by omega) hc.1 hc.2 rfl)) ?_
        rintro _ _ ⟨hi3, rfl, rfl, H3, R3, Q3, q3⟩
        show lm_wp _ 187 79 [.ref b, .int (nI (K 0)), .int (nI (A 0)), .int (nI (K 1)), .int (nI (A 1)), .int (nI N), .int mk] [] (hi3, hl, X) _
        refine w_N 2 13 [.ref b, .int (nI (K 0)), .int (nI (A 0)), .int (nI (K 1)), .int (nI (A 1)), .int (nI N), .int (mk + 1)] [] rfl ?_
        refine ih (m + 1) hi3 _ (by omega) (by rw [e2', nI_succ]) H3 R3 (rQ_trans F0 (rQ_trans (rQ_fr F1 (by omega)) (rQ_trans Q2 ⟨fun a ha => Q3 a (by omega) (by omega) (by omega) (by omega), q3 8 (by decide) (by decide) (by decide) (by decide)⟩))) ?_ ?_
        · rw [q3 31 (by decide) (by decide) (by decide) (by decide), B2]
          show _ = if rnC T n K A R m = 0 then rnB T n K A R m else rnB T n K A R m + 1
          have hz0 := aI_none (i := rnC T n K A R m) (by have : rnC T n K A R m ≤ n := hc.1; omega)
          rw [if_pos (hz0.mp c2), Int32.add_zero]
        · rw [q3 32 (by decide) (by decide) (by decide) (by decide), L2]; rfl
    · refine w_N 3 33 [.ref b, .int (nI (K 0)), .int (nI (A 0)), .int (nI (K 1)), .int (nI (A 1)), .int (nI N), .int mk] [.int (nI (A 0)), .int (nI (K 0)), .ref b, .ref b] rfl ?_
      have hz : awk (rnR T n K A R m 10) = 0 := by
        have q := (nI_inj (a := awk (rnR T n K A R m 10)) (b := 0) (by omega) (by decide))
        have q2 := awk_lt (rnR T n K A R m 10)
        have q3 := c1
        have q4 : nI 0 = 0 := rfl
        rw [q4] at q
        exact q.mp q3
      have eC : rnC T n K A R m = chs T n (K 0) (A 0) (rnR T n K A R m 10) := by unfold rnC; rw [hz]
      refine w_ca (w_vst rfl rfl rfl (Nat.le_of_ble_eq_true rfl) (Nat.le_of_ble_eq_true rfl) (M_kd S)) (m_chosen (d := d) (kd := K 0) S H0 HR0.1 hT H14 hO0.2.2.2.1 (by omega) (hK 0 (by decide)).2.2 (hK 0 (by decide)).1 (hK 0 (by decide)).2.1 rfl rfl) ?_
      rintro _ _ ⟨hi1, rfl, rfl, F1⟩
      rw [← eC]
      have B1 : hi1 b 31 = rnB T n K A R m := by rw [F1 b (by omega)]; exact B0
      show lm_wp _ 187 36 [.ref b, .int (nI (K 0)), .int (nI (A 0)), .int (nI (K 1)), .int (nI (A 1)), .int (nI N), .int mk] [.int (aI (rnC T n K A R m)), .ref b] (hi1, hl, X) _
      refine w_N 1 46 [.ref b, .int (nI (K 0)), .int (nI (A 0)), .int (nI (K 1)), .int (nI (A 1)), .int (nI N), .int mk] [.int (aI (rnC T n K A R m)), .ref b] rfl ?_
      refine w_pi rfl rfl rfl rfl (M_kd S) (M_64 S) ?_
      refine w_N 2 51 [.ref b, .int (nI (K 0)), .int (nI (A 0)), .int (nI (K 1)), .int (nI (A 1)), .int (nI N), .int mk] [.ref b, .ref b] rfl ?_
      refine w_gi (v := rnB T n K A R m) rfl rfl rfl (M_kd S) ((lm_up_nk (by decide)).trans (B1)) ?_
      refine w_N 1 55 [.ref b, .int (nI (K 0)), .int (nI (A 0)), .int (nI (K 1)), .int (nI (A 1)), .int (nI N), .int mk] [.ref b, .int (rnB T n K A R m), .ref b] rfl ?_
      refine w_gi (v := aI (rnC T n K A R m)) rfl rfl rfl (M_kd S) (lm_up_eq) ?_
      refine w_N 1 59 [.ref b, .int (nI (K 0)), .int (nI (A 0)), .int (nI (K 1)), .int (nI (A 1)), .int (nI N), .int mk] [.int (-1), .int (aI (rnC T n K A R m)), .int (rnB T n K A R m), .ref b] rfl ?_
      refine w_icmp_ne (t := 66) rfl rfl (fun c3 => ?_) (fun c3 => ?_)
      · refine w_N 2 68 [.ref b, .int (nI (K 0)), .int (nI (A 0)), .int (nI (K 1)), .int (nI (A 1)), .int (nI N), .int mk] [.int ((rnB T n K A R m) + 1), .ref b] rfl ?_
        refine w_pi rfl rfl rfl rfl (M_kd S) (M_64 S) ?_
        refine w_N 2 73 [.ref b, .int (nI (K 0)), .int (nI (A 0)), .int (nI (K 1)), .int (nI (A 1)), .int (nI N), .int mk] [.ref b, .ref b] rfl ?_
        refine w_gi (v := aI (rnC T n K A R m)) rfl rfl rfl (M_kd S) ((lm_up_nk (by decide)).trans (lm_up_eq)) ?_
        obtain ⟨hi2, e2⟩ : ∃ q, q = lm_up (lm_up hi1 b 32 (aI (rnC T n K A R m))) b 31 ((rnB T n K A R m) + 1) := ⟨_, rfl⟩
        rw [← e2]
        have a2 : ∀ a, a ≠ b → hi2 a = hi1 a := fun a ha => by rw [e2, lm_up_rw ha, lm_up_rw ha]
        have b2 : ∀ j, j ≠ 31 → j ≠ 32 → hi2 b j = hi1 b j := fun j j1 j2 => by rw [e2, lm_up_nk j1, lm_up_nk j2]
        have B2 : hi2 b 31 = (rnB T n K A R m) + 1 := by rw [e2, lm_up_eq]
        have L2 : hi2 b 32 = aI (rnC T n K A R m) := by rw [e2, lm_up_nk (by decide), lm_up_eq]
        have H1 := rT_fr F1 (by omega) H0
        have R1 := rR_fr F1 (by omega) HR0
        have H2 : rT hi2 b T n := by
          refine ⟨fun k hk a ha => ?_, fun h hh w hw => ?_, ?_, rTle H0⟩
          · rw [a2 _ (by omega)]; exact H1.1 k hk a ha
          · rw [a2 _ (by omega)]; exact H1.2.1 h hh w hw
          · rw [b2 _ (by decide) (by decide)]; exact H1.2.2.1
        have R2 : rR hi2 b (rnR T n K A R m) := by
          unfold rR rS
          rw [b2 12 (by decide) (by decide), b2 14 (by decide) (by decide), b2 15 (by decide) (by decide), b2 18 (by decide) (by decide), b2 19 (by decide) (by decide), b2 21 (by decide) (by decide), a2 (b + 29) (by omega), a2 (b + 33) (by omega), a2 (b + 34) (by omega)]
          exact R1
        have Q2 : rQ hi1 hi2 b := ⟨fun a ha => a2 a (by omega), b2 8 (by decide) (by decide)⟩
        clear e2
        have hc := chs_ok T n (K (awk (rnR T n K A R m 10))) (A (awk (rnR T n K A R m 10))) (rnR T n K A R m 10) hn10
        refine w_ca (w_vst rfl rfl rfl (Nat.le_of_ble_eq_true rfl) (Nat.le_of_ble_eq_true rfl) (M_kd S)) (lm_w_dep (d := d + 2) (by omega) (m_goes (i := rnC T n K A R m) S H2 R2 hT hO0 (by omega) hc.1 hc.2 rfl)) ?_
        rintro _ _ ⟨hi3, rfl, rfl, H3, R3, Q3, q3⟩
        show lm_wp _ 187 79 [.ref b, .int (nI (K 0)), .int (nI (A 0)), .int (nI (K 1)), .int (nI (A 1)), .int (nI N), .int mk] [] (hi3, hl, X) _
        refine w_N 2 13 [.ref b, .int (nI (K 0)), .int (nI (A 0)), .int (nI (K 1)), .int (nI (A 1)), .int (nI N), .int (mk + 1)] [] rfl ?_
        refine ih (m + 1) hi3 _ (by omega) (by rw [e2', nI_succ]) H3 R3 (rQ_trans F0 (rQ_trans (rQ_fr F1 (by omega)) (rQ_trans Q2 ⟨fun a ha => Q3 a (by omega) (by omega) (by omega) (by omega), q3 8 (by decide) (by decide) (by decide) (by decide)⟩))) ?_ ?_
        · rw [q3 31 (by decide) (by decide) (by decide) (by decide), B2]
          show _ = if rnC T n K A R m = 0 then rnB T n K A R m else rnB T n K A R m + 1
          have hz0 := aI_none (i := rnC T n K A R m) (by have : rnC T n K A R m ≤ n := hc.1; omega)
          rw [if_neg (fun z => c3 (hz0.mpr z))]
        · rw [q3 32 (by decide) (by decide) (by decide) (by decide), L2]; rfl
      · refine w_N 3 68 [.ref b, .int (nI (K 0)), .int (nI (A 0)), .int (nI (K 1)), .int (nI (A 1)), .int (nI N), .int mk] [.int ((rnB T n K A R m) + 0), .ref b] rfl ?_
        refine w_pi rfl rfl rfl rfl (M_kd S) (M_64 S) ?_
        refine w_N 2 73 [.ref b, .int (nI (K 0)), .int (nI (A 0)), .int (nI (K 1)), .int (nI (A 1)), .int (nI N), .int mk] [.ref b, .ref b] rfl ?_
        refine w_gi (v := aI (rnC T n K A R m)) rfl rfl rfl (M_kd S) ((lm_up_nk (by decide)).trans (lm_up_eq)) ?_
        obtain ⟨hi2, e2⟩ : ∃ q, q = lm_up (lm_up hi1 b 32 (aI (rnC T n K A R m))) b 31 ((rnB T n K A R m) + 0) := ⟨_, rfl⟩
        rw [← e2]
        have a2 : ∀ a, a ≠ b → hi2 a = hi1 a := fun a ha => by rw [e2, lm_up_rw ha, lm_up_rw ha]
        have b2 : ∀ j, j ≠ 31 → j ≠ 32 → hi2 b j = hi1 b j := fun j j1 j2 => by rw [e2, lm_up_nk j1, lm_up_nk j2]
        have B2 : hi2 b 31 = (rnB T n K A R m) + 0 := by rw [e2, lm_up_eq]
        have L2 : hi2 b 32 = aI (rnC T n K A R m) := by rw [e2, lm_up_nk (by decide), lm_up_eq]
        have H1 := rT_fr F1 (by omega) H0
        have R1 := rR_fr F1 (by omega) HR0
        have H2 : rT hi2 b T n := by
          refine ⟨fun k hk a ha => ?_, fun h hh w hw => ?_, ?_, rTle H0⟩
          · rw [a2 _ (by omega)]; exact H1.1 k hk a ha
          · rw [a2 _ (by omega)]; exact H1.2.1 h hh w hw
          · rw [b2 _ (by decide) (by decide)]; exact H1.2.2.1
        have R2 : rR hi2 b (rnR T n K A R m) := by
          unfold rR rS
          rw [b2 12 (by decide) (by decide), b2 14 (by decide) (by decide), b2 15 (by decide) (by decide), b2 18 (by decide) (by decide), b2 19 (by decide) (by decide), b2 21 (by decide) (by decide), a2 (b + 29) (by omega), a2 (b + 33) (by omega), a2 (b + 34) (by omega)]
          exact R1
        have Q2 : rQ hi1 hi2 b := ⟨fun a ha => a2 a (by omega), b2 8 (by decide) (by decide)⟩
        clear e2
        have hc := chs_ok T n (K (awk (rnR T n K A R m 10))) (A (awk (rnR T n K A R m 10))) (rnR T n K A R m 10) hn10
        refine w_ca (w_vst rfl rfl rfl (Nat.le_of_ble_eq_true rfl) (Nat.le_of_ble_eq_true rfl) (M_kd S)) (lm_w_dep (d := d + 2) (by omega) (m_goes (i := rnC T n K A R m) S H2 R2 hT hO0 (by omega) hc.1 hc.2 rfl)) ?_
        rintro _ _ ⟨hi3, rfl, rfl, H3, R3, Q3, q3⟩
        show lm_wp _ 187 79 [.ref b, .int (nI (K 0)), .int (nI (A 0)), .int (nI (K 1)), .int (nI (A 1)), .int (nI N), .int mk] [] (hi3, hl, X) _
        refine w_N 2 13 [.ref b, .int (nI (K 0)), .int (nI (A 0)), .int (nI (K 1)), .int (nI (A 1)), .int (nI N), .int (mk + 1)] [] rfl ?_
        refine ih (m + 1) hi3 _ (by omega) (by rw [e2', nI_succ]) H3 R3 (rQ_trans F0 (rQ_trans (rQ_fr F1 (by omega)) (rQ_trans Q2 ⟨fun a ha => Q3 a (by omega) (by omega) (by omega) (by omega), q3 8 (by decide) (by decide) (by decide) (by decide)⟩))) ?_ ?_
        · rw [q3 31 (by decide) (by decide) (by decide) (by decide), B2]
          show _ = if rnC T n K A R m = 0 then rnB T n K A R m else rnB T n K A R m + 1
          have hz0 := aI_none (i := rnC T n K A R m) (by have : rnC T n K A R m ≤ n := hc.1; omega)
          rw [if_pos (hz0.mp c3), Int32.add_zero]
        · rw [q3 32 (by decide) (by decide) (by decide) (by decide), L2]; rfl
theorem m_runs {d : Nat} {hi : Nat → Nat → Int32} {hl : Nat → Nat → Int64} {X : lm_X} {b n D N : Nat} {T : lm_T} {K A : Nat → Nat} {R : Nat → Int32} (S : sh_M X b) (hT : okT T n) (hO : okR R D) (hD : D + N + 10 < 2147483647) (hN : N < 1000) (hK : ∀ h, h < 2 → 1 ≤ K h ∧ K h ≤ 6 ∧ A h ≤ 99) (H : rT hi b T n) (HR : rR hi b R) : lm_w (d + 8) 187 [.ref b, .int (nI (K 0)), .int (nI (A 0)), .int (nI (K 1)), .int (nI (A 1)), .int (nI N)] (hi, hl, X) (fun v h1 => ∃ hi', v = none ∧ h1 = (hi', hl, X) ∧ rT hi' b T n ∧ rR hi' b (rnR T n K A R N) ∧ rQ hi hi' b ∧ hi' b 31 = rnB T n K A R N ∧ hi' b 32 = rnL T n K A R N) := by
  refine lm_w_in (Nat.le_of_ble_eq_true rfl) ?_
  show lm_wp (d + 8) 187 0 [.ref b, .int (nI (K 0)), .int (nI (A 0)), .int (nI (K 1)), .int (nI (A 1)), .int (nI N), lm_jk] [] (hi, hl, X) _
  refine w_N 2 2 [.ref b, .int (nI (K 0)), .int (nI (A 0)), .int (nI (K 1)), .int (nI (A 1)), .int (nI N), lm_jk] [.int 0, .ref b] rfl ?_
  refine w_pi rfl rfl rfl rfl (M_kd S) (M_64 S) ?_
  refine w_N 2 7 [.ref b, .int (nI (K 0)), .int (nI (A 0)), .int (nI (K 1)), .int (nI (A 1)), .int (nI N), lm_jk] [.int (-1), .ref b] rfl ?_
  refine w_pi rfl rfl rfl rfl (M_kd S) (M_64 S) ?_
  refine w_N 2 13 [.ref b, .int (nI (K 0)), .int (nI (A 0)), .int (nI (K 1)), .int (nI (A 1)), .int (nI N), .int 0] [] rfl ?_
  have Q0 : rQ hi (lm_up (lm_up hi b 31 0) b 32 (-1)) b := ⟨fun a ha => by rw [lm_up_rw (by omega), lm_up_rw (by omega)], by rw [lm_up_nk (by decide), lm_up_nk (by decide)]⟩
  refine m_ru1 (hi := hi) (K := K) (A := A) (R := R) (T := T) (n := n) S hT hO hD hN hK (fun c hi2 q1 q2 q3 q4 q5 => ?_) N 0 _ _ (by omega) rfl ?_ ?_ Q0 ?_ ?_
  · refine w_rv rfl rfl ?_
    exact ⟨hi2, rfl, rfl, q1, q2, q3, q4, q5⟩
  · have hn := rTle H
    refine ⟨fun k hk a ha => ?_, fun h hh w hw => ?_, ?_, hn⟩
    · rw [lm_up_na (by omega), lm_up_na (by omega)]; exact H.1 k hk a ha
    · rw [lm_up_na (by omega), lm_up_na (by omega)]; exact H.2.1 h hh w hw
    · rw [lm_up_nk (by decide), lm_up_nk (by decide)]; exact H.2.2.1
  · show rR _ b R
    refine ⟨⟨?_, fun c hc => ?_⟩, ?_, ?_, ?_, fun h1 => ⟨?_, fun c hc => ?_⟩, ?_, ?_, ?_⟩
    · rw [lm_up_nk (by decide), lm_up_nk (by decide)]; exact HR.1.1
    · rw [lm_up_na (by omega), lm_up_na (by omega)]; exact HR.1.2 c hc
    · rw [lm_up_nk (by decide), lm_up_nk (by decide)]; exact HR.2.1
    · rw [lm_up_nk (by decide), lm_up_nk (by decide)]; exact HR.2.2.1
    · rw [lm_up_nk (by decide), lm_up_nk (by decide)]; exact HR.2.2.2.1
    · rw [lm_up_nk (by decide), lm_up_nk (by decide)]; exact (HR.2.2.2.2.1 h1).1
    · rw [lm_up_na (by omega), lm_up_na (by omega)]; exact (HR.2.2.2.2.1 h1).2 c hc
    · rw [lm_up_nk (by decide), lm_up_nk (by decide)]; exact HR.2.2.2.2.2.1
    · rw [lm_up_na (by omega), lm_up_na (by omega)]; exact HR.2.2.2.2.2.2.1
    · rw [lm_up_na (by omega), lm_up_na (by omega)]; exact HR.2.2.2.2.2.2.2
  · rw [lm_up_nk (by decide), lm_up_eq]; rfl
  · rw [lm_up_eq]; rfl
