set_option maxRecDepth 16384
/-! the reference: gainBy, greatest, findBest, chosen -/
theorem fr_emp {lo : Nat} {hi hi' : Nat → Nat → Int32} (f : fr lo lo hi hi') : hi' = hi := by
  funext a
  exact f a (by omega)
theorem rS_next {hi : Nat → Nat → Int32} {b : Nat} {s : Int32} (H : rS hi b s) : rS hi b (s_next s) := ⟨by rw [marks_next]; exact H.1, fun c hc => by rw [count_next hc]; exact H.2 c hc⟩
theorem one_sub {s : Int32} : (1 : Int32) - nI (awk s) = nI (1 - awk s) := nI_sub (a := 1) (by have := awk_lt s; omega)
theorem hrem {s : Int32} {D : Nat} (h : awk s = D % 2) (hD : D < 2147483648) : nI D - nI D / 2 * 2 = nI (awk s) := by rw [rem2 hD, h]
theorem mtv_bd {T : lm_T} {n : Nat} {s : Int32} (hT : okT T n) (both : Bool) (i : Nat) : bd (mtv T s both i) 26136 := by
  unfold mtv
  have h1 := awk_lt s
  have a1 := val_bd (s := aft T i s) hT h1
  cases both
  · simp only [Bool.false_eq_true, if_false, Int32.add_zero]; exact bd_mono a1 (by decide)
  · have a2 := val_bd (s := aft T i s) hT (show 1 - awk s < 2 by omega)
    exact bd_mono (bd_add a1 a2 (by decide)) (by decide)
theorem bd_low {x : Int32} {B : Int} (h : bd x B) (hB : B < 2000000000) : (-2000000000 : Int32) < x := by
  rw [Int32.lt_iff_toInt_lt, show (-2000000000 : Int32).toInt = -2000000000 from rfl]
  unfold bd at h
  omega
theorem mtl_1 {T : lm_T} {n : Nat} {s : Int32} (hT : okT T n) (both : Bool) : mtl T s both 1 = (0, mtv T s both 0) :=
  if_pos ⟨rfl, bd_low (mtv_bd hT both 0) (by decide)⟩
theorem m_gainBy {d : Nat} {hi : Nat → Nat → Int32} {hl : Nat → Nat → Int64} {X : lm_X} {b n D : Nat} {T : lm_T} {s : Int32} (S : sh_M X b) (H : rT hi b T n) (HS : rS hi b s) (hT : okT T n) (HD : hi b 14 = nI D) (hw : awk s = D % 2) (hD : D < 2147483648) {i : Nat} {both : Bool} (hi10 : i ≤ n) (hal : alw T i (awk s) s = true) : lm_c (d + 2) 179 [.ref b, .int (aI i), .int (bz both)] (hi, hl, X) (some (.int (mtv T s both i)), (hi, hl, X)) := by
  refine lm_c_of (lm_w_in (Nat.le_of_ble_eq_true rfl) ?_)
  show lm_wp (d + 2) 179 0 [.ref b, .int (aI i), .int (bz both), lm_jk, lm_jk, lm_jk] [] (hi, hl, X) _
  refine w_N 1 1 [.ref b, .int (aI i), .int (bz both), lm_jk, lm_jk, lm_jk] [.ref b] rfl ?_
  refine w_cc (w_vst rfl rfl rfl (Nat.le_of_ble_eq_true rfl) (Nat.le_of_ble_eq_true rfl) (M_kd S)) (m_standing S HS) ?_
  show lm_wp _ 179 4 [.ref b, .int (aI i), .int (bz both), lm_jk, lm_jk, lm_jk] [.long (stg s)] (hi, hl, X) _
  refine w_N 3 7 [.ref b, .int (aI i), .int (bz both), .long (stg s), lm_jk, lm_jk] [.int (aI i), .ref b] rfl ?_
  refine w_ca (w_vst rfl rfl rfl (Nat.le_of_ble_eq_true rfl) (Nat.le_of_ble_eq_true rfl) (M_kd S)) (m_doIt (hf := awk s) S H HS hT rfl hi10 hal) ?_
  rintro _ _ ⟨hi1, rfl, rfl, HS1, X1, D1⟩
  have H1 := rT_X X1 H
  show lm_wp _ 179 10 [.ref b, .int (aI i), .int (bz both), .long (stg s), lm_jk, lm_jk] [] (hi1, hl, X) _
  refine w_N 1 11 [.ref b, .int (aI i), .int (bz both), .long (stg s), lm_jk, lm_jk] [.int (bz both)] rfl ?_
  refine w_zeq (t := 28) rfl rfl (fun c1 => ?_) (fun c1 => ?_)
  · refine w_N 2 30 [.ref b, .int (aI i), .int (bz both), .long (stg s), lm_jk, lm_jk] [.ref b, .ref b] rfl ?_
    refine w_gi (v := nI D) rfl rfl rfl (M_kd S) (D1.trans HD) ?_
    refine w_N 1 34 [.ref b, .int (aI i), .int (bz both), .long (stg s), lm_jk, lm_jk] [.int 2, .int (nI D), .ref b] rfl ?_
    refine w_rem rfl (by decide) ?_
    rw [hrem hw hD]
    refine w_cc (w_vst rfl rfl rfl (Nat.le_of_ble_eq_true rfl) (Nat.le_of_ble_eq_true rfl) (M_kd S)) (m_valueOfE S H1 HS1 rfl (awk_lt s)) ?_
    show lm_wp _ 179 38 [.ref b, .int (aI i), .int (bz both), .long (stg s), lm_jk, lm_jk] [.int (val T (awk s) (aft T i s))] (hi1, hl, X) _
    refine w_N 3 42 [.ref b, .int (aI i), .int (bz both), .long (stg s), lm_jk, .int (val T (awk s) (aft T i s))] [.long (stg s), .ref b] rfl ?_
    refine w_ca (w_vst rfl rfl rfl (Nat.le_of_ble_eq_true rfl) (Nat.le_of_ble_eq_true rfl) (M_kd S)) (lm_w_dep (d := 0) (by omega) (m_putBack (s := s) S)) ?_
    rintro _ _ ⟨hi2, rfl, rfl, HS2, X2, D2⟩
    have e9 : hi2 = hi := fr_emp (rX_back (lo := 0) (up := 0) X1 fr_rfl X2 (by omega) HS HS2 (by rw [D2, D1]))
    subst e9
    show lm_wp _ 179 45 [.ref b, .int (aI i), .int (bz both), .long (stg s), lm_jk, .int (val T (awk s) (aft T i s))] [] (hi2, hl, X) _
    refine w_N 1 47 [.ref b, .int (aI i), .int (bz both), .long (stg s), lm_jk, .int (val T (awk s) (aft T i s))] [.int (val T (awk s) (aft T i s))] rfl ?_
    refine w_ri rfl rfl ?_
    have eq : val T (awk s) (aft T i s) = mtv T s both i := by
      unfold mtv
      rw [if_neg (by simp [*]), Int32.add_zero]
    rw [eq]
  · refine w_N 2 16 [.ref b, .int (aI i), .int (bz both), .long (stg s), lm_jk, lm_jk] [.int 0, .ref b] rfl ?_
    refine w_cc (w_vst rfl rfl rfl (Nat.le_of_ble_eq_true rfl) (Nat.le_of_ble_eq_true rfl) (M_kd S)) (m_valueOfE S H1 HS1 rfl (by decide)) ?_
    show lm_wp _ 179 19 [.ref b, .int (aI i), .int (bz both), .long (stg s), lm_jk, lm_jk] [.int (val T 0 (aft T i s))] (hi1, hl, X) _
    refine w_N 2 21 [.ref b, .int (aI i), .int (bz both), .long (stg s), lm_jk, lm_jk] [.int 1, .ref b, .int (val T 0 (aft T i s))] rfl ?_
    refine w_cc (w_vst rfl rfl rfl (Nat.le_of_ble_eq_true rfl) (Nat.le_of_ble_eq_true rfl) (M_kd S)) (m_valueOfE S H1 HS1 (hf := 1) rfl (by decide)) ?_
    show lm_wp _ 179 24 [.ref b, .int (aI i), .int (bz both), .long (stg s), lm_jk, lm_jk] [.int (val T 1 (aft T i s)), .int (val T 0 (aft T i s))] (hi1, hl, X) _
    refine w_N 5 42 [.ref b, .int (aI i), .int (bz both), .long (stg s), lm_jk, .int ((val T 0 (aft T i s)) + (val T 1 (aft T i s)))] [.long (stg s), .ref b] rfl ?_
    refine w_ca (w_vst rfl rfl rfl (Nat.le_of_ble_eq_true rfl) (Nat.le_of_ble_eq_true rfl) (M_kd S)) (lm_w_dep (d := 0) (by omega) (m_putBack (s := s) S)) ?_
    rintro _ _ ⟨hi2, rfl, rfl, HS2, X2, D2⟩
    have e9 : hi2 = hi := fr_emp (rX_back (lo := 0) (up := 0) X1 fr_rfl X2 (by omega) HS HS2 (by rw [D2, D1]))
    subst e9
    show lm_wp _ 179 45 [.ref b, .int (aI i), .int (bz both), .long (stg s), lm_jk, .int ((val T 0 (aft T i s)) + (val T 1 (aft T i s)))] [] (hi2, hl, X) _
    refine w_N 1 47 [.ref b, .int (aI i), .int (bz both), .long (stg s), lm_jk, .int ((val T 0 (aft T i s)) + (val T 1 (aft T i s)))] [.int ((val T 0 (aft T i s)) + (val T 1 (aft T i s)))] rfl ?_
    refine w_ri rfl rfl ?_
    have eq : val T 0 (aft T i s) + val T 1 (aft T i s) = mtv T s both i := by
      unfold mtv
      rw [if_pos (by assumption)]
      have h := awk_lt s
      rcases (by omega : awk s = 0 ∨ awk s = 1) with h | h <;> rw [h]
      exact Int32.add_comm _ _
    rw [eq]
theorem m_gr1 {d : Nat} {hi : Nat → Nat → Int32} {hl : Nat → Nat → Int64} {X : lm_X} {b n D : Nat} {T : lm_T} {s : Int32} (S : sh_M X b) (H : rT hi b T n) (HS : rS hi b s) (hT : okT T n) (HD : hi b 14 = nI D) (hw : awk s = D % 2) (hD : D < 2147483648) {both : Bool} {P : Option Value → lm_H → Prop} (k : ∀ (c : Int32) (ms : Int32) (x5 : Value), lm_wp (d + 3) 183 63 [.ref b, .int (bz both), .int (aI (mto T n s both)), .int ms, .int c, x5] [] (hi, hl, X) P) : ∀ (j m : Nat) (fs : Int32) (ms : Int32) (mk : Int32) (x5 : Value), m + j = n → (fs = aI (mtl T s both (m + 1)).1) → (ms = (mtl T s both (m + 1)).2) → (mk = nI m) → lm_wp (d + 3) 183 12 [.ref b, .int (bz both), .int fs, .int ms, .int mk, x5] [] (hi, hl, X) P := by
  intro j
  induction j with
  | zero =>
    intro m fs ms mk x5 hm e1 e2 e4
    have hn10 := rTle H
    refine w_N 2 15 [.ref b, .int (bz both), .int fs, .int ms, .int mk, x5] [.ref b, .int mk] rfl ?_
    refine w_gi (v := nI n) rfl rfl rfl (M_kd S) (rTn H) ?_
    refine w_icmp_ge_t (t := 63) rfl rfl (by rw [e4, show m = n by omega]; exact fun z => Int32.lt_irrefl z) ?_
    obtain rfl : m = n := by omega
    rw [e1]
    exact k _ _ _
  | succ j ih =>
    intro m fs ms mk x5 hm e1 e2 e4
    have hn10 := rTle H
    refine w_N 2 15 [.ref b, .int (bz both), .int fs, .int ms, .int mk, x5] [.ref b, .int mk] rfl ?_
    refine w_gi (v := nI n) rfl rfl rfl (M_kd S) (rTn H) ?_
    refine w_icmp_ge_f (t := 63) rfl rfl (by rw [e4]; exact nI_lt (by omega) (by omega)) ?_
    refine w_N 3 25 [.ref b, .int (bz both), .int fs, .int ms, .int mk, x5] [.ref b, .int mk, .ref b] rfl ?_
    refine w_gi (v := nI D) rfl rfl rfl (M_kd S) (HD) ?_
    refine w_N 1 29 [.ref b, .int (bz both), .int fs, .int ms, .int mk, x5] [.int 2, .int (nI D), .int mk, .ref b] rfl ?_
    refine w_rem rfl (by decide) ?_
    rw [hrem hw hD]
    refine w_cc (w_vst rfl rfl rfl (Nat.le_of_ble_eq_true rfl) (Nat.le_of_ble_eq_true rfl) (M_kd S)) (m_canBeE (d := d + 1) S H HS hT e4 rfl (by omega)) ?_
    show lm_wp _ 183 33 [.ref b, .int (bz both), .int fs, .int ms, .int mk, x5] [.int (bz (alw T (m + 1) (awk s) s))] (hi, hl, X) _
    refine w_zeq (t := 57) rfl rfl (fun c1 => ?_) (fun c1 => ?_)
    · refine w_N 2 12 [.ref b, .int (bz both), .int fs, .int ms, .int (mk + 1), x5] [] rfl ?_
      exact ih (m + 1) _ _ _ _ (by omega) (by rw [e1, show mtl T s both (m + 2) = mtl T s both (m + 1) from if_neg (fun z => by rw [c1] at z; exact absurd z.1 (by decide))]) (by rw [e2, show mtl T s both (m + 2) = mtl T s both (m + 1) from if_neg (fun z => by rw [c1] at z; exact absurd z.1 (by decide))]) (by rw [e4, nI_succ])
    · refine w_N 3 40 [.ref b, .int (bz both), .int fs, .int ms, .int mk, x5] [.int (bz both), .int mk, .ref b] rfl ?_
      refine w_cc (w_vst rfl rfl rfl (Nat.le_of_ble_eq_true rfl) (Nat.le_of_ble_eq_true rfl) (M_kd S)) (by rw [e4]; exact m_gainBy (i := m + 1) S H HS hT HD hw hD (by omega) c1) ?_
      show lm_wp _ 183 43 [.ref b, .int (bz both), .int fs, .int ms, .int mk, x5] [.int (mtv T s both (m + 1))] (hi, hl, X) _
      refine w_N 3 48 [.ref b, .int (bz both), .int fs, .int ms, .int mk, .int (mtv T s both (m + 1))] [.int ms, .int (mtv T s both (m + 1))] rfl ?_
      refine w_icmp_le (t := 57) rfl rfl (fun c2 => ?_) (fun c2 => ?_)
      · refine w_N 2 12 [.ref b, .int (bz both), .int fs, .int ms, .int (mk + 1), .int (mtv T s both (m + 1))] [] rfl ?_
        have eb : mtl T s both (m + 2) = mtl T s both (m + 1) := if_neg (fun z => c2 (by rw [e2]; exact z.2))
        exact ih (m + 1) _ _ _ _ (by omega) (by rw [e1, eb]) (by rw [e2, eb]) (by rw [e4, nI_succ])
      · refine w_N 6 12 [.ref b, .int (bz both), .int mk, .int (mtv T s both (m + 1)), .int (mk + 1), .int (mtv T s both (m + 1))] [] rfl ?_
        have eb : mtl T s both (m + 2) = (m + 1, mtv T s both (m + 1)) := if_pos ⟨c1, by rw [← e2]; exact c2⟩
        exact ih (m + 1) _ _ _ _ (by omega) (by rw [eb]; exact e4) (by rw [eb]) (by rw [e4, nI_succ])
theorem m_greatest {d : Nat} {hi : Nat → Nat → Int32} {hl : Nat → Nat → Int64} {X : lm_X} {b n D : Nat} {T : lm_T} {s : Int32} (S : sh_M X b) (H : rT hi b T n) (HS : rS hi b s) (hT : okT T n) (HD : hi b 14 = nI D) (hw : awk s = D % 2) (hD : D < 2147483648) {both : Bool} : lm_c (d + 3) 183 [.ref b, .int (bz both)] (hi, hl, X) (some (.int (aI (mto T n s both))), (hi, hl, X)) := by
  refine lm_c_of (lm_w_in (Nat.le_of_ble_eq_true rfl) ?_)
  show lm_wp (d + 3) 183 0 [.ref b, .int (bz both), lm_jk, lm_jk, lm_jk, lm_jk] [] (hi, hl, X) _
  refine w_N 5 5 [.ref b, .int (bz both), .int (-1), lm_jk, lm_jk, lm_jk] [.int (bz both), .int (-1), .ref b] rfl ?_
  refine w_cc (w_vst rfl rfl rfl (Nat.le_of_ble_eq_true rfl) (Nat.le_of_ble_eq_true rfl) (M_kd S)) (m_gainBy (i := 0) S H HS hT HD hw hD (by omega) rfl) ?_
  show lm_wp _ 183 8 [.ref b, .int (bz both), .int (-1), lm_jk, lm_jk, lm_jk] [.int (mtv T s both 0)] (hi, hl, X) _
  refine w_N 3 12 [.ref b, .int (bz both), .int (-1), .int (mtv T s both 0), .int 0, lm_jk] [] rfl ?_
  refine m_gr1 S H HS hT HD hw hD (fun c ms x5 => ?_) n 0 _ _ _ _ (by omega) (by rw [mtl_1 hT]; rfl) (by rw [mtl_1 hT]) rfl
  refine w_N 1 64 _ [.int (aI (mto T n s both))] rfl ?_
  exact w_ri rfl rfl rfl
theorem bst_bd {T : lm_T} {n : Nat} (hT : okT T n) : ∀ k s, k ≤ 4 → bd (bst T n k s).2.1 (13068 * k) ∧ bd (bst T n k s).2.2 (13068 * k) := by
  intro k
  induction k with
  | zero => intro s _; show bd 0 (13068 * (0 : Nat)) ∧ bd 0 (13068 * (0 : Nat)); exact ⟨⟨by decide, by decide⟩, ⟨by decide, by decide⟩⟩
  | succ k ih =>
    intro s hk
    have hw := awk_lt s
    have hg : ∀ t h, h < 2 → bd (gAt (bst T n k t) h) (13068 * k) := fun t h hh => by
      unfold gAt
      split
      · exact (ih t (by omega)).1
      · exact (ih t (by omega)).2
    have ho : ∀ i, bd (bso T k (bst T n k) s i) (13068 * (k + 1)) := fun i => by
      unfold bso
      split
      · exact bd_mono (val_bd hT hw) (by omega)
      · exact bd_mono (bd_add (val_bd hT hw) (hg _ _ hw) (by omega)) (by omega)
    have hh : ∀ i, bd (bsh T k (bst T n k) s i) (13068 * (k + 1)) := fun i => by
      unfold bsh
      split
      · exact ⟨by simp; omega, by simp; omega⟩
      · exact bd_mono (hg _ _ (by omega)) (by omega)
    have hl : ∀ m, 1 ≤ m → bd (bsl T k (bst T n k) s m).2.1 (13068 * (k + 1)) ∧ bd (bsl T k (bst T n k) s m).2.2 (13068 * (k + 1)) := by
      intro m
      induction m with
      | zero => intro h; omega
      | succ m im =>
        intro _
        by_cases h0 : alw T m (awk s) s = true ∧ (bsl T k (bst T n k) s m).2.1 < bso T k (bst T n k) s m
        · rw [show bsl T k (bst T n k) s (m + 1) = _ from if_pos h0]
          exact ⟨ho m, hh m⟩
        · rw [show bsl T k (bst T n k) s (m + 1) = _ from if_neg h0]
          rcases Nat.eq_zero_or_pos m with rfl | hm
          · exact absurd ⟨rfl, bd_low (ho 0) (by omega)⟩ h0
          · exact im hm
    have hL := hl (n + 1) (by omega)
    show bd (bsr (awk s) (bsl T k (bst T n k) s (n + 1))).2.1 _ ∧ bd (bsr (awk s) (bsl T k (bst T n k) s (n + 1))).2.2 _
    unfold bsr
    rcases (by omega : awk s = 0 ∨ awk s = 1) with h | h <;> rw [h]
    · exact hL
    · exact ⟨hL.2, hL.1⟩
theorem bso_bd {T : lm_T} {n k : Nat} {s : Int32} (hT : okT T n) (hk : k ≤ 4) (i : Nat) : bd (bso T k (bst T n k) s i) 65340 := by
  have hw := awk_lt s
  unfold bso
  split
  · exact bd_mono (val_bd hT hw) (by omega)
  · have hg : bd (gAt (bst T n k (s_next (aft T i s))) (awk s)) (13068 * k) := by
      unfold gAt
      split
      · exact (bst_bd hT k _ hk).1
      · exact (bst_bd hT k _ hk).2
    exact bd_mono (bd_add (val_bd hT hw) hg (by omega)) (by omega)
theorem bsl_1 {T : lm_T} {n k : Nat} {s : Int32} (hT : okT T n) (hk : k ≤ 4) : bsl T k (bst T n k) s 1 = (aI 0, bso T k (bst T n k) s 0, bsh T k (bst T n k) s 0) :=
  if_pos ⟨rfl, bd_low (bso_bd hT hk 0) (by decide)⟩
def fbP (hi : Nat → Nat → Int32) (hl : Nat → Nat → Int64) (X : lm_X) (b : Nat) (T : lm_T) (n k : Nat) (s : Int32) : Option Value → lm_H → Prop := fun v h1 => ∃ hi', v = none ∧ h1 = (hi', hl, X) ∧ fr (b + 36) (b + 49) hi hi' ∧ (∀ j, k < j → j < 5 → hi' (b + (44 + j)) = hi (b + (44 + j))) ∧ hi' (b + (37 + k)) 0 = (bst T n k s).2.1 ∧ hi' (b + (37 + k)) 1 = (bst T n k s).2.2 ∧ hi' (b + 42) k = (bst T n k s).1
def FB (d k : Nat) : Prop := ∀ (hi : Nat → Nat → Int32) (hl : Nat → Nat → Int64) (X : lm_X) (b n D : Nat) (T : lm_T) (s x y : Int32), sh_M X b → rT hi b T n → okT T n → rS hi b s → awk s = D % 2 → D + k < 2147483648 → x = nI k → y = nI D → lm_w d 197 [.ref b, .int x, .int y] (hi, hl, X) (fbP hi hl X b T n k s)
theorem gAt_of {hi : Nat → Nat → Int32} {a h : Nat} {r : Int32 × Int32 × Int32} (h0 : hi a 0 = r.2.1) (h1 : hi a 1 = r.2.2) (hh : h < 2) : hi a h = gAt r h := by
  unfold gAt
  rcases (by omega : h = 0 ∨ h = 1) with rfl | rfl
  · exact h0
  · exact h1
theorem m_fb1 {d : Nat} {hi : Nat → Nat → Int32} {hl : Nat → Nat → Int64} {X : lm_X} {b n D k : Nat} {T : lm_T} {s : Int32} (S : sh_M X b) (hT : okT T n) (H : rT hi b T n) (HS : rS hi b s) (hw : awk s = D % 2) (hD : D + (k + 1) < 2147483648) (hk : k < 4) (hB : 1 ≤ k → FB (d + 1) k) {P : Option Value → lm_H → Prop} (k' : ∀ (hi' : Nat → Nat → Int32) (c fs : Int32) (x7 x8 x9 x10 : Value), fr (b + 36) (b + 49) hi hi' → (∀ j, k + 1 < j → j < 5 → hi' (b + (44 + j)) = hi (b + (44 + j))) → fs = (bsl T k (bst T n k) s (n + 1)).1 → hi' (b + (44 + (k + 1))) (awk s) = (bsl T k (bst T n k) s (n + 1)).2.1 → hi' (b + (44 + (k + 1))) (1 - awk s) = (bsl T k (bst T n k) s (n + 1)).2.2 → lm_wp (d + 2) 197 184 [.ref b, .int (nI (k + 1)), .int (nI D), .int (nI (awk s)), .int 1, .int fs, .int c, x7, x8, x9, x10] [] (hi', hl, X) P) : ∀ (j m : Nat) (hi' : Nat → Nat → Int32) (fs : Int32) (mk : Int32) (x7 : Value) (x8 : Value) (x9 : Value) (x10 : Value), m + j = n → (mk = nI m) → (rT hi' b T n) → (rS hi' b s) → (fr (b + 36) (b + 49) hi hi') → (∀ j, k + 1 < j → j < 5 → hi' (b + (44 + j)) = hi (b + (44 + j))) → (fs = (bsl T k (bst T n k) s (m + 1)).1) → (hi' (b + (44 + (k + 1))) (awk s) = (bsl T k (bst T n k) s (m + 1)).2.1) → (hi' (b + (44 + (k + 1))) (1 - awk s) = (bsl T k (bst T n k) s (m + 1)).2.2) → lm_wp (d + 2) 197 31 [.ref b, .int (nI (k + 1)), .int (nI D), .int (nI (awk s)), .int 1, .int fs, .int mk, x7, x8, x9, x10] [] (hi', hl, X) P := by
  intro j
  induction j with
  | zero =>
    intro m hi' fs mk x7 x8 x9 x10 hm e4 H0 HS0 F0 G0 e1 e2 e3
    have hn10 := rTle H0
    refine w_N 2 34 [.ref b, .int (nI (k + 1)), .int (nI D), .int (nI (awk s)), .int 1, .int fs, .int mk, x7, x8, x9, x10] [.ref b, .int mk] rfl ?_
    refine w_gi (v := nI n) rfl rfl rfl (M_kd S) (rTn H0) ?_
    refine w_icmp_ge_t (t := 184) rfl rfl (by rw [e4, show m = n by omega]; exact fun z => Int32.lt_irrefl z) ?_
    obtain rfl : m = n := by omega
    exact k' hi' _ _ _ _ _ _ F0 G0 e1 e2 e3
  | succ j ih =>
    intro m hi' fs mk x7 x8 x9 x10 hm e4 H0 HS0 F0 G0 e1 e2 e3
    have hn10 := rTle H0
    have hw2 := awk_lt s
    have hne : ¬ mk = -1 := fun z => by rw [e4] at z; have := (aI_none (i := m + 1) (by omega)).mp z; omega
    refine w_N 2 34 [.ref b, .int (nI (k + 1)), .int (nI D), .int (nI (awk s)), .int 1, .int fs, .int mk, x7, x8, x9, x10] [.ref b, .int mk] rfl ?_
    refine w_gi (v := nI n) rfl rfl rfl (M_kd S) (rTn H0) ?_
    refine w_icmp_ge_f (t := 184) rfl rfl (by rw [e4]; exact nI_lt (by omega) (by omega)) ?_
    refine w_N 2 43 [.ref b, .int (nI (k + 1)), .int (nI D), .int (nI (awk s)), .int 1, .int fs, .int mk, x7, x8, x9, x10] [.int (-1), .int mk] rfl ?_
    refine w_icmp_eq_f (t := 59) rfl rfl hne ?_
    refine w_N 3 50 [.ref b, .int (nI (k + 1)), .int (nI D), .int (nI (awk s)), .int 1, .int fs, .int mk, x7, x8, x9, x10] [.int (nI (awk s)), .int mk, .ref b] rfl ?_
    refine w_cc (w_vst rfl rfl rfl (Nat.le_of_ble_eq_true rfl) (Nat.le_of_ble_eq_true rfl) (M_kd S)) (m_canBeE (d := d) S H0 HS0 hT e4 rfl (by omega)) ?_
    show lm_wp _ 197 53 [.ref b, .int (nI (k + 1)), .int (nI D), .int (nI (awk s)), .int 1, .int fs, .int mk, x7, x8, x9, x10] [.int (bz (alw T (m + 1) (awk s) s))] (hi', hl, X) _
    refine w_zne (t := 59) rfl rfl (fun c1 => ?_) (fun c1 => ?_)
    · refine w_N 1 60 [.ref b, .int (nI (k + 1)), .int (nI D), .int (nI (awk s)), .int 1, .int fs, .int mk, x7, x8, x9, x10] [.ref b] rfl ?_
      refine w_cc (w_vst rfl rfl rfl (Nat.le_of_ble_eq_true rfl) (Nat.le_of_ble_eq_true rfl) (M_kd S)) (m_standing S HS0) ?_
      show lm_wp _ 197 63 [.ref b, .int (nI (k + 1)), .int (nI D), .int (nI (awk s)), .int 1, .int fs, .int mk, x7, x8, x9, x10] [.long (stg s)] (hi', hl, X) _
      refine w_N 3 68 [.ref b, .int (nI (k + 1)), .int (nI D), .int (nI (awk s)), .int 1, .int fs, .int mk, .long (stg s), lm_jk, x9, x10] [.int mk, .ref b] rfl ?_
      refine w_ca (w_vst rfl rfl rfl (Nat.le_of_ble_eq_true rfl) (Nat.le_of_ble_eq_true rfl) (M_kd S)) (m_doIt (hf := awk s) (i := m + 1) S H0 HS0 hT e4 (show m + 1 ≤ n by omega) c1) ?_
      rintro _ _ ⟨hi1, rfl, rfl, HS1, X1, D1⟩
      have H1 := rT_X X1 H0
      show lm_wp _ 197 71 [.ref b, .int (nI (k + 1)), .int (nI D), .int (nI (awk s)), .int 1, .int fs, .int mk, .long (stg s), lm_jk, x9, x10] [] (hi1, hl, X) _
      refine w_N 2 73 [.ref b, .int (nI (k + 1)), .int (nI D), .int (nI (awk s)), .int 1, .int fs, .int mk, .long (stg s), lm_jk, x9, x10] [.int (nI (awk s)), .ref b] rfl ?_
      refine w_cc (w_vst rfl rfl rfl (Nat.le_of_ble_eq_true rfl) (Nat.le_of_ble_eq_true rfl) (M_kd S)) (m_valueOfE S H1 HS1 rfl (awk_lt s)) ?_
      show lm_wp _ 197 76 [.ref b, .int (nI (k + 1)), .int (nI D), .int (nI (awk s)), .int 1, .int fs, .int mk, .long (stg s), lm_jk, x9, x10] [.int (val T (awk s) (aft T (m + 1) s))] (hi1, hl, X) _
      refine w_N 5 83 [.ref b, .int (nI (k + 1)), .int (nI D), .int (nI (awk s)), .int 1, .int fs, .int mk, .long (stg s), lm_jk, .int (val T (awk s) (aft T (m + 1) s)), .int 0] [.int 1, .int (nI (k + 1))] rfl ?_
      refine w_icmp_le (t := 125) rfl rfl (fun c2 => ?_) (fun c2 => ?_)
      · refine w_N 2 128 [.ref b, .int (nI (k + 1)), .int (nI D), .int (nI (awk s)), .int 1, .int fs, .int mk, .long (stg s), lm_jk, .int (val T (awk s) (aft T (m + 1) s)), .int 0] [.long (stg s), .ref b] rfl ?_
        have F2 : fr (b + 36) (b + 49) hi1 hi1 := fr_rfl
        refine w_ca (w_vst rfl rfl rfl (Nat.le_of_ble_eq_true rfl) (Nat.le_of_ble_eq_true rfl) (M_kd S)) (lm_w_dep (d := 0) (by omega) (m_putBack (s := s) S)) ?_
        rintro _ _ ⟨hi3, rfl, rfl, HS3, X3, D3⟩
        have F3 : fr (b + 36) (b + 49) hi' hi3 := rX_back X1 F2 X3 (by omega) HS0 HS3 (by rw [D3, F2 b (by omega), D1])
        have R3 : hi3 (b + (44 + (k + 1))) = hi' (b + (44 + (k + 1))) := by rw [X3.1 _ (by omega) (by omega), X1.1 _ (by omega) (by omega)]
        have G3 : ∀ j, k + 1 < j → j < 5 → hi3 (b + (44 + j)) = hi' (b + (44 + j)) := fun j j1 j2 => by rw [X3.1 _ (by omega) (by omega), X1.1 _ (by omega) (by omega)]
        show lm_wp _ 197 131 [.ref b, .int (nI (k + 1)), .int (nI D), .int (nI (awk s)), .int 1, .int fs, .int mk, .long (stg s), lm_jk, .int (val T (awk s) (aft T (m + 1) s)), .int 0] [] (hi3, hl, X) _
        refine w_N 1 133 [.ref b, .int (nI (k + 1)), .int (nI D), .int (nI (awk s)), .int 1, .int fs, .int mk, .long (stg s), lm_jk, .int (val T (awk s) (aft T (m + 1) s)), .int 0] [.int 1] rfl ?_
        refine w_if_eq_f (t := 149) rfl rfl (by decide) ?_
        refine w_N 2 139 [.ref b, .int (nI (k + 1)), .int (nI D), .int (nI (awk s)), .int 1, .int fs, .int mk, .long (stg s), lm_jk, .int (val T (awk s) (aft T (m + 1) s)), .int 0] [.ref b, .int (val T (awk s) (aft T (m + 1) s))] rfl ?_
        refine w_gr (b + 43) rfl rfl rfl (M_kd S) (M_r S (k := 35) (o := 43) rfl) ?_
        refine w_N 1 143 [.ref b, .int (nI (k + 1)), .int (nI D), .int (nI (awk s)), .int 1, .int fs, .int mk, .long (stg s), lm_jk, .int (val T (awk s) (aft T (m + 1) s)), .int 0] [.int (nI (k + 1)), .ref (b + 43), .int (val T (awk s) (aft T (m + 1) s))] rfl ?_
        refine w_aa (k + 1) (b + (44 + (k + 1))) rfl (M_kk S (o := 43) (by decide)) (show X.2.2.1 (b + 43) = 5 from M_l S 43 (by decide)) rfl (by omega) (by decide) (M_mor S (by omega)) ?_
        refine w_N 1 145 [.ref b, .int (nI (k + 1)), .int (nI D), .int (nI (awk s)), .int 1, .int fs, .int mk, .long (stg s), lm_jk, .int (val T (awk s) (aft T (m + 1) s)), .int 0] [.int (nI (awk s)), .ref (b + (44 + (k + 1))), .int (val T (awk s) (aft T (m + 1) s))] rfl ?_
        refine w_ia (awk s) (v := (bsl T k (bst T n k) s (m + 1)).2.1) rfl (M_mok S (by omega)) (M_mol S (by omega)) rfl (by omega) (by decide) ((by rw [R3]; exact e2)) ?_
        refine w_icmp_le (t := 178) rfl rfl (fun c3 => ?_) (fun c3 => ?_)
        · refine w_N 2 31 [.ref b, .int (nI (k + 1)), .int (nI D), .int (nI (awk s)), .int 1, .int fs, .int (mk + 1), .long (stg s), lm_jk, .int (val T (awk s) (aft T (m + 1) s)), .int 0] [] rfl ?_
          have hk0 : k = 0 := by
            have q := c2
            rw [show (1 : Int32) = nI 1 from rfl, nI_lt_iff (by omega) (by omega)] at q
            omega
          have eo : bso T k (bst T n k) s (m + 1) = val T (awk s) (aft T (m + 1) s) := if_pos hk0
          have eh : bsh T k (bst T n k) s (m + 1) = 0 := if_pos hk0
          have eb : bsl T k (bst T n k) s (m + 2) = bsl T k (bst T n k) s (m + 1) := if_neg (fun z => c3 (by rw [← eo]; exact z.2))
          exact ih (m + 1) hi3 _ _ _ _ _ _ (by omega) (by rw [e4, nI_succ]) (rT_fr F3 (by omega) H0) HS3 (fr_trans F0 F3) (fun j j1 j2 => (G3 j j1 j2).trans (G0 j j1 j2)) (by rw [eb]; exact e1) (by rw [R3, eb]; exact e2) (by rw [R3, eb]; exact e3)
        · refine w_N 3 153 [.ref b, .int (nI (k + 1)), .int (nI D), .int (nI (awk s)), .int 1, .int fs, .int mk, .long (stg s), lm_jk, .int (val T (awk s) (aft T (m + 1) s)), .int 0] [.ref b] rfl ?_
          refine w_gr (b + 43) rfl rfl rfl (M_kd S) (M_r S (k := 35) (o := 43) rfl) ?_
          refine w_N 1 157 [.ref b, .int (nI (k + 1)), .int (nI D), .int (nI (awk s)), .int 1, .int fs, .int mk, .long (stg s), lm_jk, .int (val T (awk s) (aft T (m + 1) s)), .int 0] [.int (nI (k + 1)), .ref (b + 43)] rfl ?_
          refine w_aa (k + 1) (b + (44 + (k + 1))) rfl (M_kk S (o := 43) (by decide)) (show X.2.2.1 (b + 43) = 5 from M_l S 43 (by decide)) rfl (by omega) (by decide) (M_mor S (by omega)) ?_
          refine w_N 2 161 [.ref b, .int (nI (k + 1)), .int (nI D), .int (nI (awk s)), .int 1, .int fs, .int mk, .long (stg s), lm_jk, .int (val T (awk s) (aft T (m + 1) s)), .int 0] [.int (val T (awk s) (aft T (m + 1) s)), .int (nI (awk s)), .ref (b + (44 + (k + 1)))] rfl ?_
          refine w_is (awk s) rfl (M_mok S (by omega)) (Nat.le_trans (M_64 S) (Nat.le_add_right _ _)) (M_mol S (by omega)) rfl (by omega) (by decide) ?_
          refine w_N 1 163 [.ref b, .int (nI (k + 1)), .int (nI D), .int (nI (awk s)), .int 1, .int fs, .int mk, .long (stg s), lm_jk, .int (val T (awk s) (aft T (m + 1) s)), .int 0] [.ref b] rfl ?_
          refine w_gr (b + 43) rfl rfl rfl (M_kd S) (M_r S (k := 35) (o := 43) rfl) ?_
          refine w_N 1 167 [.ref b, .int (nI (k + 1)), .int (nI D), .int (nI (awk s)), .int 1, .int fs, .int mk, .long (stg s), lm_jk, .int (val T (awk s) (aft T (m + 1) s)), .int 0] [.int (nI (k + 1)), .ref (b + 43)] rfl ?_
          refine w_aa (k + 1) (b + (44 + (k + 1))) rfl (M_kk S (o := 43) (by decide)) (show X.2.2.1 (b + 43) = 5 from M_l S 43 (by decide)) rfl (by omega) (by decide) (M_mor S (by omega)) ?_
          refine w_N 4 173 [.ref b, .int (nI (k + 1)), .int (nI D), .int (nI (awk s)), .int 1, .int fs, .int mk, .long (stg s), lm_jk, .int (val T (awk s) (aft T (m + 1) s)), .int 0] [.int 0, .int (1 - (nI (awk s))), .ref (b + (44 + (k + 1)))] rfl ?_
          refine w_is (1 - awk s) rfl (M_mok S (by omega)) (Nat.le_trans (M_64 S) (Nat.le_add_right _ _)) (M_mol S (by omega)) one_sub (by omega) (by decide) ?_
          refine w_N 4 31 [.ref b, .int (nI (k + 1)), .int (nI D), .int (nI (awk s)), .int 1, .int mk, .int (mk + 1), .long (stg s), lm_jk, .int (val T (awk s) (aft T (m + 1) s)), .int 0] [] rfl ?_
          have hk0 : k = 0 := by
            have q := c2
            rw [show (1 : Int32) = nI 1 from rfl, nI_lt_iff (by omega) (by omega)] at q
            omega
          have eo : bso T k (bst T n k) s (m + 1) = val T (awk s) (aft T (m + 1) s) := if_pos hk0
          have eh : bsh T k (bst T n k) s (m + 1) = 0 := if_pos hk0
          have eb : bsl T k (bst T n k) s (m + 2) = (aI (m + 1), bso T k (bst T n k) s (m + 1), bsh T k (bst T n k) s (m + 1)) := if_pos ⟨c1, by rw [eo]; exact c3⟩
          have FU : fr (b + 36) (b + 49) hi3 (lm_up (lm_up hi3 (b + (44 + (k + 1))) (awk s) (val T (awk s) (aft T (m + 1) s))) (b + (44 + (k + 1))) (1 - awk s) 0) := fr_up (fr_up fr_rfl (by omega)) (by omega)
          refine ih (m + 1) _ _ _ _ _ _ _ (by omega) (by rw [e4, nI_succ]) (rT_fr FU (by omega) (rT_fr F3 (by omega) H0)) (rS_fr FU (by omega) HS3) (fr_trans F0 (fr_trans F3 FU)) (fun j j1 j2 => ?_) (by rw [eb]; exact e4) ?_ ?_
          · rw [lm_up_rw (by omega), lm_up_rw (by omega)]; exact (G3 j j1 j2).trans (G0 j j1 j2)
          · rw [lm_up_nk (by omega), lm_up_eq, eb]; exact eo.symm
          · rw [lm_up_eq, eb]; exact eh.symm
      · refine w_N 7 93 [.ref b, .int (nI (k + 1)), .int (nI D), .int (nI (awk s)), .int 1, .int fs, .int mk, .long (stg s), lm_jk, .int (val T (awk s) (aft T (m + 1) s)), .int 0] [.int ((nI D) + 1), .int ((nI (k + 1)) - 1), .ref b] rfl ?_
        have hk1 : 1 ≤ k := by
          have q := c2
          rw [show (1 : Int32) = nI 1 from rfl, nI_lt_iff (by omega) (by omega)] at q
          omega
        refine w_ca (w_vst rfl rfl rfl (Nat.le_of_ble_eq_true rfl) (Nat.le_of_ble_eq_true rfl) (M_kd S)) (hB hk1 _ _ _ _ _ (D + 1) _ (s_next (aft T (m + 1) s)) _ _ S H1 hT (rS_next HS1) (by rw [awk_next, (aft_ok (hf := awk s) hT (show m + 1 ≤ n by omega) c1).2]; omega) (by omega) (nI_prd k) (nI_succ D).symm) ?_
        rintro _ _ ⟨hi2, rfl, rfl, F2, G2, g0, g1, g2⟩
        have ga := gAt_of g0 g1 (awk_lt s)
        have gb := gAt_of g0 g1 (show 1 - awk s < 2 by omega)
        show lm_wp _ 197 96 [.ref b, .int (nI (k + 1)), .int (nI D), .int (nI (awk s)), .int 1, .int fs, .int mk, .long (stg s), lm_jk, .int (val T (awk s) (aft T (m + 1) s)), .int 0] [] (hi2, hl, X) _
        refine w_N 2 99 [.ref b, .int (nI (k + 1)), .int (nI D), .int (nI (awk s)), .int 1, .int fs, .int mk, .long (stg s), lm_jk, .int (val T (awk s) (aft T (m + 1) s)), .int 0] [.ref b, .int (val T (awk s) (aft T (m + 1) s))] rfl ?_
        refine w_gr (b + 36) rfl rfl rfl (M_kd S) (M_r S (k := 33) (o := 36) rfl) ?_
        refine w_N 3 105 [.ref b, .int (nI (k + 1)), .int (nI D), .int (nI (awk s)), .int 1, .int fs, .int mk, .long (stg s), lm_jk, .int (val T (awk s) (aft T (m + 1) s)), .int 0] [.int ((nI (k + 1)) - 1), .ref (b + 36), .int (val T (awk s) (aft T (m + 1) s))] rfl ?_
        refine w_aa k (b + (37 + k)) rfl (M_kk S (o := 36) (by decide)) (show X.2.2.1 (b + 36) = 5 from M_l S 36 (by decide)) (nI_prd k) (by omega) (by decide) (M_bgr S (by omega)) ?_
        refine w_N 1 107 [.ref b, .int (nI (k + 1)), .int (nI D), .int (nI (awk s)), .int 1, .int fs, .int mk, .long (stg s), lm_jk, .int (val T (awk s) (aft T (m + 1) s)), .int 0] [.int (nI (awk s)), .ref (b + (37 + k)), .int (val T (awk s) (aft T (m + 1) s))] rfl ?_
        refine w_ia (awk s) (v := gAt (bst T n k (s_next (aft T (m + 1) s))) (awk s)) rfl (M_bgk S (by omega)) (M_bgl S (by omega)) rfl (by omega) (by decide) (ga) ?_
        refine w_N 3 112 [.ref b, .int (nI (k + 1)), .int (nI D), .int (nI (awk s)), .int 1, .int fs, .int mk, .long (stg s), lm_jk, .int ((val T (awk s) (aft T (m + 1) s)) + (gAt (bst T n k (s_next (aft T (m + 1) s))) (awk s))), .int 0] [.ref b] rfl ?_
        refine w_gr (b + 36) rfl rfl rfl (M_kd S) (M_r S (k := 33) (o := 36) rfl) ?_
        refine w_N 3 118 [.ref b, .int (nI (k + 1)), .int (nI D), .int (nI (awk s)), .int 1, .int fs, .int mk, .long (stg s), lm_jk, .int ((val T (awk s) (aft T (m + 1) s)) + (gAt (bst T n k (s_next (aft T (m + 1) s))) (awk s))), .int 0] [.int ((nI (k + 1)) - 1), .ref (b + 36)] rfl ?_
        refine w_aa k (b + (37 + k)) rfl (M_kk S (o := 36) (by decide)) (show X.2.2.1 (b + 36) = 5 from M_l S 36 (by decide)) (nI_prd k) (by omega) (by decide) (M_bgr S (by omega)) ?_
        refine w_N 3 122 [.ref b, .int (nI (k + 1)), .int (nI D), .int (nI (awk s)), .int 1, .int fs, .int mk, .long (stg s), lm_jk, .int ((val T (awk s) (aft T (m + 1) s)) + (gAt (bst T n k (s_next (aft T (m + 1) s))) (awk s))), .int 0] [.int (1 - (nI (awk s))), .ref (b + (37 + k))] rfl ?_
        refine w_ia (1 - awk s) (v := gAt (bst T n k (s_next (aft T (m + 1) s))) (1 - awk s)) rfl (M_bgk S (by omega)) (M_bgl S (by omega)) one_sub (by omega) (by decide) (gb) ?_
        refine w_N 3 128 [.ref b, .int (nI (k + 1)), .int (nI D), .int (nI (awk s)), .int 1, .int fs, .int mk, .long (stg s), lm_jk, .int ((val T (awk s) (aft T (m + 1) s)) + (gAt (bst T n k (s_next (aft T (m + 1) s))) (awk s))), .int (gAt (bst T n k (s_next (aft T (m + 1) s))) (1 - awk s))] [.long (stg s), .ref b] rfl ?_
        refine w_ca (w_vst rfl rfl rfl (Nat.le_of_ble_eq_true rfl) (Nat.le_of_ble_eq_true rfl) (M_kd S)) (lm_w_dep (d := 0) (by omega) (m_putBack (s := s) S)) ?_
        rintro _ _ ⟨hi3, rfl, rfl, HS3, X3, D3⟩
        have F3 : fr (b + 36) (b + 49) hi' hi3 := rX_back X1 F2 X3 (by omega) HS0 HS3 (by rw [D3, F2 b (by omega), D1])
        have R3 : hi3 (b + (44 + (k + 1))) = hi' (b + (44 + (k + 1))) := by rw [X3.1 _ (by omega) (by omega), G2 (k + 1) (by omega) (by omega), X1.1 _ (by omega) (by omega)]
        have G3 : ∀ j, k + 1 < j → j < 5 → hi3 (b + (44 + j)) = hi' (b + (44 + j)) := fun j j1 j2 => by rw [X3.1 _ (by omega) (by omega), G2 j (by omega) (by omega), X1.1 _ (by omega) (by omega)]
        show lm_wp _ 197 131 [.ref b, .int (nI (k + 1)), .int (nI D), .int (nI (awk s)), .int 1, .int fs, .int mk, .long (stg s), lm_jk, .int ((val T (awk s) (aft T (m + 1) s)) + (gAt (bst T n k (s_next (aft T (m + 1) s))) (awk s))), .int (gAt (bst T n k (s_next (aft T (m + 1) s))) (1 - awk s))] [] (hi3, hl, X) _
        refine w_N 1 133 [.ref b, .int (nI (k + 1)), .int (nI D), .int (nI (awk s)), .int 1, .int fs, .int mk, .long (stg s), lm_jk, .int ((val T (awk s) (aft T (m + 1) s)) + (gAt (bst T n k (s_next (aft T (m + 1) s))) (awk s))), .int (gAt (bst T n k (s_next (aft T (m + 1) s))) (1 - awk s))] [.int 1] rfl ?_
        refine w_if_eq_f (t := 149) rfl rfl (by decide) ?_
        refine w_N 2 139 [.ref b, .int (nI (k + 1)), .int (nI D), .int (nI (awk s)), .int 1, .int fs, .int mk, .long (stg s), lm_jk, .int ((val T (awk s) (aft T (m + 1) s)) + (gAt (bst T n k (s_next (aft T (m + 1) s))) (awk s))), .int (gAt (bst T n k (s_next (aft T (m + 1) s))) (1 - awk s))] [.ref b, .int ((val T (awk s) (aft T (m + 1) s)) + (gAt (bst T n k (s_next (aft T (m + 1) s))) (awk s)))] rfl ?_
        refine w_gr (b + 43) rfl rfl rfl (M_kd S) (M_r S (k := 35) (o := 43) rfl) ?_
        refine w_N 1 143 [.ref b, .int (nI (k + 1)), .int (nI D), .int (nI (awk s)), .int 1, .int fs, .int mk, .long (stg s), lm_jk, .int ((val T (awk s) (aft T (m + 1) s)) + (gAt (bst T n k (s_next (aft T (m + 1) s))) (awk s))), .int (gAt (bst T n k (s_next (aft T (m + 1) s))) (1 - awk s))] [.int (nI (k + 1)), .ref (b + 43), .int ((val T (awk s) (aft T (m + 1) s)) + (gAt (bst T n k (s_next (aft T (m + 1) s))) (awk s)))] rfl ?_
        refine w_aa (k + 1) (b + (44 + (k + 1))) rfl (M_kk S (o := 43) (by decide)) (show X.2.2.1 (b + 43) = 5 from M_l S 43 (by decide)) rfl (by omega) (by decide) (M_mor S (by omega)) ?_
        refine w_N 1 145 [.ref b, .int (nI (k + 1)), .int (nI D), .int (nI (awk s)), .int 1, .int fs, .int mk, .long (stg s), lm_jk, .int ((val T (awk s) (aft T (m + 1) s)) + (gAt (bst T n k (s_next (aft T (m + 1) s))) (awk s))), .int (gAt (bst T n k (s_next (aft T (m + 1) s))) (1 - awk s))] [.int (nI (awk s)), .ref (b + (44 + (k + 1))), .int ((val T (awk s) (aft T (m + 1) s)) + (gAt (bst T n k (s_next (aft T (m + 1) s))) (awk s)))] rfl ?_
        refine w_ia (awk s) (v := (bsl T k (bst T n k) s (m + 1)).2.1) rfl (M_mok S (by omega)) (M_mol S (by omega)) rfl (by omega) (by decide) ((by rw [R3]; exact e2)) ?_
        refine w_icmp_le (t := 178) rfl rfl (fun c4 => ?_) (fun c4 => ?_)
        · refine w_N 2 31 [.ref b, .int (nI (k + 1)), .int (nI D), .int (nI (awk s)), .int 1, .int fs, .int (mk + 1), .long (stg s), lm_jk, .int ((val T (awk s) (aft T (m + 1) s)) + (gAt (bst T n k (s_next (aft T (m + 1) s))) (awk s))), .int (gAt (bst T n k (s_next (aft T (m + 1) s))) (1 - awk s))] [] rfl ?_
          have eo : bso T k (bst T n k) s (m + 1) = val T (awk s) (aft T (m + 1) s) + gAt (bst T n k (s_next (aft T (m + 1) s))) (awk s) := if_neg (by omega)
          have eh : bsh T k (bst T n k) s (m + 1) = gAt (bst T n k (s_next (aft T (m + 1) s))) (1 - awk s) := if_neg (by omega)
          have eb : bsl T k (bst T n k) s (m + 2) = bsl T k (bst T n k) s (m + 1) := if_neg (fun z => c4 (by rw [← eo]; exact z.2))
          exact ih (m + 1) hi3 _ _ _ _ _ _ (by omega) (by rw [e4, nI_succ]) (rT_fr F3 (by omega) H0) HS3 (fr_trans F0 F3) (fun j j1 j2 => (G3 j j1 j2).trans (G0 j j1 j2)) (by rw [eb]; exact e1) (by rw [R3, eb]; exact e2) (by rw [R3, eb]; exact e3)
        · refine w_N 3 153 [.ref b, .int (nI (k + 1)), .int (nI D), .int (nI (awk s)), .int 1, .int fs, .int mk, .long (stg s), lm_jk, .int ((val T (awk s) (aft T (m + 1) s)) + (gAt (bst T n k (s_next (aft T (m + 1) s))) (awk s))), .int (gAt (bst T n k (s_next (aft T (m + 1) s))) (1 - awk s))] [.ref b] rfl ?_
          refine w_gr (b + 43) rfl rfl rfl (M_kd S) (M_r S (k := 35) (o := 43) rfl) ?_
          refine w_N 1 157 [.ref b, .int (nI (k + 1)), .int (nI D), .int (nI (awk s)), .int 1, .int fs, .int mk, .long (stg s), lm_jk, .int ((val T (awk s) (aft T (m + 1) s)) + (gAt (bst T n k (s_next (aft T (m + 1) s))) (awk s))), .int (gAt (bst T n k (s_next (aft T (m + 1) s))) (1 - awk s))] [.int (nI (k + 1)), .ref (b + 43)] rfl ?_
          refine w_aa (k + 1) (b + (44 + (k + 1))) rfl (M_kk S (o := 43) (by decide)) (show X.2.2.1 (b + 43) = 5 from M_l S 43 (by decide)) rfl (by omega) (by decide) (M_mor S (by omega)) ?_
          refine w_N 2 161 [.ref b, .int (nI (k + 1)), .int (nI D), .int (nI (awk s)), .int 1, .int fs, .int mk, .long (stg s), lm_jk, .int ((val T (awk s) (aft T (m + 1) s)) + (gAt (bst T n k (s_next (aft T (m + 1) s))) (awk s))), .int (gAt (bst T n k (s_next (aft T (m + 1) s))) (1 - awk s))] [.int ((val T (awk s) (aft T (m + 1) s)) + (gAt (bst T n k (s_next (aft T (m + 1) s))) (awk s))), .int (nI (awk s)), .ref (b + (44 + (k + 1)))] rfl ?_
          refine w_is (awk s) rfl (M_mok S (by omega)) (Nat.le_trans (M_64 S) (Nat.le_add_right _ _)) (M_mol S (by omega)) rfl (by omega) (by decide) ?_
          refine w_N 1 163 [.ref b, .int (nI (k + 1)), .int (nI D), .int (nI (awk s)), .int 1, .int fs, .int mk, .long (stg s), lm_jk, .int ((val T (awk s) (aft T (m + 1) s)) + (gAt (bst T n k (s_next (aft T (m + 1) s))) (awk s))), .int (gAt (bst T n k (s_next (aft T (m + 1) s))) (1 - awk s))] [.ref b] rfl ?_
          refine w_gr (b + 43) rfl rfl rfl (M_kd S) (M_r S (k := 35) (o := 43) rfl) ?_
          refine w_N 1 167 [.ref b, .int (nI (k + 1)), .int (nI D), .int (nI (awk s)), .int 1, .int fs, .int mk, .long (stg s), lm_jk, .int ((val T (awk s) (aft T (m + 1) s)) + (gAt (bst T n k (s_next (aft T (m + 1) s))) (awk s))), .int (gAt (bst T n k (s_next (aft T (m + 1) s))) (1 - awk s))] [.int (nI (k + 1)), .ref (b + 43)] rfl ?_
          refine w_aa (k + 1) (b + (44 + (k + 1))) rfl (M_kk S (o := 43) (by decide)) (show X.2.2.1 (b + 43) = 5 from M_l S 43 (by decide)) rfl (by omega) (by decide) (M_mor S (by omega)) ?_
          refine w_N 4 173 [.ref b, .int (nI (k + 1)), .int (nI D), .int (nI (awk s)), .int 1, .int fs, .int mk, .long (stg s), lm_jk, .int ((val T (awk s) (aft T (m + 1) s)) + (gAt (bst T n k (s_next (aft T (m + 1) s))) (awk s))), .int (gAt (bst T n k (s_next (aft T (m + 1) s))) (1 - awk s))] [.int (gAt (bst T n k (s_next (aft T (m + 1) s))) (1 - awk s)), .int (1 - (nI (awk s))), .ref (b + (44 + (k + 1)))] rfl ?_
          refine w_is (1 - awk s) rfl (M_mok S (by omega)) (Nat.le_trans (M_64 S) (Nat.le_add_right _ _)) (M_mol S (by omega)) one_sub (by omega) (by decide) ?_
          refine w_N 4 31 [.ref b, .int (nI (k + 1)), .int (nI D), .int (nI (awk s)), .int 1, .int mk, .int (mk + 1), .long (stg s), lm_jk, .int ((val T (awk s) (aft T (m + 1) s)) + (gAt (bst T n k (s_next (aft T (m + 1) s))) (awk s))), .int (gAt (bst T n k (s_next (aft T (m + 1) s))) (1 - awk s))] [] rfl ?_
          have eo : bso T k (bst T n k) s (m + 1) = val T (awk s) (aft T (m + 1) s) + gAt (bst T n k (s_next (aft T (m + 1) s))) (awk s) := if_neg (by omega)
          have eh : bsh T k (bst T n k) s (m + 1) = gAt (bst T n k (s_next (aft T (m + 1) s))) (1 - awk s) := if_neg (by omega)
          have eb : bsl T k (bst T n k) s (m + 2) = (aI (m + 1), bso T k (bst T n k) s (m + 1), bsh T k (bst T n k) s (m + 1)) := if_pos ⟨c1, by rw [eo]; exact c4⟩
          have FU : fr (b + 36) (b + 49) hi3 (lm_up (lm_up hi3 (b + (44 + (k + 1))) (awk s) ((val T (awk s) (aft T (m + 1) s)) + (gAt (bst T n k (s_next (aft T (m + 1) s))) (awk s)))) (b + (44 + (k + 1))) (1 - awk s) (gAt (bst T n k (s_next (aft T (m + 1) s))) (1 - awk s))) := fr_up (fr_up fr_rfl (by omega)) (by omega)
          refine ih (m + 1) _ _ _ _ _ _ _ (by omega) (by rw [e4, nI_succ]) (rT_fr FU (by omega) (rT_fr F3 (by omega) H0)) (rS_fr FU (by omega) HS3) (fr_trans F0 (fr_trans F3 FU)) (fun j j1 j2 => ?_) (by rw [eb]; exact e4) ?_ ?_
          · rw [lm_up_rw (by omega), lm_up_rw (by omega)]; exact (G3 j j1 j2).trans (G0 j j1 j2)
          · rw [lm_up_nk (by omega), lm_up_eq, eb]; exact eo.symm
          · rw [lm_up_eq, eb]; exact eh.symm
    · refine w_N 3 31 [.ref b, .int (nI (k + 1)), .int (nI D), .int (nI (awk s)), .int 1, .int fs, .int (mk + 1), x7, x8, x9, x10] [] rfl ?_
      have eb : bsl T k (bst T n k) s (m + 2) = bsl T k (bst T n k) s (m + 1) := if_neg (fun z => by rw [c1] at z; exact absurd z.1 (by decide))
      exact ih (m + 1) hi' _ _ _ _ _ _ (by omega) (by rw [e4, nI_succ]) H0 HS0 F0 G0 (by rw [eb]; exact e1) (by rw [eb]; exact e2) (by rw [eb]; exact e3)
theorem FB_of {d k : Nat} (hk : k < 4) (hB : 1 ≤ k → FB (d + 1) k) : FB (d + 2) (k + 1) := by
  intro hi hl X b n D T s x y S H hT HS hw hD hx hy
  subst hx hy
  have hw2 := awk_lt s
  have hn10 := rTle H
  refine lm_w_in (Nat.le_of_ble_eq_true rfl) ?_
  show lm_wp (d + 2) 197 0 [.ref b, .int (nI (k + 1)), .int (nI D), lm_jk, lm_jk, lm_jk, lm_jk, lm_jk, lm_jk, lm_jk, lm_jk] [] (hi, hl, X) (fbP hi hl X b T n (k + 1) s)
  refine w_N 2 2 [.ref b, .int (nI (k + 1)), .int (nI D), lm_jk, lm_jk, lm_jk, lm_jk, lm_jk, lm_jk, lm_jk, lm_jk] [.int 2, .int (nI D)] rfl ?_
  refine w_rem rfl (by decide) ?_
  rw [hrem hw (by omega)]
  refine w_N 4 8 [.ref b, .int (nI (k + 1)), .int (nI D), .int (nI (awk s)), .int 0, lm_jk, lm_jk, lm_jk, lm_jk, lm_jk, lm_jk] [.ref b] rfl ?_
  refine w_gr (b + 43) rfl rfl rfl (M_kd S) (M_r S (k := 35) (o := 43) rfl) ?_
  refine w_N 1 12 [.ref b, .int (nI (k + 1)), .int (nI D), .int (nI (awk s)), .int 0, lm_jk, lm_jk, lm_jk, lm_jk, lm_jk, lm_jk] [.int (nI (k + 1)), .ref (b + 43)] rfl ?_
  refine w_aa (k + 1) (b + (44 + (k + 1))) rfl (M_kk S (o := 43) (by decide)) (show X.2.2.1 (b + 43) = 5 from M_l S 43 (by decide)) rfl (by omega) (by decide) (M_mor S (by omega)) ?_
  refine w_N 2 15 [.ref b, .int (nI (k + 1)), .int (nI D), .int (nI (awk s)), .int 0, lm_jk, lm_jk, lm_jk, lm_jk, lm_jk, lm_jk] [.int 0, .int 0, .ref (b + (44 + (k + 1)))] rfl ?_
  refine w_is 0 rfl (M_mok S (by omega)) (Nat.le_trans (M_64 S) (Nat.le_add_right _ _)) (M_mol S (by omega)) rfl (by decide) (by decide) ?_
  refine w_N 1 17 [.ref b, .int (nI (k + 1)), .int (nI D), .int (nI (awk s)), .int 0, lm_jk, lm_jk, lm_jk, lm_jk, lm_jk, lm_jk] [.ref b] rfl ?_
  refine w_gr (b + 43) rfl rfl rfl (M_kd S) (M_r S (k := 35) (o := 43) rfl) ?_
  refine w_N 1 21 [.ref b, .int (nI (k + 1)), .int (nI D), .int (nI (awk s)), .int 0, lm_jk, lm_jk, lm_jk, lm_jk, lm_jk, lm_jk] [.int (nI (k + 1)), .ref (b + 43)] rfl ?_
  refine w_aa (k + 1) (b + (44 + (k + 1))) rfl (M_kk S (o := 43) (by decide)) (show X.2.2.1 (b + 43) = 5 from M_l S 43 (by decide)) rfl (by omega) (by decide) (M_mor S (by omega)) ?_
  refine w_N 2 24 [.ref b, .int (nI (k + 1)), .int (nI D), .int (nI (awk s)), .int 0, lm_jk, lm_jk, lm_jk, lm_jk, lm_jk, lm_jk] [.int 0, .int 1, .ref (b + (44 + (k + 1)))] rfl ?_
  refine w_is 1 rfl (M_mok S (by omega)) (Nat.le_trans (M_64 S) (Nat.le_add_right _ _)) (M_mol S (by omega)) rfl (by decide) (by decide) ?_
  refine w_N 4 31 [.ref b, .int (nI (k + 1)), .int (nI D), .int (nI (awk s)), .int 0, .int (-1), .int (-1), lm_jk, lm_jk, lm_jk, lm_jk] [] rfl ?_
  obtain ⟨hi0, e0⟩ : ∃ q, q = lm_up (lm_up hi (b + (44 + (k + 1))) 0 0) (b + (44 + (k + 1))) 1 0 := ⟨_, rfl⟩
  rw [← e0]
  have F0 : fr (b + 36) (b + 49) hi hi0 := by rw [e0]; exact fr_up (fr_up fr_rfl (by omega)) (by omega)
  have G0 : ∀ j, k + 1 < j → j < 5 → hi0 (b + (44 + j)) = hi (b + (44 + j)) := fun j j1 j2 => by rw [e0, lm_up_rw (by omega), lm_up_rw (by omega)]
  clear e0
  have H0 := rT_fr F0 (by omega) H
  have HS0 := rS_fr F0 (by omega) HS
  refine w_N 2 34 [.ref b, .int (nI (k + 1)), .int (nI D), .int (nI (awk s)), .int 0, .int (-1), .int (-1), lm_jk, lm_jk, lm_jk, lm_jk] [.ref b, .int (-1)] rfl ?_
  refine w_gi (v := nI n) rfl rfl rfl (M_kd S) (rTn H0) ?_
  refine w_icmp_ge_f (t := 184) rfl rfl (aI_lt (i := 0) (by decide) (by omega) |>.mpr (by omega)) ?_
  refine w_N 2 43 [.ref b, .int (nI (k + 1)), .int (nI D), .int (nI (awk s)), .int 0, .int (-1), .int (-1), lm_jk, lm_jk, lm_jk, lm_jk] [.int (-1), .int (-1)] rfl ?_
  refine w_icmp_eq_t (t := 59) rfl rfl (by decide) ?_
  refine w_N 1 60 [.ref b, .int (nI (k + 1)), .int (nI D), .int (nI (awk s)), .int 0, .int (-1), .int (-1), lm_jk, lm_jk, lm_jk, lm_jk] [.ref b] rfl ?_
  refine w_cc (w_vst rfl rfl rfl (Nat.le_of_ble_eq_true rfl) (Nat.le_of_ble_eq_true rfl) (M_kd S)) (m_standing S HS0) ?_
  show lm_wp _ 197 63 [.ref b, .int (nI (k + 1)), .int (nI D), .int (nI (awk s)), .int 0, .int (-1), .int (-1), lm_jk, lm_jk, lm_jk, lm_jk] [.long (stg s)] (hi0, hl, X) _
  refine w_N 3 68 [.ref b, .int (nI (k + 1)), .int (nI D), .int (nI (awk s)), .int 0, .int (-1), .int (-1), .long (stg s), lm_jk, lm_jk, lm_jk] [.int (-1), .ref b] rfl ?_
  refine w_ca (w_vst rfl rfl rfl (Nat.le_of_ble_eq_true rfl) (Nat.le_of_ble_eq_true rfl) (M_kd S)) (m_doIt (hf := awk s) (i := 0) S H0 HS0 hT rfl (Nat.zero_le n) rfl) ?_
  rintro _ _ ⟨hi1, rfl, rfl, HS1, X1, D1⟩
  have H1 := rT_X X1 H0
  show lm_wp _ 197 71 [.ref b, .int (nI (k + 1)), .int (nI D), .int (nI (awk s)), .int 0, .int (-1), .int (-1), .long (stg s), lm_jk, lm_jk, lm_jk] [] (hi1, hl, X) _
  refine w_N 2 73 [.ref b, .int (nI (k + 1)), .int (nI D), .int (nI (awk s)), .int 0, .int (-1), .int (-1), .long (stg s), lm_jk, lm_jk, lm_jk] [.int (nI (awk s)), .ref b] rfl ?_
  refine w_cc (w_vst rfl rfl rfl (Nat.le_of_ble_eq_true rfl) (Nat.le_of_ble_eq_true rfl) (M_kd S)) (m_valueOfE S H1 HS1 rfl (awk_lt s)) ?_
  show lm_wp _ 197 76 [.ref b, .int (nI (k + 1)), .int (nI D), .int (nI (awk s)), .int 0, .int (-1), .int (-1), .long (stg s), lm_jk, lm_jk, lm_jk] [.int (val T (awk s) (aft T 0 s))] (hi1, hl, X) _
  refine w_N 5 83 [.ref b, .int (nI (k + 1)), .int (nI D), .int (nI (awk s)), .int 0, .int (-1), .int (-1), .long (stg s), lm_jk, .int (val T (awk s) (aft T 0 s)), .int 0] [.int 1, .int (nI (k + 1))] rfl ?_
  refine w_icmp_le (t := 125) rfl rfl (fun c1 => ?_) (fun c1 => ?_)
  · refine w_N 2 128 [.ref b, .int (nI (k + 1)), .int (nI D), .int (nI (awk s)), .int 0, .int (-1), .int (-1), .long (stg s), lm_jk, .int (val T (awk s) (aft T 0 s)), .int 0] [.long (stg s), .ref b] rfl ?_
    have F2 : fr (b + 36) (b + 49) hi1 hi1 := fr_rfl
    refine w_ca (w_vst rfl rfl rfl (Nat.le_of_ble_eq_true rfl) (Nat.le_of_ble_eq_true rfl) (M_kd S)) (lm_w_dep (d := 0) (by omega) (m_putBack (s := s) S)) ?_
    rintro _ _ ⟨hi3, rfl, rfl, HS3, X3, D3⟩
    have F3 : fr (b + 36) (b + 49) hi0 hi3 := rX_back X1 F2 X3 (by omega) HS0 HS3 (by rw [D3, F2 b (by omega), D1])
    have R3 : hi3 (b + (44 + (k + 1))) = hi0 (b + (44 + (k + 1))) := by rw [X3.1 _ (by omega) (by omega), X1.1 _ (by omega) (by omega)]
    have G3 : ∀ j, k + 1 < j → j < 5 → hi3 (b + (44 + j)) = hi0 (b + (44 + j)) := fun j j1 j2 => by rw [X3.1 _ (by omega) (by omega), X1.1 _ (by omega) (by omega)]
    show lm_wp _ 197 131 [.ref b, .int (nI (k + 1)), .int (nI D), .int (nI (awk s)), .int 0, .int (-1), .int (-1), .long (stg s), lm_jk, .int (val T (awk s) (aft T 0 s)), .int 0] [] (hi3, hl, X) _
    refine w_N 1 133 [.ref b, .int (nI (k + 1)), .int (nI D), .int (nI (awk s)), .int 0, .int (-1), .int (-1), .long (stg s), lm_jk, .int (val T (awk s) (aft T 0 s)), .int 0] [.int 0] rfl ?_
    refine w_if_eq_t (t := 149) rfl rfl (by decide) ?_
    refine w_N 3 153 [.ref b, .int (nI (k + 1)), .int (nI D), .int (nI (awk s)), .int 1, .int (-1), .int (-1), .long (stg s), lm_jk, .int (val T (awk s) (aft T 0 s)), .int 0] [.ref b] rfl ?_
    refine w_gr (b + 43) rfl rfl rfl (M_kd S) (M_r S (k := 35) (o := 43) rfl) ?_
    refine w_N 1 157 [.ref b, .int (nI (k + 1)), .int (nI D), .int (nI (awk s)), .int 1, .int (-1), .int (-1), .long (stg s), lm_jk, .int (val T (awk s) (aft T 0 s)), .int 0] [.int (nI (k + 1)), .ref (b + 43)] rfl ?_
    refine w_aa (k + 1) (b + (44 + (k + 1))) rfl (M_kk S (o := 43) (by decide)) (show X.2.2.1 (b + 43) = 5 from M_l S 43 (by decide)) rfl (by omega) (by decide) (M_mor S (by omega)) ?_
    refine w_N 2 161 [.ref b, .int (nI (k + 1)), .int (nI D), .int (nI (awk s)), .int 1, .int (-1), .int (-1), .long (stg s), lm_jk, .int (val T (awk s) (aft T 0 s)), .int 0] [.int (val T (awk s) (aft T 0 s)), .int (nI (awk s)), .ref (b + (44 + (k + 1)))] rfl ?_
    refine w_is (awk s) rfl (M_mok S (by omega)) (Nat.le_trans (M_64 S) (Nat.le_add_right _ _)) (M_mol S (by omega)) rfl (by omega) (by decide) ?_
    refine w_N 1 163 [.ref b, .int (nI (k + 1)), .int (nI D), .int (nI (awk s)), .int 1, .int (-1), .int (-1), .long (stg s), lm_jk, .int (val T (awk s) (aft T 0 s)), .int 0] [.ref b] rfl ?_
    refine w_gr (b + 43) rfl rfl rfl (M_kd S) (M_r S (k := 35) (o := 43) rfl) ?_
    refine w_N 1 167 [.ref b, .int (nI (k + 1)), .int (nI D), .int (nI (awk s)), .int 1, .int (-1), .int (-1), .long (stg s), lm_jk, .int (val T (awk s) (aft T 0 s)), .int 0] [.int (nI (k + 1)), .ref (b + 43)] rfl ?_
    refine w_aa (k + 1) (b + (44 + (k + 1))) rfl (M_kk S (o := 43) (by decide)) (show X.2.2.1 (b + 43) = 5 from M_l S 43 (by decide)) rfl (by omega) (by decide) (M_mor S (by omega)) ?_
    refine w_N 4 173 [.ref b, .int (nI (k + 1)), .int (nI D), .int (nI (awk s)), .int 1, .int (-1), .int (-1), .long (stg s), lm_jk, .int (val T (awk s) (aft T 0 s)), .int 0] [.int 0, .int (1 - (nI (awk s))), .ref (b + (44 + (k + 1)))] rfl ?_
    refine w_is (1 - awk s) rfl (M_mok S (by omega)) (Nat.le_trans (M_64 S) (Nat.le_add_right _ _)) (M_mol S (by omega)) one_sub (by omega) (by decide) ?_
    refine w_N 4 31 [.ref b, .int (nI (k + 1)), .int (nI D), .int (nI (awk s)), .int 1, .int (-1), .int 0, .long (stg s), lm_jk, .int (val T (awk s) (aft T 0 s)), .int 0] [] rfl ?_
    have hk0 : k = 0 := by
      have q := c1
      rw [show (1 : Int32) = nI 1 from rfl, nI_lt_iff (by omega) (by omega)] at q
      omega
    have eo : bso T k (bst T n k) s 0 = val T (awk s) (aft T 0 s) := if_pos hk0
    have eh : bsh T k (bst T n k) s 0 = 0 := if_pos hk0
    have b1 := bsl_1 (n := n) (k := k) (s := s) hT (by omega)
    have FU : fr (b + 36) (b + 49) hi3 (lm_up (lm_up hi3 (b + (44 + (k + 1))) (awk s) (val T (awk s) (aft T 0 s))) (b + (44 + (k + 1))) (1 - awk s) 0) := fr_up (fr_up fr_rfl (by omega)) (by omega)
    refine m_fb1 (hi := hi) S hT H HS hw hD hk hB (fun hi4 c fs x7 x8 x9 x10 F4 G4 q0 q1 q2 => ?_) n 0 _ _ _ _ _ _ _ (by omega) rfl (rT_fr FU (by omega) (rT_fr F3 (by omega) H0)) (rS_fr FU (by omega) HS3) (fr_trans F0 (fr_trans F3 FU)) (fun j j1 j2 => ?_) (by rw [b1]; rfl) ?_ ?_
    · have v0 : hi4 (b + (44 + (k + 1))) 0 = (bst T n (k + 1) s).2.1 := by
        show _ = (bsr (awk s) (bsl T k (bst T n k) s (n + 1))).2.1
        unfold bsr
        rcases (by omega : awk s = 0 ∨ awk s = 1) with h | h <;> rw [h] at q1 q2 ⊢
        · exact q1
        · exact q2
      have v1 : hi4 (b + (44 + (k + 1))) 1 = (bst T n (k + 1) s).2.2 := by
        show _ = (bsr (awk s) (bsl T k (bst T n k) s (n + 1))).2.2
        unfold bsr
        rcases (by omega : awk s = 0 ∨ awk s = 1) with h | h <;> rw [h] at q1 q2 ⊢
        · exact q2
        · exact q1
      refine w_N 1 185 [.ref b, .int (nI (k + 1)), .int (nI D), .int (nI (awk s)), .int 1, .int fs, .int c, x7, x8, x9, x10] [.ref b] rfl ?_
      refine w_gr (b + 36) rfl rfl rfl (M_kd S) (M_r S (k := 33) (o := 36) rfl) ?_
      refine w_N 1 189 [.ref b, .int (nI (k + 1)), .int (nI D), .int (nI (awk s)), .int 1, .int fs, .int c, x7, x8, x9, x10] [.int (nI (k + 1)), .ref (b + 36)] rfl ?_
      refine w_aa (k + 1) (b + (37 + (k + 1))) rfl (M_kk S (o := 36) (by decide)) (show X.2.2.1 (b + 36) = 5 from M_l S 36 (by decide)) rfl (by omega) (by decide) (M_bgr S (by omega)) ?_
      refine w_N 2 192 [.ref b, .int (nI (k + 1)), .int (nI D), .int (nI (awk s)), .int 1, .int fs, .int c, x7, x8, x9, x10] [.ref b, .int 0, .ref (b + (37 + (k + 1)))] rfl ?_
      refine w_gr (b + 43) rfl rfl rfl (M_kd S) (M_r S (k := 35) (o := 43) rfl) ?_
      refine w_N 1 196 [.ref b, .int (nI (k + 1)), .int (nI D), .int (nI (awk s)), .int 1, .int fs, .int c, x7, x8, x9, x10] [.int (nI (k + 1)), .ref (b + 43), .int 0, .ref (b + (37 + (k + 1)))] rfl ?_
      refine w_aa (k + 1) (b + (44 + (k + 1))) rfl (M_kk S (o := 43) (by decide)) (show X.2.2.1 (b + 43) = 5 from M_l S 43 (by decide)) rfl (by omega) (by decide) (M_mor S (by omega)) ?_
      refine w_N 1 198 [.ref b, .int (nI (k + 1)), .int (nI D), .int (nI (awk s)), .int 1, .int fs, .int c, x7, x8, x9, x10] [.int 0, .ref (b + (44 + (k + 1))), .int 0, .ref (b + (37 + (k + 1)))] rfl ?_
      refine w_ia 0 (v := hi4 (b + (44 + (k + 1))) 0) rfl (M_mok S (by omega)) (M_mol S (by omega)) rfl (by decide) (by decide) (rfl) ?_
      refine w_is 0 rfl (M_bgk S (by omega)) (Nat.le_trans (M_64 S) (Nat.le_add_right _ _)) (M_bgl S (by omega)) rfl (by decide) (by decide) ?_
      refine w_N 1 201 [.ref b, .int (nI (k + 1)), .int (nI D), .int (nI (awk s)), .int 1, .int fs, .int c, x7, x8, x9, x10] [.ref b] rfl ?_
      refine w_gr (b + 36) rfl rfl rfl (M_kd S) (M_r S (k := 33) (o := 36) rfl) ?_
      refine w_N 1 205 [.ref b, .int (nI (k + 1)), .int (nI D), .int (nI (awk s)), .int 1, .int fs, .int c, x7, x8, x9, x10] [.int (nI (k + 1)), .ref (b + 36)] rfl ?_
      refine w_aa (k + 1) (b + (37 + (k + 1))) rfl (M_kk S (o := 36) (by decide)) (show X.2.2.1 (b + 36) = 5 from M_l S 36 (by decide)) rfl (by omega) (by decide) (M_bgr S (by omega)) ?_
      refine w_N 2 208 [.ref b, .int (nI (k + 1)), .int (nI D), .int (nI (awk s)), .int 1, .int fs, .int c, x7, x8, x9, x10] [.ref b, .int 1, .ref (b + (37 + (k + 1)))] rfl ?_
      refine w_gr (b + 43) rfl rfl rfl (M_kd S) (M_r S (k := 35) (o := 43) rfl) ?_
      refine w_N 1 212 [.ref b, .int (nI (k + 1)), .int (nI D), .int (nI (awk s)), .int 1, .int fs, .int c, x7, x8, x9, x10] [.int (nI (k + 1)), .ref (b + 43), .int 1, .ref (b + (37 + (k + 1)))] rfl ?_
      refine w_aa (k + 1) (b + (44 + (k + 1))) rfl (M_kk S (o := 43) (by decide)) (show X.2.2.1 (b + 43) = 5 from M_l S 43 (by decide)) rfl (by omega) (by decide) (M_mor S (by omega)) ?_
      refine w_N 1 214 [.ref b, .int (nI (k + 1)), .int (nI D), .int (nI (awk s)), .int 1, .int fs, .int c, x7, x8, x9, x10] [.int 1, .ref (b + (44 + (k + 1))), .int 1, .ref (b + (37 + (k + 1)))] rfl ?_
      refine w_ia 1 (v := hi4 (b + (44 + (k + 1))) 1) rfl (M_mok S (by omega)) (M_mol S (by omega)) rfl (by decide) (by decide) ((lm_up_na (by omega)).trans (rfl)) ?_
      refine w_is 1 rfl (M_bgk S (by omega)) (Nat.le_trans (M_64 S) (Nat.le_add_right _ _)) (M_bgl S (by omega)) rfl (by decide) (by decide) ?_
      refine w_N 1 217 [.ref b, .int (nI (k + 1)), .int (nI D), .int (nI (awk s)), .int 1, .int fs, .int c, x7, x8, x9, x10] [.ref b] rfl ?_
      refine w_gr (b + 42) rfl rfl rfl (M_kd S) (M_r S (k := 34) (o := 42) rfl) ?_
      refine w_N 2 223 [.ref b, .int (nI (k + 1)), .int (nI D), .int (nI (awk s)), .int 1, .int fs, .int c, x7, x8, x9, x10] [.int fs, .int (nI (k + 1)), .ref (b + 42)] rfl ?_
      refine w_is (k + 1) rfl (show X.2.1 (b + 42) = 1 from M_k S 42 (by decide)) (Nat.le_trans (M_64 S) (Nat.le_add_right _ _)) (show X.2.2.1 (b + 42) = 5 from M_l S 42 (by decide)) rfl (by omega) (by decide) ?_
      refine w_rv rfl rfl ?_
      refine ⟨_, rfl, rfl, fr_trans F4 (fr_up (fr_up (fr_up fr_rfl (by omega)) (by omega)) (by omega)), fun j j1 j2 => ?_, ?_, ?_, ?_⟩
      · rw [lm_up_rw (by omega), lm_up_rw (by omega), lm_up_rw (by omega)]; exact G4 j j1 j2
      · rw [lm_up_na (by omega), lm_up_nk (by decide), lm_up_eq]; exact v0
      · rw [lm_up_na (by omega), lm_up_eq]; exact v1
      · rw [lm_up_eq]; exact q0
    · rw [lm_up_rw (by omega), lm_up_rw (by omega)]; exact (G3 j j1 j2).trans (G0 j j1 j2)
    · rw [lm_up_nk (by omega), lm_up_eq, b1]; exact eo.symm
    · rw [lm_up_eq, b1]; exact eh.symm
  · refine w_N 7 93 [.ref b, .int (nI (k + 1)), .int (nI D), .int (nI (awk s)), .int 0, .int (-1), .int (-1), .long (stg s), lm_jk, .int (val T (awk s) (aft T 0 s)), .int 0] [.int ((nI D) + 1), .int ((nI (k + 1)) - 1), .ref b] rfl ?_
    have hk1 : 1 ≤ k := by
      have q := c1
      rw [show (1 : Int32) = nI 1 from rfl, nI_lt_iff (by omega) (by omega)] at q
      omega
    refine w_ca (w_vst rfl rfl rfl (Nat.le_of_ble_eq_true rfl) (Nat.le_of_ble_eq_true rfl) (M_kd S)) (hB hk1 _ _ _ _ _ (D + 1) _ (s_next (aft T 0 s)) _ _ S H1 hT (rS_next HS1) (by rw [awk_next, (aft_ok (hf := awk s) hT (Nat.zero_le n) rfl).2]; omega) (by omega) (nI_prd k) (nI_succ D).symm) ?_
    rintro _ _ ⟨hi2, rfl, rfl, F2, G2, g0, g1, g2⟩
    have ga := gAt_of g0 g1 (awk_lt s)
    have gb := gAt_of g0 g1 (show 1 - awk s < 2 by omega)
    show lm_wp _ 197 96 [.ref b, .int (nI (k + 1)), .int (nI D), .int (nI (awk s)), .int 0, .int (-1), .int (-1), .long (stg s), lm_jk, .int (val T (awk s) (aft T 0 s)), .int 0] [] (hi2, hl, X) _
    refine w_N 2 99 [.ref b, .int (nI (k + 1)), .int (nI D), .int (nI (awk s)), .int 0, .int (-1), .int (-1), .long (stg s), lm_jk, .int (val T (awk s) (aft T 0 s)), .int 0] [.ref b, .int (val T (awk s) (aft T 0 s))] rfl ?_
    refine w_gr (b + 36) rfl rfl rfl (M_kd S) (M_r S (k := 33) (o := 36) rfl) ?_
    refine w_N 3 105 [.ref b, .int (nI (k + 1)), .int (nI D), .int (nI (awk s)), .int 0, .int (-1), .int (-1), .long (stg s), lm_jk, .int (val T (awk s) (aft T 0 s)), .int 0] [.int ((nI (k + 1)) - 1), .ref (b + 36), .int (val T (awk s) (aft T 0 s))] rfl ?_
    refine w_aa k (b + (37 + k)) rfl (M_kk S (o := 36) (by decide)) (show X.2.2.1 (b + 36) = 5 from M_l S 36 (by decide)) (nI_prd k) (by omega) (by decide) (M_bgr S (by omega)) ?_
    refine w_N 1 107 [.ref b, .int (nI (k + 1)), .int (nI D), .int (nI (awk s)), .int 0, .int (-1), .int (-1), .long (stg s), lm_jk, .int (val T (awk s) (aft T 0 s)), .int 0] [.int (nI (awk s)), .ref (b + (37 + k)), .int (val T (awk s) (aft T 0 s))] rfl ?_
    refine w_ia (awk s) (v := gAt (bst T n k (s_next (aft T 0 s))) (awk s)) rfl (M_bgk S (by omega)) (M_bgl S (by omega)) rfl (by omega) (by decide) (ga) ?_
    refine w_N 3 112 [.ref b, .int (nI (k + 1)), .int (nI D), .int (nI (awk s)), .int 0, .int (-1), .int (-1), .long (stg s), lm_jk, .int ((val T (awk s) (aft T 0 s)) + (gAt (bst T n k (s_next (aft T 0 s))) (awk s))), .int 0] [.ref b] rfl ?_
    refine w_gr (b + 36) rfl rfl rfl (M_kd S) (M_r S (k := 33) (o := 36) rfl) ?_
    refine w_N 3 118 [.ref b, .int (nI (k + 1)), .int (nI D), .int (nI (awk s)), .int 0, .int (-1), .int (-1), .long (stg s), lm_jk, .int ((val T (awk s) (aft T 0 s)) + (gAt (bst T n k (s_next (aft T 0 s))) (awk s))), .int 0] [.int ((nI (k + 1)) - 1), .ref (b + 36)] rfl ?_
    refine w_aa k (b + (37 + k)) rfl (M_kk S (o := 36) (by decide)) (show X.2.2.1 (b + 36) = 5 from M_l S 36 (by decide)) (nI_prd k) (by omega) (by decide) (M_bgr S (by omega)) ?_
    refine w_N 3 122 [.ref b, .int (nI (k + 1)), .int (nI D), .int (nI (awk s)), .int 0, .int (-1), .int (-1), .long (stg s), lm_jk, .int ((val T (awk s) (aft T 0 s)) + (gAt (bst T n k (s_next (aft T 0 s))) (awk s))), .int 0] [.int (1 - (nI (awk s))), .ref (b + (37 + k))] rfl ?_
    refine w_ia (1 - awk s) (v := gAt (bst T n k (s_next (aft T 0 s))) (1 - awk s)) rfl (M_bgk S (by omega)) (M_bgl S (by omega)) one_sub (by omega) (by decide) (gb) ?_
    refine w_N 3 128 [.ref b, .int (nI (k + 1)), .int (nI D), .int (nI (awk s)), .int 0, .int (-1), .int (-1), .long (stg s), lm_jk, .int ((val T (awk s) (aft T 0 s)) + (gAt (bst T n k (s_next (aft T 0 s))) (awk s))), .int (gAt (bst T n k (s_next (aft T 0 s))) (1 - awk s))] [.long (stg s), .ref b] rfl ?_
    refine w_ca (w_vst rfl rfl rfl (Nat.le_of_ble_eq_true rfl) (Nat.le_of_ble_eq_true rfl) (M_kd S)) (lm_w_dep (d := 0) (by omega) (m_putBack (s := s) S)) ?_
    rintro _ _ ⟨hi3, rfl, rfl, HS3, X3, D3⟩
    have F3 : fr (b + 36) (b + 49) hi0 hi3 := rX_back X1 F2 X3 (by omega) HS0 HS3 (by rw [D3, F2 b (by omega), D1])
    have R3 : hi3 (b + (44 + (k + 1))) = hi0 (b + (44 + (k + 1))) := by rw [X3.1 _ (by omega) (by omega), G2 (k + 1) (by omega) (by omega), X1.1 _ (by omega) (by omega)]
    have G3 : ∀ j, k + 1 < j → j < 5 → hi3 (b + (44 + j)) = hi0 (b + (44 + j)) := fun j j1 j2 => by rw [X3.1 _ (by omega) (by omega), G2 j (by omega) (by omega), X1.1 _ (by omega) (by omega)]
    show lm_wp _ 197 131 [.ref b, .int (nI (k + 1)), .int (nI D), .int (nI (awk s)), .int 0, .int (-1), .int (-1), .long (stg s), lm_jk, .int ((val T (awk s) (aft T 0 s)) + (gAt (bst T n k (s_next (aft T 0 s))) (awk s))), .int (gAt (bst T n k (s_next (aft T 0 s))) (1 - awk s))] [] (hi3, hl, X) _
    refine w_N 1 133 [.ref b, .int (nI (k + 1)), .int (nI D), .int (nI (awk s)), .int 0, .int (-1), .int (-1), .long (stg s), lm_jk, .int ((val T (awk s) (aft T 0 s)) + (gAt (bst T n k (s_next (aft T 0 s))) (awk s))), .int (gAt (bst T n k (s_next (aft T 0 s))) (1 - awk s))] [.int 0] rfl ?_
    refine w_if_eq_t (t := 149) rfl rfl (by decide) ?_
    refine w_N 3 153 [.ref b, .int (nI (k + 1)), .int (nI D), .int (nI (awk s)), .int 1, .int (-1), .int (-1), .long (stg s), lm_jk, .int ((val T (awk s) (aft T 0 s)) + (gAt (bst T n k (s_next (aft T 0 s))) (awk s))), .int (gAt (bst T n k (s_next (aft T 0 s))) (1 - awk s))] [.ref b] rfl ?_
    refine w_gr (b + 43) rfl rfl rfl (M_kd S) (M_r S (k := 35) (o := 43) rfl) ?_
    refine w_N 1 157 [.ref b, .int (nI (k + 1)), .int (nI D), .int (nI (awk s)), .int 1, .int (-1), .int (-1), .long (stg s), lm_jk, .int ((val T (awk s) (aft T 0 s)) + (gAt (bst T n k (s_next (aft T 0 s))) (awk s))), .int (gAt (bst T n k (s_next (aft T 0 s))) (1 - awk s))] [.int (nI (k + 1)), .ref (b + 43)] rfl ?_
    refine w_aa (k + 1) (b + (44 + (k + 1))) rfl (M_kk S (o := 43) (by decide)) (show X.2.2.1 (b + 43) = 5 from M_l S 43 (by decide)) rfl (by omega) (by decide) (M_mor S (by omega)) ?_
    refine w_N 2 161 [.ref b, .int (nI (k + 1)), .int (nI D), .int (nI (awk s)), .int 1, .int (-1), .int (-1), .long (stg s), lm_jk, .int ((val T (awk s) (aft T 0 s)) + (gAt (bst T n k (s_next (aft T 0 s))) (awk s))), .int (gAt (bst T n k (s_next (aft T 0 s))) (1 - awk s))] [.int ((val T (awk s) (aft T 0 s)) + (gAt (bst T n k (s_next (aft T 0 s))) (awk s))), .int (nI (awk s)), .ref (b + (44 + (k + 1)))] rfl ?_
    refine w_is (awk s) rfl (M_mok S (by omega)) (Nat.le_trans (M_64 S) (Nat.le_add_right _ _)) (M_mol S (by omega)) rfl (by omega) (by decide) ?_
    refine w_N 1 163 [.ref b, .int (nI (k + 1)), .int (nI D), .int (nI (awk s)), .int 1, .int (-1), .int (-1), .long (stg s), lm_jk, .int ((val T (awk s) (aft T 0 s)) + (gAt (bst T n k (s_next (aft T 0 s))) (awk s))), .int (gAt (bst T n k (s_next (aft T 0 s))) (1 - awk s))] [.ref b] rfl ?_
    refine w_gr (b + 43) rfl rfl rfl (M_kd S) (M_r S (k := 35) (o := 43) rfl) ?_
    refine w_N 1 167 [.ref b, .int (nI (k + 1)), .int (nI D), .int (nI (awk s)), .int 1, .int (-1), .int (-1), .long (stg s), lm_jk, .int ((val T (awk s) (aft T 0 s)) + (gAt (bst T n k (s_next (aft T 0 s))) (awk s))), .int (gAt (bst T n k (s_next (aft T 0 s))) (1 - awk s))] [.int (nI (k + 1)), .ref (b + 43)] rfl ?_
    refine w_aa (k + 1) (b + (44 + (k + 1))) rfl (M_kk S (o := 43) (by decide)) (show X.2.2.1 (b + 43) = 5 from M_l S 43 (by decide)) rfl (by omega) (by decide) (M_mor S (by omega)) ?_
    refine w_N 4 173 [.ref b, .int (nI (k + 1)), .int (nI D), .int (nI (awk s)), .int 1, .int (-1), .int (-1), .long (stg s), lm_jk, .int ((val T (awk s) (aft T 0 s)) + (gAt (bst T n k (s_next (aft T 0 s))) (awk s))), .int (gAt (bst T n k (s_next (aft T 0 s))) (1 - awk s))] [.int (gAt (bst T n k (s_next (aft T 0 s))) (1 - awk s)), .int (1 - (nI (awk s))), .ref (b + (44 + (k + 1)))] rfl ?_
    refine w_is (1 - awk s) rfl (M_mok S (by omega)) (Nat.le_trans (M_64 S) (Nat.le_add_right _ _)) (M_mol S (by omega)) one_sub (by omega) (by decide) ?_
    refine w_N 4 31 [.ref b, .int (nI (k + 1)), .int (nI D), .int (nI (awk s)), .int 1, .int (-1), .int 0, .long (stg s), lm_jk, .int ((val T (awk s) (aft T 0 s)) + (gAt (bst T n k (s_next (aft T 0 s))) (awk s))), .int (gAt (bst T n k (s_next (aft T 0 s))) (1 - awk s))] [] rfl ?_
    have eo : bso T k (bst T n k) s 0 = val T (awk s) (aft T 0 s) + gAt (bst T n k (s_next (aft T 0 s))) (awk s) := if_neg (by omega)
    have eh : bsh T k (bst T n k) s 0 = gAt (bst T n k (s_next (aft T 0 s))) (1 - awk s) := if_neg (by omega)
    have b1 := bsl_1 (n := n) (k := k) (s := s) hT (by omega)
    have FU : fr (b + 36) (b + 49) hi3 (lm_up (lm_up hi3 (b + (44 + (k + 1))) (awk s) ((val T (awk s) (aft T 0 s)) + (gAt (bst T n k (s_next (aft T 0 s))) (awk s)))) (b + (44 + (k + 1))) (1 - awk s) (gAt (bst T n k (s_next (aft T 0 s))) (1 - awk s))) := fr_up (fr_up fr_rfl (by omega)) (by omega)
    refine m_fb1 (hi := hi) S hT H HS hw hD hk hB (fun hi4 c fs x7 x8 x9 x10 F4 G4 q0 q1 q2 => ?_) n 0 _ _ _ _ _ _ _ (by omega) rfl (rT_fr FU (by omega) (rT_fr F3 (by omega) H0)) (rS_fr FU (by omega) HS3) (fr_trans F0 (fr_trans F3 FU)) (fun j j1 j2 => ?_) (by rw [b1]; rfl) ?_ ?_
    · have v0 : hi4 (b + (44 + (k + 1))) 0 = (bst T n (k + 1) s).2.1 := by
        show _ = (bsr (awk s) (bsl T k (bst T n k) s (n + 1))).2.1
        unfold bsr
        rcases (by omega : awk s = 0 ∨ awk s = 1) with h | h <;> rw [h] at q1 q2 ⊢
        · exact q1
        · exact q2
      have v1 : hi4 (b + (44 + (k + 1))) 1 = (bst T n (k + 1) s).2.2 := by
        show _ = (bsr (awk s) (bsl T k (bst T n k) s (n + 1))).2.2
        unfold bsr
        rcases (by omega : awk s = 0 ∨ awk s = 1) with h | h <;> rw [h] at q1 q2 ⊢
        · exact q2
        · exact q1
      refine w_N 1 185 [.ref b, .int (nI (k + 1)), .int (nI D), .int (nI (awk s)), .int 1, .int fs, .int c, x7, x8, x9, x10] [.ref b] rfl ?_
      refine w_gr (b + 36) rfl rfl rfl (M_kd S) (M_r S (k := 33) (o := 36) rfl) ?_
      refine w_N 1 189 [.ref b, .int (nI (k + 1)), .int (nI D), .int (nI (awk s)), .int 1, .int fs, .int c, x7, x8, x9, x10] [.int (nI (k + 1)), .ref (b + 36)] rfl ?_
      refine w_aa (k + 1) (b + (37 + (k + 1))) rfl (M_kk S (o := 36) (by decide)) (show X.2.2.1 (b + 36) = 5 from M_l S 36 (by decide)) rfl (by omega) (by decide) (M_bgr S (by omega)) ?_
      refine w_N 2 192 [.ref b, .int (nI (k + 1)), .int (nI D), .int (nI (awk s)), .int 1, .int fs, .int c, x7, x8, x9, x10] [.ref b, .int 0, .ref (b + (37 + (k + 1)))] rfl ?_
      refine w_gr (b + 43) rfl rfl rfl (M_kd S) (M_r S (k := 35) (o := 43) rfl) ?_
      refine w_N 1 196 [.ref b, .int (nI (k + 1)), .int (nI D), .int (nI (awk s)), .int 1, .int fs, .int c, x7, x8, x9, x10] [.int (nI (k + 1)), .ref (b + 43), .int 0, .ref (b + (37 + (k + 1)))] rfl ?_
      refine w_aa (k + 1) (b + (44 + (k + 1))) rfl (M_kk S (o := 43) (by decide)) (show X.2.2.1 (b + 43) = 5 from M_l S 43 (by decide)) rfl (by omega) (by decide) (M_mor S (by omega)) ?_
      refine w_N 1 198 [.ref b, .int (nI (k + 1)), .int (nI D), .int (nI (awk s)), .int 1, .int fs, .int c, x7, x8, x9, x10] [.int 0, .ref (b + (44 + (k + 1))), .int 0, .ref (b + (37 + (k + 1)))] rfl ?_
      refine w_ia 0 (v := hi4 (b + (44 + (k + 1))) 0) rfl (M_mok S (by omega)) (M_mol S (by omega)) rfl (by decide) (by decide) (rfl) ?_
      refine w_is 0 rfl (M_bgk S (by omega)) (Nat.le_trans (M_64 S) (Nat.le_add_right _ _)) (M_bgl S (by omega)) rfl (by decide) (by decide) ?_
      refine w_N 1 201 [.ref b, .int (nI (k + 1)), .int (nI D), .int (nI (awk s)), .int 1, .int fs, .int c, x7, x8, x9, x10] [.ref b] rfl ?_
      refine w_gr (b + 36) rfl rfl rfl (M_kd S) (M_r S (k := 33) (o := 36) rfl) ?_
      refine w_N 1 205 [.ref b, .int (nI (k + 1)), .int (nI D), .int (nI (awk s)), .int 1, .int fs, .int c, x7, x8, x9, x10] [.int (nI (k + 1)), .ref (b + 36)] rfl ?_
      refine w_aa (k + 1) (b + (37 + (k + 1))) rfl (M_kk S (o := 36) (by decide)) (show X.2.2.1 (b + 36) = 5 from M_l S 36 (by decide)) rfl (by omega) (by decide) (M_bgr S (by omega)) ?_
      refine w_N 2 208 [.ref b, .int (nI (k + 1)), .int (nI D), .int (nI (awk s)), .int 1, .int fs, .int c, x7, x8, x9, x10] [.ref b, .int 1, .ref (b + (37 + (k + 1)))] rfl ?_
      refine w_gr (b + 43) rfl rfl rfl (M_kd S) (M_r S (k := 35) (o := 43) rfl) ?_
      refine w_N 1 212 [.ref b, .int (nI (k + 1)), .int (nI D), .int (nI (awk s)), .int 1, .int fs, .int c, x7, x8, x9, x10] [.int (nI (k + 1)), .ref (b + 43), .int 1, .ref (b + (37 + (k + 1)))] rfl ?_
      refine w_aa (k + 1) (b + (44 + (k + 1))) rfl (M_kk S (o := 43) (by decide)) (show X.2.2.1 (b + 43) = 5 from M_l S 43 (by decide)) rfl (by omega) (by decide) (M_mor S (by omega)) ?_
      refine w_N 1 214 [.ref b, .int (nI (k + 1)), .int (nI D), .int (nI (awk s)), .int 1, .int fs, .int c, x7, x8, x9, x10] [.int 1, .ref (b + (44 + (k + 1))), .int 1, .ref (b + (37 + (k + 1)))] rfl ?_
      refine w_ia 1 (v := hi4 (b + (44 + (k + 1))) 1) rfl (M_mok S (by omega)) (M_mol S (by omega)) rfl (by decide) (by decide) ((lm_up_na (by omega)).trans (rfl)) ?_
      refine w_is 1 rfl (M_bgk S (by omega)) (Nat.le_trans (M_64 S) (Nat.le_add_right _ _)) (M_bgl S (by omega)) rfl (by decide) (by decide) ?_
      refine w_N 1 217 [.ref b, .int (nI (k + 1)), .int (nI D), .int (nI (awk s)), .int 1, .int fs, .int c, x7, x8, x9, x10] [.ref b] rfl ?_
      refine w_gr (b + 42) rfl rfl rfl (M_kd S) (M_r S (k := 34) (o := 42) rfl) ?_
      refine w_N 2 223 [.ref b, .int (nI (k + 1)), .int (nI D), .int (nI (awk s)), .int 1, .int fs, .int c, x7, x8, x9, x10] [.int fs, .int (nI (k + 1)), .ref (b + 42)] rfl ?_
      refine w_is (k + 1) rfl (show X.2.1 (b + 42) = 1 from M_k S 42 (by decide)) (Nat.le_trans (M_64 S) (Nat.le_add_right _ _)) (show X.2.2.1 (b + 42) = 5 from M_l S 42 (by decide)) rfl (by omega) (by decide) ?_
      refine w_rv rfl rfl ?_
      refine ⟨_, rfl, rfl, fr_trans F4 (fr_up (fr_up (fr_up fr_rfl (by omega)) (by omega)) (by omega)), fun j j1 j2 => ?_, ?_, ?_, ?_⟩
      · rw [lm_up_rw (by omega), lm_up_rw (by omega), lm_up_rw (by omega)]; exact G4 j j1 j2
      · rw [lm_up_na (by omega), lm_up_nk (by decide), lm_up_eq]; exact v0
      · rw [lm_up_na (by omega), lm_up_eq]; exact v1
      · rw [lm_up_eq]; exact q0
    · rw [lm_up_rw (by omega), lm_up_rw (by omega)]; exact (G3 j j1 j2).trans (G0 j j1 j2)
    · rw [lm_up_nk (by omega), lm_up_eq, b1]; exact eo.symm
    · rw [lm_up_eq, b1]; exact eh.symm
theorem FB_all : ∀ k d, k < 4 → FB (d + k + 2) (k + 1) := by
  intro k
  induction k with
  | zero => intro d _; exact FB_of (by decide) (fun z => absurd z (by decide))
  | succ k ih => intro d h; exact FB_of (d := d + k + 1) h (fun _ => ih d (by omega))
theorem m_findBest {d : Nat} {hi : Nat → Nat → Int32} {hl : Nat → Nat → Int64} {X : lm_X} {b n D : Nat} {T : lm_T} {s : Int32} (S : sh_M X b) (H : rT hi b T n) (HS : rS hi b s) (hT : okT T n) {k : Nat} {x y : Int32} (hw : awk s = D % 2) (hD : D + 4 < 2147483648) (h1 : 1 ≤ k) (h4 : k ≤ 4) (hx : x = nI k) (hy : y = nI D) : lm_w (d + 5) 197 [.ref b, .int x, .int y] (hi, hl, X) (fbP hi hl X b T n k s) := by
  obtain ⟨k, rfl⟩ : ∃ j, k = j + 1 := ⟨k - 1, by omega⟩
  exact lm_w_dep (d := d + k + 2) (by omega) (FB_all k d (by omega) _ _ _ _ _ _ _ _ _ _ S H hT HS hw (by omega) hx hy)
theorem m_ch1 {d : Nat} {hi : Nat → Nat → Int32} {hl : Nat → Nat → Int64} {X : lm_X} {b n D : Nat} {T : lm_T} {s : Int32} (S : sh_M X b) (H : rT hi b T n) (HS : rS hi b s) (hT : okT T n) (HD : hi b 14 = nI D) (hw : awk s = D % 2) (hD : D + 4 < 2147483648) {a : Nat} (ha : a ≤ 99) : lm_w (d + 7) 184 [.ref b, .int 1, .int (nI a)] (hi, hl, X) (fun v h1 => ∃ hi', v = some (.int (aI (chs T n 1 a s))) ∧ h1 = (hi', hl, X) ∧ fr (b + 36) (b + 49) hi hi') := by
  refine lm_w_in (Nat.le_of_ble_eq_true rfl) ?_
  show lm_wp (d + 7) 184 0 [.ref b, .int 1, .int (nI a), lm_jk, lm_jk, lm_jk] [] (hi, hl, X) _
  refine w_N 1 1 [.ref b, .int 1, .int (nI a), lm_jk, lm_jk, lm_jk] [.ref b] rfl ?_
  refine w_gi (v := nI D) rfl rfl rfl (M_kd S) (HD) ?_
  refine w_N 1 5 [.ref b, .int 1, .int (nI a), lm_jk, lm_jk, lm_jk] [.int 2, .int (nI D)] rfl ?_
  refine w_rem rfl (by decide) ?_
  rw [hrem hw (by omega)]
  refine w_N 4 11 [.ref b, .int 1, .int (nI a), .int (nI (awk s)), .int (-1), lm_jk] [.int 1] rfl ?_
  refine w_ts (t := 44) rfl (by decide) rfl ?_
  refine w_N 2 46 [.ref b, .int 1, .int (nI a), .int (nI (awk s)), .int (-1), lm_jk] [.int 0, .ref b] rfl ?_
  refine w_cc (w_vst rfl rfl rfl (Nat.le_of_ble_eq_true rfl) (Nat.le_of_ble_eq_true rfl) (M_kd S)) (m_greatest (d := d + 3) (both := false) S H HS hT HD hw (by omega)) ?_
  show lm_wp _ 184 49 [.ref b, .int 1, .int (nI a), .int (nI (awk s)), .int (-1), lm_jk] [.int (aI (mto T n s false))] (hi, hl, X) _
  refine w_ri rfl rfl ?_
  exact ⟨hi, rfl, rfl, fr_rfl⟩
theorem m_ch2 {d : Nat} {hi : Nat → Nat → Int32} {hl : Nat → Nat → Int64} {X : lm_X} {b n D : Nat} {T : lm_T} {s : Int32} (S : sh_M X b) (H : rT hi b T n) (HS : rS hi b s) (hT : okT T n) (HD : hi b 14 = nI D) (hw : awk s = D % 2) (hD : D + 4 < 2147483648) {a : Nat} (ha : a ≤ 99) : lm_w (d + 7) 184 [.ref b, .int 2, .int (nI a)] (hi, hl, X) (fun v h1 => ∃ hi', v = some (.int (aI (chs T n 2 a s))) ∧ h1 = (hi', hl, X) ∧ fr (b + 36) (b + 49) hi hi') := by
  refine lm_w_in (Nat.le_of_ble_eq_true rfl) ?_
  show lm_wp (d + 7) 184 0 [.ref b, .int 2, .int (nI a), lm_jk, lm_jk, lm_jk] [] (hi, hl, X) _
  refine w_N 1 1 [.ref b, .int 2, .int (nI a), lm_jk, lm_jk, lm_jk] [.ref b] rfl ?_
  refine w_gi (v := nI D) rfl rfl rfl (M_kd S) (HD) ?_
  refine w_N 1 5 [.ref b, .int 2, .int (nI a), lm_jk, lm_jk, lm_jk] [.int 2, .int (nI D)] rfl ?_
  refine w_rem rfl (by decide) ?_
  rw [hrem hw (by omega)]
  refine w_N 4 11 [.ref b, .int 2, .int (nI a), .int (nI (awk s)), .int (-1), lm_jk] [.int 2] rfl ?_
  refine w_ts (t := 50) rfl (by decide) rfl ?_
  refine w_N 2 52 [.ref b, .int 2, .int (nI a), .int (nI (awk s)), .int (-1), lm_jk] [.int 1, .ref b] rfl ?_
  refine w_cc (w_vst rfl rfl rfl (Nat.le_of_ble_eq_true rfl) (Nat.le_of_ble_eq_true rfl) (M_kd S)) (m_greatest (d := d + 3) (both := true) S H HS hT HD hw (by omega)) ?_
  show lm_wp _ 184 55 [.ref b, .int 2, .int (nI a), .int (nI (awk s)), .int (-1), lm_jk] [.int (aI (mto T n s true))] (hi, hl, X) _
  refine w_ri rfl rfl ?_
  exact ⟨hi, rfl, rfl, fr_rfl⟩
theorem m_ch3 {d : Nat} {hi : Nat → Nat → Int32} {hl : Nat → Nat → Int64} {X : lm_X} {b n D : Nat} {T : lm_T} {s : Int32} (S : sh_M X b) (H : rT hi b T n) (HS : rS hi b s) (hT : okT T n) (HD : hi b 14 = nI D) (hw : awk s = D % 2) (hD : D + 4 < 2147483648) {a : Nat} (ha : a ≤ 99) : lm_w (d + 7) 184 [.ref b, .int 3, .int (nI a)] (hi, hl, X) (fun v h1 => ∃ hi', v = some (.int (aI (chs T n 3 a s))) ∧ h1 = (hi', hl, X) ∧ fr (b + 36) (b + 49) hi hi') := by
  refine lm_w_in (Nat.le_of_ble_eq_true rfl) ?_
  show lm_wp (d + 7) 184 0 [.ref b, .int 3, .int (nI a), lm_jk, lm_jk, lm_jk] [] (hi, hl, X) _
  refine w_N 1 1 [.ref b, .int 3, .int (nI a), lm_jk, lm_jk, lm_jk] [.ref b] rfl ?_
  refine w_gi (v := nI D) rfl rfl rfl (M_kd S) (HD) ?_
  refine w_N 1 5 [.ref b, .int 3, .int (nI a), lm_jk, lm_jk, lm_jk] [.int 2, .int (nI D)] rfl ?_
  refine w_rem rfl (by decide) ?_
  rw [hrem hw (by omega)]
  refine w_N 4 11 [.ref b, .int 3, .int (nI a), .int (nI (awk s)), .int (-1), lm_jk] [.int 3] rfl ?_
  refine w_ts (t := 56) rfl (by decide) rfl ?_
  refine w_N 3 59 [.ref b, .int 3, .int (nI a), .int (nI (awk s)), .int (-1), lm_jk] [.int 4, .int (nI a), .ref b] rfl ?_
  refine w_rem rfl (by decide) ?_
  refine w_N 3 63 [.ref b, .int 3, .int (nI a), .int (nI (awk s)), .int (-1), lm_jk] [.ref b, .int (((nI a) - (nI a) / 4 * 4) + 1), .ref b] rfl ?_
  refine w_gi (v := nI D) rfl rfl rfl (M_kd S) (HD) ?_
  refine w_ca (w_vst rfl rfl rfl (Nat.le_of_ble_eq_true rfl) (Nat.le_of_ble_eq_true rfl) (M_kd S)) (lm_w_dep (d := d + 5) (by omega) (m_findBest (k := a % 4 + 1) S H HS hT hw hD (by omega) (by omega) (rem4 ha) rfl)) ?_
  rintro _ _ ⟨hi1, rfl, rfl, F1, G1, g0, g1, g2⟩
  show lm_wp _ 184 69 [.ref b, .int 3, .int (nI a), .int (nI (awk s)), .int (-1), lm_jk] [] (hi1, hl, X) _
  refine w_N 1 70 [.ref b, .int 3, .int (nI a), .int (nI (awk s)), .int (-1), lm_jk] [.ref b] rfl ?_
  refine w_gr (b + 42) rfl rfl rfl (M_kd S) (M_r S (k := 34) (o := 42) rfl) ?_
  refine w_N 2 75 [.ref b, .int 3, .int (nI a), .int (nI (awk s)), .int (-1), lm_jk] [.int 4, .int (nI a), .ref (b + 42)] rfl ?_
  refine w_rem rfl (by decide) ?_
  refine w_N 2 78 [.ref b, .int 3, .int (nI a), .int (nI (awk s)), .int (-1), lm_jk] [.int (((nI a) - (nI a) / 4 * 4) + 1), .ref (b + 42)] rfl ?_
  refine w_ia (a % 4 + 1) (v := (bst T n (a % 4 + 1) s).1) rfl (show X.2.1 (b + 42) = 1 from M_k S 42 (by decide)) (show X.2.2.1 (b + 42) = 5 from M_l S 42 (by decide)) (rem4 ha) (by omega) (by decide) (g2) ?_
  refine w_ri rfl rfl ?_
  have hb := bst_act T n (a % 4 + 1) s (rTle H)
  refine ⟨hi1, ?_, rfl, F1⟩
  rw [show chs T n 3 a s = actN (bst T n (a % 4 + 1) s).1 from rfl, ← hb.1]
theorem m_ch4 {d : Nat} {hi : Nat → Nat → Int32} {hl : Nat → Nat → Int64} {X : lm_X} {b n D : Nat} {T : lm_T} {s : Int32} (S : sh_M X b) (H : rT hi b T n) (HS : rS hi b s) (hT : okT T n) (HD : hi b 14 = nI D) (hw : awk s = D % 2) (hD : D + 4 < 2147483648) {a : Nat} (ha : a ≤ 99) : lm_w (d + 7) 184 [.ref b, .int 4, .int (nI a)] (hi, hl, X) (fun v h1 => ∃ hi', v = some (.int (aI (chs T n 4 a s))) ∧ h1 = (hi', hl, X) ∧ fr (b + 36) (b + 49) hi hi') := by
  refine lm_w_in (Nat.le_of_ble_eq_true rfl) ?_
  show lm_wp (d + 7) 184 0 [.ref b, .int 4, .int (nI a), lm_jk, lm_jk, lm_jk] [] (hi, hl, X) _
  refine w_N 1 1 [.ref b, .int 4, .int (nI a), lm_jk, lm_jk, lm_jk] [.ref b] rfl ?_
  refine w_gi (v := nI D) rfl rfl rfl (M_kd S) (HD) ?_
  refine w_N 1 5 [.ref b, .int 4, .int (nI a), lm_jk, lm_jk, lm_jk] [.int 2, .int (nI D)] rfl ?_
  refine w_rem rfl (by decide) ?_
  rw [hrem hw (by omega)]
  refine w_N 4 11 [.ref b, .int 4, .int (nI a), .int (nI (awk s)), .int (-1), lm_jk] [.int 4] rfl ?_
  refine w_ts (t := 80) rfl (by decide) rfl ?_
  refine w_N 3 83 [.ref b, .int 4, .int (nI a), .int (nI (awk s)), .int (-1), lm_jk] [.int (nI (awk s)), .ref b, .ref b] rfl ?_
  refine w_cc (w_vst rfl rfl rfl (Nat.le_of_ble_eq_true rfl) (Nat.le_of_ble_eq_true rfl) (M_kd S)) (m_valueOfE (d := d + 5) S H HS rfl (awk_lt s)) ?_
  show lm_wp _ 184 86 [.ref b, .int 4, .int (nI a), .int (nI (awk s)), .int (-1), lm_jk] [.int (val T (awk s) s), .ref b] (hi, hl, X) _
  refine w_N 3 90 [.ref b, .int 4, .int (nI a), .int (nI (awk s)), .int (-1), lm_jk] [.int ((nI a) - 50), .int (val T (awk s) s), .ref b] rfl ?_
  refine w_icmp_lt (t := 97) rfl rfl (fun c1 => ?_) (fun c1 => ?_)
  · refine w_N 1 98 [.ref b, .int 4, .int (nI a), .int (nI (awk s)), .int (-1), lm_jk] [.int 0, .ref b] rfl ?_
    have ect : ctt T s a = false := by unfold ctt; rw [decide_eq_true (by assumption)]; rfl
    refine w_cc (w_vst rfl rfl rfl (Nat.le_of_ble_eq_true rfl) (Nat.le_of_ble_eq_true rfl) (M_kd S)) (m_greatest (d := d + 3) (both := false) S H HS hT HD hw (by omega)) ?_
    show lm_wp _ 184 101 [.ref b, .int 4, .int (nI a), .int (nI (awk s)), .int (-1), lm_jk] [.int (aI (mto T n s false))] (hi, hl, X) _
    refine w_ri rfl rfl ?_
    refine ⟨hi, ?_, rfl, fr_rfl⟩
    rw [show chs T n 4 a s = mto T n s (ctt T s a) from rfl, ect]
  · refine w_N 2 98 [.ref b, .int 4, .int (nI a), .int (nI (awk s)), .int (-1), lm_jk] [.int 1, .ref b] rfl ?_
    have ect : ctt T s a = true := by unfold ctt; rw [decide_eq_false (by assumption)]; rfl
    refine w_cc (w_vst rfl rfl rfl (Nat.le_of_ble_eq_true rfl) (Nat.le_of_ble_eq_true rfl) (M_kd S)) (m_greatest (d := d + 3) (both := true) S H HS hT HD hw (by omega)) ?_
    show lm_wp _ 184 101 [.ref b, .int 4, .int (nI a), .int (nI (awk s)), .int (-1), lm_jk] [.int (aI (mto T n s true))] (hi, hl, X) _
    refine w_ri rfl rfl ?_
    refine ⟨hi, ?_, rfl, fr_rfl⟩
    rw [show chs T n 4 a s = mto T n s (ctt T s a) from rfl, ect]
theorem idle_iff {x y : Int32} {a : Nat} (hx : bd x 26136) (hy : bd y 26136) (ha : a ≤ 99) : y + nI a < x ↔ nI a < x - y := by
  have hA : bd (nI a) 99 := ⟨by rw [nI_ti (by omega)]; omega, by rw [nI_ti (by omega)]; omega⟩
  have e1 := toInt_add' hy hA (by decide)
  have e2 : (x - y).toInt = x.toInt - y.toInt := by
    unfold bd at *
    rw [Int32.toInt_sub, Int.bmod_eq_of_le (by simp; omega) (by simp; omega)]
  rw [Int32.lt_iff_toInt_lt, Int32.lt_iff_toInt_lt, e1, e2, nI_ti (by omega)]
  omega
theorem mtv_0 (T : lm_T) (s : Int32) (i : Nat) : mtv T s false i = val T (awk s) (aft T i s) := by
  unfold mtv
  rw [if_neg (by decide), Int32.add_zero]
theorem m_ch5 {d : Nat} {hi : Nat → Nat → Int32} {hl : Nat → Nat → Int64} {X : lm_X} {b n D : Nat} {T : lm_T} {s : Int32} (S : sh_M X b) (H : rT hi b T n) (HS : rS hi b s) (hT : okT T n) (HD : hi b 14 = nI D) (hw : awk s = D % 2) (hD : D + 4 < 2147483648) {a : Nat} (ha : a ≤ 99) : lm_w (d + 7) 184 [.ref b, .int 5, .int (nI a)] (hi, hl, X) (fun v h1 => ∃ hi', v = some (.int (aI (chs T n 5 a s))) ∧ h1 = (hi', hl, X) ∧ fr (b + 36) (b + 49) hi hi') := by
  refine lm_w_in (Nat.le_of_ble_eq_true rfl) ?_
  show lm_wp (d + 7) 184 0 [.ref b, .int 5, .int (nI a), lm_jk, lm_jk, lm_jk] [] (hi, hl, X) _
  have hm := mto_le T n s false
  have hn10 := rTle H
  have hi5 := idle_iff (mtv_bd (s := s) hT false (mto T n s false)) (mtv_bd (s := s) hT false 0) ha
  have eo : oui T n s a = if nI a < mtv T s false (mto T n s false) - mtv T s false 0 then mto T n s false else 0 := by rw [mtv_0, mtv_0]; rfl
  have ec : chs T n 5 a s = oui T n s a := rfl
  refine w_N 1 1 [.ref b, .int 5, .int (nI a), lm_jk, lm_jk, lm_jk] [.ref b] rfl ?_
  refine w_gi (v := nI D) rfl rfl rfl (M_kd S) (HD) ?_
  refine w_N 1 5 [.ref b, .int 5, .int (nI a), lm_jk, lm_jk, lm_jk] [.int 2, .int (nI D)] rfl ?_
  refine w_rem rfl (by decide) ?_
  rw [hrem hw (by omega)]
  refine w_N 4 11 [.ref b, .int 5, .int (nI a), .int (nI (awk s)), .int (-1), lm_jk] [.int 5] rfl ?_
  refine w_ts (t := 102) rfl (by decide) rfl ?_
  refine w_N 2 104 [.ref b, .int 5, .int (nI a), .int (nI (awk s)), .int (-1), lm_jk] [.int 0, .ref b] rfl ?_
  refine w_cc (w_vst rfl rfl rfl (Nat.le_of_ble_eq_true rfl) (Nat.le_of_ble_eq_true rfl) (M_kd S)) (m_greatest (d := d + 3) (both := false) S H HS hT HD hw (by omega)) ?_
  show lm_wp _ 184 107 [.ref b, .int 5, .int (nI a), .int (nI (awk s)), .int (-1), lm_jk] [.int (aI (mto T n s false))] (hi, hl, X) _
  refine w_N 3 112 [.ref b, .int 5, .int (nI a), .int (nI (awk s)), .int (aI (mto T n s false)), lm_jk] [.int (-1), .int (aI (mto T n s false))] rfl ?_
  refine w_icmp_eq (t := 138) rfl rfl (fun c1 => ?_) (fun c1 => ?_)
  · refine w_N 1 139 [.ref b, .int 5, .int (nI a), .int (nI (awk s)), .int (aI (mto T n s false)), lm_jk] [.int (-1)] rfl ?_
    refine w_ri rfl rfl ?_
    refine ⟨hi, ?_, rfl, fr_rfl⟩
    have h0 := (aI_none (by omega)).mp c1
    rw [ec, eo, h0]
    split <;> rfl
  · refine w_N 3 119 [.ref b, .int 5, .int (nI a), .int (nI (awk s)), .int (aI (mto T n s false)), lm_jk] [.int 0, .int (aI (mto T n s false)), .ref b] rfl ?_
    refine w_cc (w_vst rfl rfl rfl (Nat.le_of_ble_eq_true rfl) (Nat.le_of_ble_eq_true rfl) (M_kd S)) (m_gainBy (d := d + 4) (both := false) S H HS hT HD hw (by omega) hm.1 hm.2) ?_
    show lm_wp _ 184 122 [.ref b, .int 5, .int (nI a), .int (nI (awk s)), .int (aI (mto T n s false)), lm_jk] [.int (mtv T s false (mto T n s false))] (hi, hl, X) _
    refine w_N 3 125 [.ref b, .int 5, .int (nI a), .int (nI (awk s)), .int (aI (mto T n s false)), lm_jk] [.int 0, .int (-1), .ref b, .int (mtv T s false (mto T n s false))] rfl ?_
    refine w_cc (w_vst rfl rfl rfl (Nat.le_of_ble_eq_true rfl) (Nat.le_of_ble_eq_true rfl) (M_kd S)) (m_gainBy (d := d + 4) (i := 0) (both := false) S H HS hT HD hw (by omega) (Nat.zero_le _) rfl) ?_
    show lm_wp _ 184 128 [.ref b, .int 5, .int (nI a), .int (nI (awk s)), .int (aI (mto T n s false)), lm_jk] [.int (mtv T s false 0), .int (mtv T s false (mto T n s false))] (hi, hl, X) _
    refine w_N 2 130 [.ref b, .int 5, .int (nI a), .int (nI (awk s)), .int (aI (mto T n s false)), lm_jk] [.int ((mtv T s false 0) + (nI a)), .int (mtv T s false (mto T n s false))] rfl ?_
    refine w_icmp_le (t := 138) rfl rfl (fun c2 => ?_) (fun c2 => ?_)
    · refine w_N 1 139 [.ref b, .int 5, .int (nI a), .int (nI (awk s)), .int (aI (mto T n s false)), lm_jk] [.int (-1)] rfl ?_
      refine w_ri rfl rfl ?_
      refine ⟨hi, ?_, rfl, fr_rfl⟩
      rw [ec, eo, if_neg (by rw [← hi5]; exact c2)]
      rfl
    · refine w_N 2 139 [.ref b, .int 5, .int (nI a), .int (nI (awk s)), .int (aI (mto T n s false)), lm_jk] [.int (aI (mto T n s false))] rfl ?_
      refine w_ri rfl rfl ?_
      refine ⟨hi, ?_, rfl, fr_rfl⟩
      rw [ec, eo, if_pos (by rw [← hi5]; exact c2)]
theorem m_lo1 {d : Nat} {hi : Nat → Nat → Int32} {hl : Nat → Nat → Int64} {X : lm_X} {b n D : Nat} {T : lm_T} {s : Int32} (S : sh_M X b) (H : rT hi b T n) (HS : rS hi b s) (hT : okT T n) (HD : hi b 14 = nI D) (hw : awk s = D % 2) (hD : D + 4 < 2147483648) {a : Nat} (ha : a ≤ 99) {P : Option Value → lm_H → Prop} : ∀ (j m : Nat) (mk : Int32), m + j = n → (mk = nI m) → (∀ v h1, (v, h1) = (some (.int (aI (faF T s m j))), (hi, hl, X)) → P v h1) → lm_wp (d + 7) 184 143 [.ref b, .int 6, .int (nI a), .int (nI (awk s)), .int (-1), .int mk] [] (hi, hl, X) P := by
  intro j
  induction j with
  | zero =>
    intro m mk hm e4 hP
    have hn10 := rTle H
    refine w_N 2 146 [.ref b, .int 6, .int (nI a), .int (nI (awk s)), .int (-1), .int mk] [.ref b, .int mk] rfl ?_
    refine w_gi (v := nI n) rfl rfl rfl (M_kd S) (rTn H) ?_
    refine w_icmp_ge_t (t := 171) rfl rfl (by rw [e4, show m = n by omega]; exact fun z => Int32.lt_irrefl z) ?_
    refine w_N 1 172 [.ref b, .int 6, .int (nI a), .int (nI (awk s)), .int (-1), .int mk] [.int (-1)] rfl ?_
    refine w_ri rfl rfl ?_
    exact hP _ _ rfl
  | succ j ih =>
    intro m mk hm e4 hP
    have hn10 := rTle H
    refine w_N 2 146 [.ref b, .int 6, .int (nI a), .int (nI (awk s)), .int (-1), .int mk] [.ref b, .int mk] rfl ?_
    refine w_gi (v := nI n) rfl rfl rfl (M_kd S) (rTn H) ?_
    refine w_icmp_ge_f (t := 171) rfl rfl (by rw [e4]; exact nI_lt (by omega) (by omega)) ?_
    refine w_N 3 156 [.ref b, .int 6, .int (nI a), .int (nI (awk s)), .int (-1), .int mk] [.int (nI (awk s)), .int mk, .ref b] rfl ?_
    refine w_cc (w_vst rfl rfl rfl (Nat.le_of_ble_eq_true rfl) (Nat.le_of_ble_eq_true rfl) (M_kd S)) (m_canBeE (d := d + 5) S H HS hT e4 rfl (by omega)) ?_
    show lm_wp _ 184 159 [.ref b, .int 6, .int (nI a), .int (nI (awk s)), .int (-1), .int mk] [.int (bz (alw T (m + 1) (awk s) s))] (hi, hl, X) _
    refine w_zeq (t := 165) rfl rfl (fun c1 => ?_) (fun c1 => ?_)
    · refine w_N 2 143 [.ref b, .int 6, .int (nI a), .int (nI (awk s)), .int (-1), .int (mk + 1)] [] rfl ?_
      have eb : faF T s m (j + 1) = faF T s (m + 1) j := if_neg (by rw [c1]; decide)
      rw [eb] at hP
      exact ih (m + 1) _ (by omega) (by rw [e4, nI_succ]) hP
    · refine w_N 1 164 [.ref b, .int 6, .int (nI a), .int (nI (awk s)), .int (-1), .int mk] [.int mk] rfl ?_
      refine w_ri rfl rfl ?_
      exact hP _ _ (by rw [show faF T s m (j + 1) = m + 1 from if_pos c1, e4]; rfl)
theorem m_ch6 {d : Nat} {hi : Nat → Nat → Int32} {hl : Nat → Nat → Int64} {X : lm_X} {b n D : Nat} {T : lm_T} {s : Int32} (S : sh_M X b) (H : rT hi b T n) (HS : rS hi b s) (hT : okT T n) (HD : hi b 14 = nI D) (hw : awk s = D % 2) (hD : D + 4 < 2147483648) {a : Nat} (ha : a ≤ 99) : lm_w (d + 7) 184 [.ref b, .int 6, .int (nI a)] (hi, hl, X) (fun v h1 => ∃ hi', v = some (.int (aI (chs T n 6 a s))) ∧ h1 = (hi', hl, X) ∧ fr (b + 36) (b + 49) hi hi') := by
  refine lm_w_in (Nat.le_of_ble_eq_true rfl) ?_
  show lm_wp (d + 7) 184 0 [.ref b, .int 6, .int (nI a), lm_jk, lm_jk, lm_jk] [] (hi, hl, X) _
  refine w_N 1 1 [.ref b, .int 6, .int (nI a), lm_jk, lm_jk, lm_jk] [.ref b] rfl ?_
  refine w_gi (v := nI D) rfl rfl rfl (M_kd S) (HD) ?_
  refine w_N 1 5 [.ref b, .int 6, .int (nI a), lm_jk, lm_jk, lm_jk] [.int 2, .int (nI D)] rfl ?_
  refine w_rem rfl (by decide) ?_
  rw [hrem hw (by omega)]
  refine w_N 4 11 [.ref b, .int 6, .int (nI a), .int (nI (awk s)), .int (-1), lm_jk] [.int 6] rfl ?_
  refine w_ts (t := 140) rfl (by decide) rfl ?_
  refine w_N 2 143 [.ref b, .int 6, .int (nI a), .int (nI (awk s)), .int (-1), .int 0] [] rfl ?_
  exact m_lo1 S H HS hT HD hw hD ha n 0 _ (by omega) rfl (fun v h1 q => ⟨hi, (Prod.mk.inj q).1, (Prod.mk.inj q).2, fr_rfl⟩)
theorem m_chosen {d : Nat} {hi : Nat → Nat → Int32} {hl : Nat → Nat → Int64} {X : lm_X} {b n D : Nat} {T : lm_T} {s : Int32} (S : sh_M X b) (H : rT hi b T n) (HS : rS hi b s) (hT : okT T n) (HD : hi b 14 = nI D) (hw : awk s = D % 2) (hD : D + 4 < 2147483648) {a : Nat} (ha : a ≤ 99) {kd : Nat} {x y : Int32} (k1 : 1 ≤ kd) (k6 : kd ≤ 6) (hx : x = nI kd) (hy : y = nI a) : lm_w (d + 7) 184 [.ref b, .int x, .int y] (hi, hl, X) (fun v h1 => ∃ hi', v = some (.int (aI (chs T n kd a s))) ∧ h1 = (hi', hl, X) ∧ fr (b + 36) (b + 49) hi hi') := by
  subst hx hy
  rcases (by omega : kd = 1 ∨ kd = 2 ∨ kd = 3 ∨ kd = 4 ∨ kd = 5 ∨ kd = 6) with rfl | rfl | rfl | rfl | rfl | rfl
  · exact m_ch1 S H HS hT HD hw hD ha
  · exact m_ch2 S H HS hT HD hw hD ha
  · exact m_ch3 S H HS hT HD hw hD ha
  · exact m_ch4 S H HS hT HD hw hD ha
  · exact m_ch5 S H HS hT HD hw hD ha
  · exact m_ch6 S H HS hT HD hw hD ha
