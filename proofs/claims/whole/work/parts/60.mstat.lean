set_option maxRecDepth 16384
/-! statements, read by the reference -/
def rP (hi : Nat → Nat → Int32) (R : Nat → Int32) : Prop := rS hi 123 (R 10) ∧ hi 123 15 = R 11 ∧ hi 123 14 = R 12 ∧ hi 123 21 = R 13 ∧ hi 156 0 = R 20 ∧ hi 156 1 = R 21
def eQ (hi0 hi : Nat → Nat → Int32) (X : lm_X) (T : lm_T) (n : Nat) (R : Nat → Int32) (st : Int32) : Prop := sh_M X 123 ∧ olP hi X ∧ rT hi 123 T n ∧ rP hi R ∧ rQ hi0 hi 123 ∧ hi 123 30 = st
def eP (hi0 hi : Nat → Nat → Int32) (X : lm_X) (T : lm_T) (n : Nat) (R : Nat → Int32) (tl : Nat → Int32) (ts p : Nat) (st : Int32) : Prop := eQ hi0 hi X T n R st ∧ tpM tl ts hi p
def eF (hi0 : Nat → Nat → Int32) (hl : Nat → Nat → Int64) (X : lm_X) (f : Nat) : Option Value → lm_H → Prop := fun v h1 => v = some (.int 0) ∧ ∃ hi', h1 = (hi', hl, X) ∧ rQ hi0 hi' 123 ∧ hi' 123 28 = nI f
def eT (hi0 : Nat → Nat → Int32) (hl : Nat → Nat → Int64) (X : lm_X) (T : lm_T) (n : Nat) (R : Nat → Int32) (tl : Nat → Int32) (ts p : Nat) (st : Int32) : Option Value → lm_H → Prop := fun v h1 => v = some (.int 1) ∧ ∃ hi', h1 = (hi', hl, X) ∧ eP hi0 hi' X T n R tl ts p st
section
variable {hi0 hi hi' : Nat → Nat → Int32} {X : lm_X} {T T' : lm_T} {n n' : Nat} {R R' : Nat → Int32} {tl : Nat → Int32} {ts p p' : Nat} {st : Int32}
/-- only the look, told and the fault may have changed -/
theorem eQ_tok (P : eQ hi0 hi X T n R st) (f : ∀ a, a ≠ 123 → a ≠ 158 → hi' a = hi a) (g : ∀ k, k ≠ 24 → k ≠ 25 → k ≠ 26 → k ≠ 27 → k ≠ 28 → hi' 123 k = hi 123 k) : eQ hi0 hi' X T n R st := by
  obtain ⟨S, O, H, HR, Q, K⟩ := P
  have hn := rTle H
  have f1 : fr 123 172 hi hi' := fun a ha => f a (by omega) (by omega)
  refine ⟨S, olP_fr f1 (by decide) O, ⟨fun k hk a ha => ?_, fun h hh w hw => ?_, ?_, hn⟩, ?_, ⟨fun a ha => (f a (by omega) (by omega)).trans (Q.1 a ha), (g 8 (by decide) (by decide) (by decide) (by decide) (by decide)).trans Q.2⟩, (g 30 (by decide) (by decide) (by decide) (by decide) (by decide)).trans K⟩
  · rw [f _ (by omega) (by omega)]; exact H.1 k hk a ha
  · rw [f _ (by omega) (by omega)]; exact H.2.1 h hh w hw
  · rw [g 10 (by decide) (by decide) (by decide) (by decide) (by decide)]; exact H.2.2.1
  · unfold rP rS
    rw [g 12 (by decide) (by decide) (by decide) (by decide) (by decide), g 14 (by decide) (by decide) (by decide) (by decide) (by decide), g 15 (by decide) (by decide) (by decide) (by decide) (by decide), g 21 (by decide) (by decide) (by decide) (by decide) (by decide), f (123 + 29) (by decide) (by decide), f 156 (by decide) (by decide)]
    exact HR
/-- the town has changed, the look has not -/
theorem eP_town (P : eP hi0 hi X T n R tl ts p st) (f : ∀ a, (a < 123 ∨ 172 ≤ a ∨ (124 ≤ a ∧ a < 141)) → hi' a = hi a) (g : hi' 123 8 = hi 123 8 ∧ hi' 123 24 = hi 123 24 ∧ hi' 123 25 = hi 123 25 ∧ hi' 123 26 = hi 123 26 ∧ hi' 123 27 = hi 123 27 ∧ hi' 123 30 = hi 123 30) (H' : rT hi' 123 T' n') (HR' : rP hi' R') : eP hi0 hi' X T' n' R' tl ts p st := by
  obtain ⟨⟨S, O, H, HR, Q, K⟩, t1, t2, t3, t4, t5, t6⟩ := P
  obtain ⟨g1, g2, g3, g4, g5, g6⟩ := g
  have f1 : fr 123 172 hi hi' := fun a ha => f a (by omega)
  exact ⟨⟨S, olP_fr f1 (by decide) O, H', HR', ⟨fun a ha => (f a (by omega)).trans (Q.1 a ha), g1.trans Q.2⟩, g6.trans K⟩, g1.trans t1, fun i hi => by rw [f 139 (by decide)]; exact t2 i hi, g4.trans t3, g2.trans t4, g3.trans t5, g5.trans t6⟩
theorem chk_inj (f : Nat → Int32) : ∀ (s s' : List Int32) (a : Nat), chk f a s = true → chk f a s' = true → s.length = s'.length → s = s' := by
  intro s
  induction s with
  | nil => intro s' a h1 h2 h3; cases s' with
    | nil => rfl
    | cons c cs => exact absurd h3 (by simp)
  | cons c cs ih =>
    intro s' a h1 h2 h3
    cases s' with
    | nil => exact absurd h3 (by simp)
    | cons c' cs' =>
      unfold chk at h1 h2
      rw [Bool.and_eq_true, decide_eq_true_eq] at h1 h2
      rw [← h1.1, ← h2.1, ih cs' (a + 1) h1.2 h2.2 (by simpa using h3)]
theorem wd_ex {s s' : List Int32} (h : wdq tl ts p s = true) (h1 : s.length < 8) (h2 : s'.length < 8) (hs : s ≠ s') : wdq tl ts p s' = false := by
  cases h' : wdq tl ts p s' with
  | false => rfl
  | true =>
    exfalso
    unfold wdq at h h'
    rw [Bool.and_eq_true, Bool.and_eq_true, decide_eq_true_eq, decide_eq_true_eq] at h h'
    have e : nI s.length = nI s'.length := h.2.1.symm.trans h'.2.1
    rw [nI_inj (by omega) (by omega)] at e
    exact hs (chk_inj tl s s' _ h.2.2 h'.2.2 e)
theorem or_marks {s : Int32} {m : Nat} (hm : m < 8) : s_marks s ||| (1 <<< (nI m &&& 31)) = s_marks (s ||| (1 <<< (nI m &&& 31))) := by
  apply bt_ext
  intro i hi
  rw [bt_or, bt_marks hi, bt_marks hi, bt_or, bt_lit m hm hi]
  by_cases e : m = i
  · subst e; simp [hm]
  · simp [e]
theorem or_count {s : Int32} {m c : Nat} (hm : m < 8) (hc : c < 4) : s_count (s ||| (1 <<< (nI m &&& 31))) (nI c) = s_count s (nI c) := by
  apply bt_ext
  intro i hi
  rw [bt_count hc hi, bt_count hc hi]
  by_cases h5 : i < 5
  · rw [bt_or, bt_lit m hm (by omega), show decide (m = i + (8 + 5 * c)) = false from decide_eq_false (by omega), Bool.or_false]
  · simp [h5]
theorem ad_4 {x0 x1 x2 x3 x4 x5 : Int32} : adT T n x0 x1 x2 x3 x4 x5 4 n = x4 := by unfold adT; rw [if_pos ⟨rfl, by decide⟩]; rfl
theorem ad_5 {x0 x1 x2 x3 x4 x5 : Int32} : adT T n x0 x1 x2 x3 x4 x5 5 n = x5 := by unfold adT; rw [if_pos ⟨rfl, by decide⟩]; rfl
theorem rT_a4 {x0 x1 x2 x3 x4 x5 y : Int32} (H : rT hi 123 (adT T n x0 x1 x2 x3 x4 x5) (n + 1)) : rT (lm_up hi (123 + (19 + n)) 4 y) 123 (adT T n x0 x1 x2 x3 y x5) (n + 1) := by
  have hn := rTle H
  refine ⟨fun k hk a ha => ?_, fun h hh w hw => ?_, ?_, hn⟩
  · have q := H.1 k hk a ha
    unfold adT at q ⊢
    by_cases e : a = n
    · subst e
      rw [if_pos ⟨rfl, hk⟩] at q ⊢
      by_cases e4 : k = 4
      · subst e4; rw [lm_up_eq]; rfl
      · rw [lm_up_nk e4, q]; simp [e4]
    · rw [if_neg (fun z => e z.1)] at q ⊢
      rw [lm_up_na (by omega)]; exact q
  · rw [lm_up_na (by omega)]
    have q := H.2.1 h hh w hw
    unfold adT at q ⊢
    rw [if_neg (fun z => by omega)] at q ⊢
    exact q
  · rw [lm_up_na (by omega)]; exact H.2.2.1
theorem rT_a5 {x0 x1 x2 x3 x4 x5 y : Int32} (H : rT hi 123 (adT T n x0 x1 x2 x3 x4 x5) (n + 1)) : rT (lm_up hi (123 + (19 + n)) 5 y) 123 (adT T n x0 x1 x2 x3 x4 y) (n + 1) := by
  have hn := rTle H
  refine ⟨fun k hk a ha => ?_, fun h hh w hw => ?_, ?_, hn⟩
  · have q := H.1 k hk a ha
    unfold adT at q ⊢
    by_cases e : a = n
    · subst e
      rw [if_pos ⟨rfl, hk⟩] at q ⊢
      by_cases e4 : k = 5
      · subst e4; rw [lm_up_eq]; rfl
      · rw [lm_up_nk e4, q]; simp [e4]
    · rw [if_neg (fun z => e z.1)] at q ⊢
      rw [lm_up_na (by omega)]; exact q
  · rw [lm_up_na (by omega)]
    have q := H.2.1 h hh w hw
    unfold adT at q ⊢
    rw [if_neg (fun z => by omega)] at q ⊢
    exact q
  · rw [lm_up_na (by omega)]; exact H.2.2.1
end
theorem rQ_u {h0 h1 : Nat → Nat → Int32} {k : Nat} {v : Int32} (hk : k ≠ 8) (q : rQ h0 h1 123) : rQ h0 (lm_up h1 123 k v) 123 := ⟨fun a ha => (lm_up_rw (by omega)).trans (q.1 a ha), (lm_up_nk (Ne.symm hk)).trans q.2⟩
theorem y_sMarkF {d : Nat} {hi : Nat → Nat → Int32} {hl : Nat → Nat → Int64} {X : lm_X} {hi0 : Nat → Nat → Int32} {T : lm_T} {n : Nat} {R : Nat → Int32} {tl : Nat → Int32} {ts p : Nat} {st : Int32} (P : eP hi0 hi X T n R tl ts p st) (hts : ts ≤ 250) (hp : p ≤ ts) {p1 : Nat} (q1 : tkE tl ts p = p1) (w0 : wdq tl ts p wL0 = false) (w3 : wdq tl ts p wL3 = true) (nF : nmO tl ts p1 0 7 = false) : lm_w (d + 20) 166 [.ref 123] (hi, hl, X) (eF hi0 hl X (tkF tl ts p1)) := by
  obtain ⟨⟨S, O, H, HR, FQ, K30⟩, HP⟩ := id P
  refine lm_w_in (Nat.le_of_ble_eq_true rfl) ?_
  show lm_wp (d + 20) 166 0 [.ref 123, lm_jk] [] (hi, hl, X) _
  refine w_N 2 3 [.ref 123, lm_jk] [.ref 12, .ref 123] rfl ?_
  refine w_cc (w_vst rfl rfl rfl (Nat.le_of_ble_eq_true rfl) (Nat.le_of_ble_eq_true rfl) (M_kd S)) (lm_c_v (m_isWord0 (d := d + 17) S O.2 hts hp HP) (c_eqz w0)) ?_
  show lm_wp _ 166 6 [.ref 123, lm_jk] [.int 0] (hi, hl, X) _
  refine w_if_eq_t (t := 23) rfl rfl (by decide) ?_
  refine w_N 2 26 [.ref 123, lm_jk] [.ref 15, .ref 123] rfl ?_
  refine w_cc (w_vst rfl rfl rfl (Nat.le_of_ble_eq_true rfl) (Nat.le_of_ble_eq_true rfl) (M_kd S)) (lm_c_1 (m_isWord3 (d := d + 17) S O.2 hts hp HP) w3) ?_
  show lm_wp _ 166 29 [.ref 123, lm_jk] [.int 1] (hi, hl, X) _
  refine w_if_eq_f (t := 70) rfl rfl (by decide) ?_
  refine w_N 5 39 [.ref 123, lm_jk] [.int 7, .int 0, .int 0, .ref 15, .ref 123] rfl ?_
  refine w_ca (w_vst rfl rfl rfl (Nat.le_of_ble_eq_true rfl) (Nat.le_of_ble_eq_true rfl) (M_kd S)) (m_tellsF3 (d := d + 15) S O.2 hts hp HP w3 (by rw [q1]; exact nF)) ?_
  rintro _ _ ⟨ha1, rfl, rfl, k28, f_ha1, g_ha1⟩
  have P := eQ_tok P.1 (fun a a1 a2 => f_ha1 a a1) g_ha1
  rw [q1] at k28
  obtain ⟨S, O, H, HR, FQ, K30⟩ := id P
  show lm_wp _ 166 42 [.ref 123, lm_jk] [.int 0] (ha1, hl, X) _
  refine w_N 3 45 [.ref 123, .int 0] [.ref 123, .ref 123] rfl ?_
  refine w_gi (v := s_marks (R 10)) rfl rfl rfl (M_kd S) (HR.1.1) ?_
  refine w_N 1 49 [.ref 123, .int 0] [.int 0, .int (s_marks (R 10)), .ref 123] rfl ?_
  refine w_if_eq_t (t := 63) rfl rfl (by decide) ?_
  refine w_N 2 65 [.ref 123, .int 0] [.int ((s_marks (R 10)) ||| 0), .ref 123] rfl ?_
  refine w_pi rfl rfl rfl rfl (M_kd S) (M_64 S) ?_
  refine w_N 1 69 [.ref 123, .int 0] [.int 0] rfl ?_
  refine w_rz rfl rfl (by decide) ?_
  exact ⟨rfl, _, rfl, rQ_u (by decide) (FQ), (lm_up_nk (by decide)).trans (k28)⟩
theorem y_sMarkT {d : Nat} {hi : Nat → Nat → Int32} {hl : Nat → Nat → Int64} {X : lm_X} {hi0 : Nat → Nat → Int32} {T : lm_T} {n : Nat} {R : Nat → Int32} {tl : Nat → Int32} {ts p : Nat} {st : Int32} (P : eP hi0 hi X T n R tl ts p st) (hts : ts ≤ 250) (hp : p ≤ ts) {p1 p2 : Nat} (q1 : tkE tl ts p = p1) (q2 : tkE tl ts p1 = p2) (w0 : wdq tl ts p wL0 = false) (w3 : wdq tl ts p wL3 = true) {m : Nat} (hm : m ≤ 7) (n1 : nmO tl ts p1 0 7 = true) (v1 : fgI tl ts p1 = nI m) : lm_w (d + 20) 166 [.ref 123] (hi, hl, X) (eT hi0 hl X T n (lm_u1 R 10 (R 10 ||| (1 <<< (nI m &&& 31)))) tl ts p2 st) := by
  obtain ⟨⟨S, O, H, HR, FQ, K30⟩, HP⟩ := id P
  refine lm_w_in (Nat.le_of_ble_eq_true rfl) ?_
  show lm_wp (d + 20) 166 0 [.ref 123, lm_jk] [] (hi, hl, X) _
  refine w_N 2 3 [.ref 123, lm_jk] [.ref 12, .ref 123] rfl ?_
  refine w_cc (w_vst rfl rfl rfl (Nat.le_of_ble_eq_true rfl) (Nat.le_of_ble_eq_true rfl) (M_kd S)) (lm_c_v (m_isWord0 (d := d + 17) S O.2 hts hp HP) (c_eqz w0)) ?_
  show lm_wp _ 166 6 [.ref 123, lm_jk] [.int 0] (hi, hl, X) _
  refine w_if_eq_t (t := 23) rfl rfl (by decide) ?_
  refine w_N 2 26 [.ref 123, lm_jk] [.ref 15, .ref 123] rfl ?_
  refine w_cc (w_vst rfl rfl rfl (Nat.le_of_ble_eq_true rfl) (Nat.le_of_ble_eq_true rfl) (M_kd S)) (lm_c_1 (m_isWord3 (d := d + 17) S O.2 hts hp HP) w3) ?_
  show lm_wp _ 166 29 [.ref 123, lm_jk] [.int 1] (hi, hl, X) _
  refine w_if_eq_f (t := 70) rfl rfl (by decide) ?_
  refine w_N 5 39 [.ref 123, lm_jk] [.int 7, .int 0, .int 0, .ref 15, .ref 123] rfl ?_
  refine w_ca (w_vst rfl rfl rfl (Nat.le_of_ble_eq_true rfl) (Nat.le_of_ble_eq_true rfl) (M_kd S)) (m_tellsT3 (d := d + 15) (j := 0) S O.2 hts hp HP w3 rfl (by decide) (by rw [q1]; exact n1)) ?_
  rintro _ _ ⟨ha2, rfl, rfl, P_ha2, t0, u_ha2, f_ha2, g_ha2⟩
  rw [q1] at P_ha2 t0
  rw [q2] at P_ha2
  rw [v1] at t0
  have hp := (tk_b (tl := tl) (q1 ▸ (tk_b (tl := tl) hp).2.2.2.1 : p1 ≤ ts)).2.2.2.1
  rw [q2] at hp
  have P := (⟨eQ_tok P.1 f_ha2 (fun k a b c d _ => g_ha2 k a b c d), P_ha2⟩ : eP hi0 ha2 X T n R tl ts p2 st)
  obtain ⟨⟨S, O, H, HR, FQ, K30⟩, HP⟩ := id P
  show lm_wp _ 166 42 [.ref 123, lm_jk] [.int 1] (ha2, hl, X) _
  refine w_N 3 45 [.ref 123, .int 1] [.ref 123, .ref 123] rfl ?_
  refine w_gi (v := s_marks (R 10)) rfl rfl rfl (M_kd S) (HR.1.1) ?_
  refine w_N 1 49 [.ref 123, .int 1] [.int 1, .int (s_marks (R 10)), .ref 123] rfl ?_
  refine w_if_eq_f (t := 63) rfl rfl (by decide) ?_
  refine w_N 2 54 [.ref 123, .int 1] [.ref 123, .int 1, .int (s_marks (R 10)), .ref 123] rfl ?_
  refine w_gr 158 rfl rfl rfl (M_kd S) (M_r S (k := 29) (o := 35) rfl) ?_
  refine w_N 1 58 [.ref 123, .int 1] [.int 0, .ref 158, .int 1, .int (s_marks (R 10)), .ref 123] rfl ?_
  refine w_ia 0 (v := nI m) rfl (show X.2.1 (158) = 1 from M_k S 35 (by decide)) (show X.2.2.1 (158) = 4 from M_l S 35 (by decide)) rfl (by decide) (by decide) (t0) ?_
  refine w_N 3 65 [.ref 123, .int 1] [.int ((s_marks (R 10)) ||| (1 <<< ((nI m) &&& 31))), .ref 123] rfl ?_
  refine w_pi rfl rfl rfl rfl (M_kd S) (M_64 S) ?_
  refine w_N 1 69 [.ref 123, .int 1] [.int 1] rfl ?_
  refine w_rz rfl rfl (by decide) ?_
  refine ⟨rfl, _, rfl, eP_town P (fun a ha => ?_) ⟨(lm_up_nk (by decide)).trans (rfl), (lm_up_nk (by decide)).trans (rfl), (lm_up_nk (by decide)).trans (rfl), (lm_up_nk (by decide)).trans (rfl), (lm_up_nk (by decide)).trans (rfl), (lm_up_nk (by decide)).trans (rfl)⟩ ?_ ?_⟩
  · rw [lm_up_rw (by omega)]
  · have hn := rTle H
    refine ⟨fun k hk a ha => ?_, fun h hh w hw => ?_, ?_, hn⟩
    · rw [lm_up_na (by omega)]; exact H.1 k hk a ha
    · rw [lm_up_na (by omega)]; exact H.2.1 h hh w hw
    · exact (lm_up_nk (by decide)).trans (H.2.2.1)
  · refine ⟨⟨(lm_up_eq).trans (or_marks (by omega)), fun c hc => ?_⟩, (lm_up_nk (by decide)).trans (HR.2.1), (lm_up_nk (by decide)).trans (HR.2.2.1), (lm_up_nk (by decide)).trans (HR.2.2.2.1), ?_, ?_⟩
    · rw [lm_up_na (by decide)]; show _ = s_count (R 10 ||| (1 <<< (nI m &&& 31))) (nI c); rw [or_count (by omega) hc]; exact HR.1.2 c hc
    · rw [lm_up_na (by decide)]; exact HR.2.2.2.2.1
    · rw [lm_up_na (by decide)]; exact HR.2.2.2.2.2
theorem y_sCountF1 {d : Nat} {hi : Nat → Nat → Int32} {hl : Nat → Nat → Int64} {X : lm_X} {hi0 : Nat → Nat → Int32} {T : lm_T} {n : Nat} {R : Nat → Int32} {tl : Nat → Int32} {ts p : Nat} {st : Int32} (P : eP hi0 hi X T n R tl ts p st) (hts : ts ≤ 250) (hp : p ≤ ts) {p1 : Nat} (q1 : tkE tl ts p = p1) (w0 : wdq tl ts p wL0 = false) (w3 : wdq tl ts p wL3 = false) (w4 : wdq tl ts p wL4 = true) (nF : nmO tl ts p1 0 3 = false) : lm_w (d + 20) 166 [.ref 123] (hi, hl, X) (eF hi0 hl X (tkF tl ts p1)) := by
  obtain ⟨⟨S, O, H, HR, FQ, K30⟩, HP⟩ := id P
  refine lm_w_in (Nat.le_of_ble_eq_true rfl) ?_
  show lm_wp (d + 20) 166 0 [.ref 123, lm_jk] [] (hi, hl, X) _
  refine w_N 2 3 [.ref 123, lm_jk] [.ref 12, .ref 123] rfl ?_
  refine w_cc (w_vst rfl rfl rfl (Nat.le_of_ble_eq_true rfl) (Nat.le_of_ble_eq_true rfl) (M_kd S)) (lm_c_v (m_isWord0 (d := d + 17) S O.2 hts hp HP) (c_eqz w0)) ?_
  show lm_wp _ 166 6 [.ref 123, lm_jk] [.int 0] (hi, hl, X) _
  refine w_if_eq_t (t := 23) rfl rfl (by decide) ?_
  refine w_N 2 26 [.ref 123, lm_jk] [.ref 15, .ref 123] rfl ?_
  refine w_cc (w_vst rfl rfl rfl (Nat.le_of_ble_eq_true rfl) (Nat.le_of_ble_eq_true rfl) (M_kd S)) (lm_c_v (m_isWord3 (d := d + 17) S O.2 hts hp HP) (c_eqz w3)) ?_
  show lm_wp _ 166 29 [.ref 123, lm_jk] [.int 0] (hi, hl, X) _
  refine w_if_eq_t (t := 70) rfl rfl (by decide) ?_
  refine w_N 2 73 [.ref 123, lm_jk] [.ref 16, .ref 123] rfl ?_
  refine w_cc (w_vst rfl rfl rfl (Nat.le_of_ble_eq_true rfl) (Nat.le_of_ble_eq_true rfl) (M_kd S)) (lm_c_1 (m_isWord4 (d := d + 17) S O.2 hts hp HP) w4) ?_
  show lm_wp _ 166 76 [.ref 123, lm_jk] [.int 1] (hi, hl, X) _
  refine w_if_eq_f (t := 123) rfl rfl (by decide) ?_
  refine w_N 5 85 [.ref 123, lm_jk] [.int 3, .int 0, .int 0, .ref 16, .ref 123] rfl ?_
  refine w_ca (w_vst rfl rfl rfl (Nat.le_of_ble_eq_true rfl) (Nat.le_of_ble_eq_true rfl) (M_kd S)) (m_tellsF4 (d := d + 15) S O.2 hts hp HP w4 (by rw [q1]; exact nF)) ?_
  rintro _ _ ⟨ha3, rfl, rfl, k28, f_ha3, g_ha3⟩
  have P := eQ_tok P.1 (fun a a1 a2 => f_ha3 a a1) g_ha3
  rw [q1] at k28
  obtain ⟨S, O, H, HR, FQ, K30⟩ := id P
  show lm_wp _ 166 88 [.ref 123, lm_jk] [.int 0] (ha3, hl, X) _
  refine w_if_eq_t (t := 102) rfl rfl (by decide) ?_
  refine w_N 1 103 [.ref 123, lm_jk] [.int 0] rfl ?_
  refine w_rz rfl rfl (by decide) ?_
  exact ⟨rfl, _, rfl, FQ, k28⟩
theorem y_sCountF2 {d : Nat} {hi : Nat → Nat → Int32} {hl : Nat → Nat → Int64} {X : lm_X} {hi0 : Nat → Nat → Int32} {T : lm_T} {n : Nat} {R : Nat → Int32} {tl : Nat → Int32} {ts p : Nat} {st : Int32} (P : eP hi0 hi X T n R tl ts p st) (hts : ts ≤ 250) (hp : p ≤ ts) {p1 p2 : Nat} (q1 : tkE tl ts p = p1) (q2 : tkE tl ts p1 = p2) (w0 : wdq tl ts p wL0 = false) (w3 : wdq tl ts p wL3 = false) (w4 : wdq tl ts p wL4 = true) {c : Nat} (hc : c ≤ 3) (n1 : nmO tl ts p1 0 3 = true) (v1 : fgI tl ts p1 = nI c) (nF : nmO tl ts p2 0 23 = false) : lm_w (d + 20) 166 [.ref 123] (hi, hl, X) (eF hi0 hl X (tkF tl ts p2)) := by
  obtain ⟨⟨S, O, H, HR, FQ, K30⟩, HP⟩ := id P
  refine lm_w_in (Nat.le_of_ble_eq_true rfl) ?_
  show lm_wp (d + 20) 166 0 [.ref 123, lm_jk] [] (hi, hl, X) _
  refine w_N 2 3 [.ref 123, lm_jk] [.ref 12, .ref 123] rfl ?_
  refine w_cc (w_vst rfl rfl rfl (Nat.le_of_ble_eq_true rfl) (Nat.le_of_ble_eq_true rfl) (M_kd S)) (lm_c_v (m_isWord0 (d := d + 17) S O.2 hts hp HP) (c_eqz w0)) ?_
  show lm_wp _ 166 6 [.ref 123, lm_jk] [.int 0] (hi, hl, X) _
  refine w_if_eq_t (t := 23) rfl rfl (by decide) ?_
  refine w_N 2 26 [.ref 123, lm_jk] [.ref 15, .ref 123] rfl ?_
  refine w_cc (w_vst rfl rfl rfl (Nat.le_of_ble_eq_true rfl) (Nat.le_of_ble_eq_true rfl) (M_kd S)) (lm_c_v (m_isWord3 (d := d + 17) S O.2 hts hp HP) (c_eqz w3)) ?_
  show lm_wp _ 166 29 [.ref 123, lm_jk] [.int 0] (hi, hl, X) _
  refine w_if_eq_t (t := 70) rfl rfl (by decide) ?_
  refine w_N 2 73 [.ref 123, lm_jk] [.ref 16, .ref 123] rfl ?_
  refine w_cc (w_vst rfl rfl rfl (Nat.le_of_ble_eq_true rfl) (Nat.le_of_ble_eq_true rfl) (M_kd S)) (lm_c_1 (m_isWord4 (d := d + 17) S O.2 hts hp HP) w4) ?_
  show lm_wp _ 166 76 [.ref 123, lm_jk] [.int 1] (hi, hl, X) _
  refine w_if_eq_f (t := 123) rfl rfl (by decide) ?_
  refine w_N 5 85 [.ref 123, lm_jk] [.int 3, .int 0, .int 0, .ref 16, .ref 123] rfl ?_
  refine w_ca (w_vst rfl rfl rfl (Nat.le_of_ble_eq_true rfl) (Nat.le_of_ble_eq_true rfl) (M_kd S)) (m_tellsT4 (d := d + 15) (j := 0) S O.2 hts hp HP w4 rfl (by decide) (by rw [q1]; exact n1)) ?_
  rintro _ _ ⟨ha4, rfl, rfl, P_ha4, t0, u_ha4, f_ha4, g_ha4⟩
  rw [q1] at P_ha4 t0
  rw [q2] at P_ha4
  rw [v1] at t0
  have hp := (tk_b (tl := tl) (q1 ▸ (tk_b (tl := tl) hp).2.2.2.1 : p1 ≤ ts)).2.2.2.1
  rw [q2] at hp
  have P := (⟨eQ_tok P.1 f_ha4 (fun k a b c d _ => g_ha4 k a b c d), P_ha4⟩ : eP hi0 ha4 X T n R tl ts p2 st)
  obtain ⟨⟨S, O, H, HR, FQ, K30⟩, HP⟩ := id P
  show lm_wp _ 166 88 [.ref 123, lm_jk] [.int 1] (ha4, hl, X) _
  refine w_if_eq_f (t := 102) rfl rfl (by decide) ?_
  refine w_N 4 96 [.ref 123, lm_jk] [.int 23, .int 0, .int 1, .ref 123] rfl ?_
  refine w_cc (w_vst rfl rfl rfl (Nat.le_of_ble_eq_true rfl) (Nat.le_of_ble_eq_true rfl) (M_kd S)) (m_numF (d := d + 17) S O.2 hts hp HP nF) ?_
  show lm_wp _ 166 99 [.ref 123, lm_jk] [.int 0] (lm_up ha4 123 28 (nI (tkF tl ts p2)), hl, X) _
  refine w_if_ne_f (t := 104) rfl rfl (by decide) ?_
  refine w_N 1 103 [.ref 123, lm_jk] [.int 0] rfl ?_
  refine w_rz rfl rfl (by decide) ?_
  exact ⟨rfl, _, rfl, rQ_u (by decide) (FQ), lm_up_eq⟩
theorem y_sCountT {d : Nat} {hi : Nat → Nat → Int32} {hl : Nat → Nat → Int64} {X : lm_X} {hi0 : Nat → Nat → Int32} {T : lm_T} {n : Nat} {R : Nat → Int32} {tl : Nat → Int32} {ts p : Nat} {st : Int32} (P : eP hi0 hi X T n R tl ts p st) (hts : ts ≤ 250) (hp : p ≤ ts) {p1 p2 p3 : Nat} (q1 : tkE tl ts p = p1) (q2 : tkE tl ts p1 = p2) (q3 : tkE tl ts p2 = p3) (w0 : wdq tl ts p wL0 = false) (w3 : wdq tl ts p wL3 = false) (w4 : wdq tl ts p wL4 = true) {c v : Nat} (hc : c ≤ 3) (hv : v ≤ 23) (n1 : nmO tl ts p1 0 3 = true) (v1 : fgI tl ts p1 = nI c) (n2 : nmO tl ts p2 0 23 = true) (v2 : fgI tl ts p2 = nI v) : lm_w (d + 20) 166 [.ref 123] (hi, hl, X) (eT hi0 hl X T n (lm_u1 R 10 (s_with (R 10) (nI c) (nI v))) tl ts p3 st) := by
  obtain ⟨⟨S, O, H, HR, FQ, K30⟩, HP⟩ := id P
  refine lm_w_in (Nat.le_of_ble_eq_true rfl) ?_
  show lm_wp (d + 20) 166 0 [.ref 123, lm_jk] [] (hi, hl, X) _
  refine w_N 2 3 [.ref 123, lm_jk] [.ref 12, .ref 123] rfl ?_
  refine w_cc (w_vst rfl rfl rfl (Nat.le_of_ble_eq_true rfl) (Nat.le_of_ble_eq_true rfl) (M_kd S)) (lm_c_v (m_isWord0 (d := d + 17) S O.2 hts hp HP) (c_eqz w0)) ?_
  show lm_wp _ 166 6 [.ref 123, lm_jk] [.int 0] (hi, hl, X) _
  refine w_if_eq_t (t := 23) rfl rfl (by decide) ?_
  refine w_N 2 26 [.ref 123, lm_jk] [.ref 15, .ref 123] rfl ?_
  refine w_cc (w_vst rfl rfl rfl (Nat.le_of_ble_eq_true rfl) (Nat.le_of_ble_eq_true rfl) (M_kd S)) (lm_c_v (m_isWord3 (d := d + 17) S O.2 hts hp HP) (c_eqz w3)) ?_
  show lm_wp _ 166 29 [.ref 123, lm_jk] [.int 0] (hi, hl, X) _
  refine w_if_eq_t (t := 70) rfl rfl (by decide) ?_
  refine w_N 2 73 [.ref 123, lm_jk] [.ref 16, .ref 123] rfl ?_
  refine w_cc (w_vst rfl rfl rfl (Nat.le_of_ble_eq_true rfl) (Nat.le_of_ble_eq_true rfl) (M_kd S)) (lm_c_1 (m_isWord4 (d := d + 17) S O.2 hts hp HP) w4) ?_
  show lm_wp _ 166 76 [.ref 123, lm_jk] [.int 1] (hi, hl, X) _
  refine w_if_eq_f (t := 123) rfl rfl (by decide) ?_
  refine w_N 5 85 [.ref 123, lm_jk] [.int 3, .int 0, .int 0, .ref 16, .ref 123] rfl ?_
  refine w_ca (w_vst rfl rfl rfl (Nat.le_of_ble_eq_true rfl) (Nat.le_of_ble_eq_true rfl) (M_kd S)) (m_tellsT4 (d := d + 15) (j := 0) S O.2 hts hp HP w4 rfl (by decide) (by rw [q1]; exact n1)) ?_
  rintro _ _ ⟨ha6, rfl, rfl, P_ha6, t0, u_ha6, f_ha6, g_ha6⟩
  rw [q1] at P_ha6 t0
  rw [q2] at P_ha6
  rw [v1] at t0
  have hp := (tk_b (tl := tl) (q1 ▸ (tk_b (tl := tl) hp).2.2.2.1 : p1 ≤ ts)).2.2.2.1
  rw [q2] at hp
  have P := (⟨eQ_tok P.1 f_ha6 (fun k a b c d _ => g_ha6 k a b c d), P_ha6⟩ : eP hi0 ha6 X T n R tl ts p2 st)
  obtain ⟨⟨S, O, H, HR, FQ, K30⟩, HP⟩ := id P
  show lm_wp _ 166 88 [.ref 123, lm_jk] [.int 1] (ha6, hl, X) _
  refine w_if_eq_f (t := 102) rfl rfl (by decide) ?_
  refine w_N 4 96 [.ref 123, lm_jk] [.int 23, .int 0, .int 1, .ref 123] rfl ?_
  refine w_ca (w_vst rfl rfl rfl (Nat.le_of_ble_eq_true rfl) (Nat.le_of_ble_eq_true rfl) (M_kd S)) (m_numT (d := d + 17) (i := 1) S O.2 hts hp HP rfl (by decide) n2) ?_
  rintro _ _ ⟨hb7, rfl, rfl, P_hb7, t1, u_hb7, f_hb7, g_hb7⟩
  have t0 := (u_hb7 0 (by decide)).trans t0
  rw [v2] at t1
  rw [q3] at P_hb7
  have hp := (tk_b (tl := tl) hp).2.2.2.1
  rw [q3] at hp
  have P := (⟨eQ_tok P.1 f_hb7 (fun k a b c d _ => g_hb7 k a b c d), P_hb7⟩ : eP hi0 hb7 X T n R tl ts p3 st)
  obtain ⟨⟨S, O, H, HR, FQ, K30⟩, HP⟩ := id P
  show lm_wp _ 166 99 [.ref 123, lm_jk] [.int 1] (hb7, hl, X) _
  refine w_if_ne_t (t := 104) rfl rfl (by decide) ?_
  refine w_N 1 105 [.ref 123, lm_jk] [.ref 123] rfl ?_
  refine w_gr 152 rfl rfl rfl (M_kd S) (M_r S (k := 13) (o := 29) rfl) ?_
  refine w_N 1 109 [.ref 123, lm_jk] [.ref 123, .ref 152] rfl ?_
  refine w_gr 158 rfl rfl rfl (M_kd S) (M_r S (k := 29) (o := 35) rfl) ?_
  refine w_N 1 113 [.ref 123, lm_jk] [.int 0, .ref 158, .ref 152] rfl ?_
  refine w_ia 0 (v := nI c) rfl (show X.2.1 (158) = 1 from M_k S 35 (by decide)) (show X.2.2.1 (158) = 4 from M_l S 35 (by decide)) rfl (by decide) (by decide) (t0) ?_
  refine w_N 1 115 [.ref 123, lm_jk] [.ref 123, .int (nI c), .ref 152] rfl ?_
  refine w_gr 158 rfl rfl rfl (M_kd S) (M_r S (k := 29) (o := 35) rfl) ?_
  refine w_N 1 119 [.ref 123, lm_jk] [.int 1, .ref 158, .int (nI c), .ref 152] rfl ?_
  refine w_ia 1 (v := nI v) rfl (show X.2.1 (158) = 1 from M_k S 35 (by decide)) (show X.2.2.1 (158) = 4 from M_l S 35 (by decide)) rfl (by decide) (by decide) (t1) ?_
  refine w_is c rfl (show X.2.1 (152) = 1 from M_k S 29 (by decide)) (by decide) (show X.2.2.1 (152) = 4 from M_l S 29 (by decide)) rfl (by omega) (by decide) ?_
  refine w_N 1 122 [.ref 123, lm_jk] [.int 1] rfl ?_
  refine w_rz rfl rfl (by decide) ?_
  refine ⟨rfl, _, rfl, eP_town P (fun a ha => ?_) ⟨(lm_up_na (by decide)).trans (rfl), (lm_up_na (by decide)).trans (rfl), (lm_up_na (by decide)).trans (rfl), (lm_up_na (by decide)).trans (rfl), (lm_up_na (by decide)).trans (rfl), (lm_up_na (by decide)).trans (rfl)⟩ ?_ ?_⟩
  · rw [lm_up_rw (by omega)]
  · have hn := rTle H
    refine ⟨fun k hk a ha => ?_, fun h hh w hw => ?_, ?_, hn⟩
    · rw [lm_up_na (by omega)]; exact H.1 k hk a ha
    · rw [lm_up_na (by omega)]; exact H.2.1 h hh w hw
    · exact (lm_up_na (by decide)).trans (H.2.2.1)
  · refine ⟨⟨?_, fun e he => ?_⟩, (lm_up_na (by decide)).trans (HR.2.1), (lm_up_na (by decide)).trans (HR.2.2.1), (lm_up_na (by decide)).trans (HR.2.2.2.1), ?_, ?_⟩
    · show _ = s_marks (s_with (R 10) (nI c) (nI v)); rw [marks_with (by omega) (by omega)]; exact (lm_up_na (by decide)).trans (HR.1.1)
    · show _ = s_count (s_with (R 10) (nI c) (nI v)) (nI e); rw [count_with (by omega) he (by omega)]
      by_cases q : e = c
      · subst q; rw [if_pos rfl]; exact lm_up_eq
      · rw [if_neg q]; exact (lm_up_nk q).trans (HR.1.2 e he)
    · rw [lm_up_na (by decide)]; exact HR.2.2.2.2.1
    · rw [lm_up_na (by decide)]; exact HR.2.2.2.2.2
theorem y_sHideF {d : Nat} {hi : Nat → Nat → Int32} {hl : Nat → Nat → Int64} {X : lm_X} {hi0 : Nat → Nat → Int32} {T : lm_T} {n : Nat} {R : Nat → Int32} {tl : Nat → Int32} {ts p : Nat} {st : Int32} (P : eP hi0 hi X T n R tl ts p st) (hts : ts ≤ 250) (hp : p ≤ ts) {p1 : Nat} (q1 : tkE tl ts p = p1) (w0 : wdq tl ts p wL0 = false) (w3 : wdq tl ts p wL3 = false) (w4 : wdq tl ts p wL4 = false) (w5 : wdq tl ts p wL5 = false) (w6 : wdq tl ts p wL6 = false) (w7 : wdq tl ts p wL7 = false) (w8 : wdq tl ts p wL8 = false) (w9 : wdq tl ts p wL9 = true) (nF : nmO tl ts p1 0 7 = false) : lm_w (d + 20) 166 [.ref 123] (hi, hl, X) (eF hi0 hl X (tkF tl ts p1)) := by
  obtain ⟨⟨S, O, H, HR, FQ, K30⟩, HP⟩ := id P
  refine lm_w_in (Nat.le_of_ble_eq_true rfl) ?_
  show lm_wp (d + 20) 166 0 [.ref 123, lm_jk] [] (hi, hl, X) _
  refine w_N 2 3 [.ref 123, lm_jk] [.ref 12, .ref 123] rfl ?_
  refine w_cc (w_vst rfl rfl rfl (Nat.le_of_ble_eq_true rfl) (Nat.le_of_ble_eq_true rfl) (M_kd S)) (lm_c_v (m_isWord0 (d := d + 17) S O.2 hts hp HP) (c_eqz w0)) ?_
  show lm_wp _ 166 6 [.ref 123, lm_jk] [.int 0] (hi, hl, X) _
  refine w_if_eq_t (t := 23) rfl rfl (by decide) ?_
  refine w_N 2 26 [.ref 123, lm_jk] [.ref 15, .ref 123] rfl ?_
  refine w_cc (w_vst rfl rfl rfl (Nat.le_of_ble_eq_true rfl) (Nat.le_of_ble_eq_true rfl) (M_kd S)) (lm_c_v (m_isWord3 (d := d + 17) S O.2 hts hp HP) (c_eqz w3)) ?_
  show lm_wp _ 166 29 [.ref 123, lm_jk] [.int 0] (hi, hl, X) _
  refine w_if_eq_t (t := 70) rfl rfl (by decide) ?_
  refine w_N 2 73 [.ref 123, lm_jk] [.ref 16, .ref 123] rfl ?_
  refine w_cc (w_vst rfl rfl rfl (Nat.le_of_ble_eq_true rfl) (Nat.le_of_ble_eq_true rfl) (M_kd S)) (lm_c_v (m_isWord4 (d := d + 17) S O.2 hts hp HP) (c_eqz w4)) ?_
  show lm_wp _ 166 76 [.ref 123, lm_jk] [.int 0] (hi, hl, X) _
  refine w_if_eq_t (t := 123) rfl rfl (by decide) ?_
  refine w_N 2 126 [.ref 123, lm_jk] [.ref 17, .ref 123] rfl ?_
  refine w_cc (w_vst rfl rfl rfl (Nat.le_of_ble_eq_true rfl) (Nat.le_of_ble_eq_true rfl) (M_kd S)) (lm_c_v (m_isWord5 (d := d + 17) S O.2 hts hp HP) (c_eqz w5)) ?_
  show lm_wp _ 166 129 [.ref 123, lm_jk] [.int 0] (hi, hl, X) _
  refine w_if_eq_t (t := 141) rfl rfl (by decide) ?_
  refine w_N 2 144 [.ref 123, lm_jk] [.ref 18, .ref 123] rfl ?_
  refine w_cc (w_vst rfl rfl rfl (Nat.le_of_ble_eq_true rfl) (Nat.le_of_ble_eq_true rfl) (M_kd S)) (lm_c_v (m_isWord6 (d := d + 17) S O.2 hts hp HP) (c_eqz w6)) ?_
  show lm_wp _ 166 147 [.ref 123, lm_jk] [.int 0] (hi, hl, X) _
  refine w_if_eq_t (t := 159) rfl rfl (by decide) ?_
  refine w_N 2 162 [.ref 123, lm_jk] [.ref 19, .ref 123] rfl ?_
  refine w_cc (w_vst rfl rfl rfl (Nat.le_of_ble_eq_true rfl) (Nat.le_of_ble_eq_true rfl) (M_kd S)) (lm_c_v (m_isWord7 (d := d + 17) S O.2 hts hp HP) (c_eqz w7)) ?_
  show lm_wp _ 166 165 [.ref 123, lm_jk] [.int 0] (hi, hl, X) _
  refine w_if_eq_t (t := 177) rfl rfl (by decide) ?_
  refine w_N 2 180 [.ref 123, lm_jk] [.ref 20, .ref 123] rfl ?_
  refine w_cc (w_vst rfl rfl rfl (Nat.le_of_ble_eq_true rfl) (Nat.le_of_ble_eq_true rfl) (M_kd S)) (lm_c_v (m_isWord8 (d := d + 17) S O.2 hts hp HP) (c_eqz w8)) ?_
  show lm_wp _ 166 183 [.ref 123, lm_jk] [.int 0] (hi, hl, X) _
  refine w_if_eq_t (t := 195) rfl rfl (by decide) ?_
  refine w_N 2 198 [.ref 123, lm_jk] [.ref 21, .ref 123] rfl ?_
  refine w_cc (w_vst rfl rfl rfl (Nat.le_of_ble_eq_true rfl) (Nat.le_of_ble_eq_true rfl) (M_kd S)) (lm_c_1 (m_isWord9 (d := d + 17) S O.2 hts hp HP) w9) ?_
  show lm_wp _ 166 201 [.ref 123, lm_jk] [.int 1] (hi, hl, X) _
  refine w_if_eq_f (t := 242) rfl rfl (by decide) ?_
  refine w_N 5 211 [.ref 123, lm_jk] [.int 7, .int 0, .int 0, .ref 21, .ref 123] rfl ?_
  refine w_ca (w_vst rfl rfl rfl (Nat.le_of_ble_eq_true rfl) (Nat.le_of_ble_eq_true rfl) (M_kd S)) (m_tellsF9 (d := d + 15) S O.2 hts hp HP w9 (by rw [q1]; exact nF)) ?_
  rintro _ _ ⟨ha8, rfl, rfl, k28, f_ha8, g_ha8⟩
  have P := eQ_tok P.1 (fun a a1 a2 => f_ha8 a a1) g_ha8
  rw [q1] at k28
  obtain ⟨S, O, H, HR, FQ, K30⟩ := id P
  show lm_wp _ 166 214 [.ref 123, lm_jk] [.int 0] (ha8, hl, X) _
  refine w_N 3 217 [.ref 123, .int 0] [.ref 123, .ref 123] rfl ?_
  refine w_gi (v := R 11) rfl rfl rfl (M_kd S) (HR.2.1) ?_
  refine w_N 1 221 [.ref 123, .int 0] [.int 0, .int (R 11), .ref 123] rfl ?_
  refine w_if_eq_t (t := 235) rfl rfl (by decide) ?_
  refine w_N 2 237 [.ref 123, .int 0] [.int ((R 11) ||| 0), .ref 123] rfl ?_
  refine w_pi rfl rfl rfl rfl (M_kd S) (M_64 S) ?_
  refine w_N 1 241 [.ref 123, .int 0] [.int 0] rfl ?_
  refine w_rz rfl rfl (by decide) ?_
  exact ⟨rfl, _, rfl, rQ_u (by decide) (FQ), (lm_up_nk (by decide)).trans (k28)⟩
theorem y_sHideT {d : Nat} {hi : Nat → Nat → Int32} {hl : Nat → Nat → Int64} {X : lm_X} {hi0 : Nat → Nat → Int32} {T : lm_T} {n : Nat} {R : Nat → Int32} {tl : Nat → Int32} {ts p : Nat} {st : Int32} (P : eP hi0 hi X T n R tl ts p st) (hts : ts ≤ 250) (hp : p ≤ ts) {p1 p2 : Nat} (q1 : tkE tl ts p = p1) (q2 : tkE tl ts p1 = p2) (w0 : wdq tl ts p wL0 = false) (w3 : wdq tl ts p wL3 = false) (w4 : wdq tl ts p wL4 = false) (w5 : wdq tl ts p wL5 = false) (w6 : wdq tl ts p wL6 = false) (w7 : wdq tl ts p wL7 = false) (w8 : wdq tl ts p wL8 = false) (w9 : wdq tl ts p wL9 = true) {m : Nat} (hm : m ≤ 7) (n1 : nmO tl ts p1 0 7 = true) (v1 : fgI tl ts p1 = nI m) : lm_w (d + 20) 166 [.ref 123] (hi, hl, X) (eT hi0 hl X T n (lm_u1 R 11 (R 11 ||| (1 <<< (nI m &&& 31)))) tl ts p2 st) := by
  obtain ⟨⟨S, O, H, HR, FQ, K30⟩, HP⟩ := id P
  refine lm_w_in (Nat.le_of_ble_eq_true rfl) ?_
  show lm_wp (d + 20) 166 0 [.ref 123, lm_jk] [] (hi, hl, X) _
  refine w_N 2 3 [.ref 123, lm_jk] [.ref 12, .ref 123] rfl ?_
  refine w_cc (w_vst rfl rfl rfl (Nat.le_of_ble_eq_true rfl) (Nat.le_of_ble_eq_true rfl) (M_kd S)) (lm_c_v (m_isWord0 (d := d + 17) S O.2 hts hp HP) (c_eqz w0)) ?_
  show lm_wp _ 166 6 [.ref 123, lm_jk] [.int 0] (hi, hl, X) _
  refine w_if_eq_t (t := 23) rfl rfl (by decide) ?_
  refine w_N 2 26 [.ref 123, lm_jk] [.ref 15, .ref 123] rfl ?_
  refine w_cc (w_vst rfl rfl rfl (Nat.le_of_ble_eq_true rfl) (Nat.le_of_ble_eq_true rfl) (M_kd S)) (lm_c_v (m_isWord3 (d := d + 17) S O.2 hts hp HP) (c_eqz w3)) ?_
  show lm_wp _ 166 29 [.ref 123, lm_jk] [.int 0] (hi, hl, X) _
  refine w_if_eq_t (t := 70) rfl rfl (by decide) ?_
  refine w_N 2 73 [.ref 123, lm_jk] [.ref 16, .ref 123] rfl ?_
  refine w_cc (w_vst rfl rfl rfl (Nat.le_of_ble_eq_true rfl) (Nat.le_of_ble_eq_true rfl) (M_kd S)) (lm_c_v (m_isWord4 (d := d + 17) S O.2 hts hp HP) (c_eqz w4)) ?_
  show lm_wp _ 166 76 [.ref 123, lm_jk] [.int 0] (hi, hl, X) _
  refine w_if_eq_t (t := 123) rfl rfl (by decide) ?_
  refine w_N 2 126 [.ref 123, lm_jk] [.ref 17, .ref 123] rfl ?_
  refine w_cc (w_vst rfl rfl rfl (Nat.le_of_ble_eq_true rfl) (Nat.le_of_ble_eq_true rfl) (M_kd S)) (lm_c_v (m_isWord5 (d := d + 17) S O.2 hts hp HP) (c_eqz w5)) ?_
  show lm_wp _ 166 129 [.ref 123, lm_jk] [.int 0] (hi, hl, X) _
  refine w_if_eq_t (t := 141) rfl rfl (by decide) ?_
  refine w_N 2 144 [.ref 123, lm_jk] [.ref 18, .ref 123] rfl ?_
  refine w_cc (w_vst rfl rfl rfl (Nat.le_of_ble_eq_true rfl) (Nat.le_of_ble_eq_true rfl) (M_kd S)) (lm_c_v (m_isWord6 (d := d + 17) S O.2 hts hp HP) (c_eqz w6)) ?_
  show lm_wp _ 166 147 [.ref 123, lm_jk] [.int 0] (hi, hl, X) _
  refine w_if_eq_t (t := 159) rfl rfl (by decide) ?_
  refine w_N 2 162 [.ref 123, lm_jk] [.ref 19, .ref 123] rfl ?_
  refine w_cc (w_vst rfl rfl rfl (Nat.le_of_ble_eq_true rfl) (Nat.le_of_ble_eq_true rfl) (M_kd S)) (lm_c_v (m_isWord7 (d := d + 17) S O.2 hts hp HP) (c_eqz w7)) ?_
  show lm_wp _ 166 165 [.ref 123, lm_jk] [.int 0] (hi, hl, X) _
  refine w_if_eq_t (t := 177) rfl rfl (by decide) ?_
  refine w_N 2 180 [.ref 123, lm_jk] [.ref 20, .ref 123] rfl ?_
  refine w_cc (w_vst rfl rfl rfl (Nat.le_of_ble_eq_true rfl) (Nat.le_of_ble_eq_true rfl) (M_kd S)) (lm_c_v (m_isWord8 (d := d + 17) S O.2 hts hp HP) (c_eqz w8)) ?_
  show lm_wp _ 166 183 [.ref 123, lm_jk] [.int 0] (hi, hl, X) _
  refine w_if_eq_t (t := 195) rfl rfl (by decide) ?_
  refine w_N 2 198 [.ref 123, lm_jk] [.ref 21, .ref 123] rfl ?_
  refine w_cc (w_vst rfl rfl rfl (Nat.le_of_ble_eq_true rfl) (Nat.le_of_ble_eq_true rfl) (M_kd S)) (lm_c_1 (m_isWord9 (d := d + 17) S O.2 hts hp HP) w9) ?_
  show lm_wp _ 166 201 [.ref 123, lm_jk] [.int 1] (hi, hl, X) _
  refine w_if_eq_f (t := 242) rfl rfl (by decide) ?_
  refine w_N 5 211 [.ref 123, lm_jk] [.int 7, .int 0, .int 0, .ref 21, .ref 123] rfl ?_
  refine w_ca (w_vst rfl rfl rfl (Nat.le_of_ble_eq_true rfl) (Nat.le_of_ble_eq_true rfl) (M_kd S)) (m_tellsT9 (d := d + 15) (j := 0) S O.2 hts hp HP w9 rfl (by decide) (by rw [q1]; exact n1)) ?_
  rintro _ _ ⟨ha9, rfl, rfl, P_ha9, t0, u_ha9, f_ha9, g_ha9⟩
  rw [q1] at P_ha9 t0
  rw [q2] at P_ha9
  rw [v1] at t0
  have hp := (tk_b (tl := tl) (q1 ▸ (tk_b (tl := tl) hp).2.2.2.1 : p1 ≤ ts)).2.2.2.1
  rw [q2] at hp
  have P := (⟨eQ_tok P.1 f_ha9 (fun k a b c d _ => g_ha9 k a b c d), P_ha9⟩ : eP hi0 ha9 X T n R tl ts p2 st)
  obtain ⟨⟨S, O, H, HR, FQ, K30⟩, HP⟩ := id P
  show lm_wp _ 166 214 [.ref 123, lm_jk] [.int 1] (ha9, hl, X) _
  refine w_N 3 217 [.ref 123, .int 1] [.ref 123, .ref 123] rfl ?_
  refine w_gi (v := R 11) rfl rfl rfl (M_kd S) (HR.2.1) ?_
  refine w_N 1 221 [.ref 123, .int 1] [.int 1, .int (R 11), .ref 123] rfl ?_
  refine w_if_eq_f (t := 235) rfl rfl (by decide) ?_
  refine w_N 2 226 [.ref 123, .int 1] [.ref 123, .int 1, .int (R 11), .ref 123] rfl ?_
  refine w_gr 158 rfl rfl rfl (M_kd S) (M_r S (k := 29) (o := 35) rfl) ?_
  refine w_N 1 230 [.ref 123, .int 1] [.int 0, .ref 158, .int 1, .int (R 11), .ref 123] rfl ?_
  refine w_ia 0 (v := nI m) rfl (show X.2.1 (158) = 1 from M_k S 35 (by decide)) (show X.2.2.1 (158) = 4 from M_l S 35 (by decide)) rfl (by decide) (by decide) (t0) ?_
  refine w_N 3 237 [.ref 123, .int 1] [.int ((R 11) ||| (1 <<< ((nI m) &&& 31))), .ref 123] rfl ?_
  refine w_pi rfl rfl rfl rfl (M_kd S) (M_64 S) ?_
  refine w_N 1 241 [.ref 123, .int 1] [.int 1] rfl ?_
  refine w_rz rfl rfl (by decide) ?_
  refine ⟨rfl, _, rfl, eP_town P (fun a ha => ?_) ⟨(lm_up_nk (by decide)).trans (rfl), (lm_up_nk (by decide)).trans (rfl), (lm_up_nk (by decide)).trans (rfl), (lm_up_nk (by decide)).trans (rfl), (lm_up_nk (by decide)).trans (rfl), (lm_up_nk (by decide)).trans (rfl)⟩ ?_ ?_⟩
  · rw [lm_up_rw (by omega)]
  · have hn := rTle H
    refine ⟨fun k hk a ha => ?_, fun h hh w hw => ?_, ?_, hn⟩
    · rw [lm_up_na (by omega)]; exact H.1 k hk a ha
    · rw [lm_up_na (by omega)]; exact H.2.1 h hh w hw
    · exact (lm_up_nk (by decide)).trans (H.2.2.1)
  · refine ⟨⟨(lm_up_nk (by decide)).trans (HR.1.1), fun c hc => ?_⟩, lm_up_eq, (lm_up_nk (by decide)).trans (HR.2.2.1), (lm_up_nk (by decide)).trans (HR.2.2.2.1), ?_, ?_⟩
    · rw [lm_up_na (by decide)]; exact HR.1.2 c hc
    · rw [lm_up_na (by decide)]; exact HR.2.2.2.2.1
    · rw [lm_up_na (by decide)]; exact HR.2.2.2.2.2
theorem y_sNone {d : Nat} {hi : Nat → Nat → Int32} {hl : Nat → Nat → Int64} {X : lm_X} {hi0 : Nat → Nat → Int32} {T : lm_T} {n : Nat} {R : Nat → Int32} {tl : Nat → Int32} {ts p : Nat} {st : Int32} (P : eP hi0 hi X T n R tl ts p st) (hts : ts ≤ 250) (hp : p ≤ ts)  (w0 : wdq tl ts p wL0 = false) (w3 : wdq tl ts p wL3 = false) (w4 : wdq tl ts p wL4 = false) (w5 : wdq tl ts p wL5 = false) (w6 : wdq tl ts p wL6 = false) (w7 : wdq tl ts p wL7 = false) (w8 : wdq tl ts p wL8 = false) (w9 : wdq tl ts p wL9 = false) (w10 : wdq tl ts p wL10 = false)  : lm_w (d + 20) 166 [.ref 123] (hi, hl, X) (eF hi0 hl X (tkF tl ts p)) := by
  obtain ⟨⟨S, O, H, HR, FQ, K30⟩, HP⟩ := id P
  refine lm_w_in (Nat.le_of_ble_eq_true rfl) ?_
  show lm_wp (d + 20) 166 0 [.ref 123, lm_jk] [] (hi, hl, X) _
  refine w_N 2 3 [.ref 123, lm_jk] [.ref 12, .ref 123] rfl ?_
  refine w_cc (w_vst rfl rfl rfl (Nat.le_of_ble_eq_true rfl) (Nat.le_of_ble_eq_true rfl) (M_kd S)) (lm_c_v (m_isWord0 (d := d + 17) S O.2 hts hp HP) (c_eqz w0)) ?_
  show lm_wp _ 166 6 [.ref 123, lm_jk] [.int 0] (hi, hl, X) _
  refine w_if_eq_t (t := 23) rfl rfl (by decide) ?_
  refine w_N 2 26 [.ref 123, lm_jk] [.ref 15, .ref 123] rfl ?_
  refine w_cc (w_vst rfl rfl rfl (Nat.le_of_ble_eq_true rfl) (Nat.le_of_ble_eq_true rfl) (M_kd S)) (lm_c_v (m_isWord3 (d := d + 17) S O.2 hts hp HP) (c_eqz w3)) ?_
  show lm_wp _ 166 29 [.ref 123, lm_jk] [.int 0] (hi, hl, X) _
  refine w_if_eq_t (t := 70) rfl rfl (by decide) ?_
  refine w_N 2 73 [.ref 123, lm_jk] [.ref 16, .ref 123] rfl ?_
  refine w_cc (w_vst rfl rfl rfl (Nat.le_of_ble_eq_true rfl) (Nat.le_of_ble_eq_true rfl) (M_kd S)) (lm_c_v (m_isWord4 (d := d + 17) S O.2 hts hp HP) (c_eqz w4)) ?_
  show lm_wp _ 166 76 [.ref 123, lm_jk] [.int 0] (hi, hl, X) _
  refine w_if_eq_t (t := 123) rfl rfl (by decide) ?_
  refine w_N 2 126 [.ref 123, lm_jk] [.ref 17, .ref 123] rfl ?_
  refine w_cc (w_vst rfl rfl rfl (Nat.le_of_ble_eq_true rfl) (Nat.le_of_ble_eq_true rfl) (M_kd S)) (lm_c_v (m_isWord5 (d := d + 17) S O.2 hts hp HP) (c_eqz w5)) ?_
  show lm_wp _ 166 129 [.ref 123, lm_jk] [.int 0] (hi, hl, X) _
  refine w_if_eq_t (t := 141) rfl rfl (by decide) ?_
  refine w_N 2 144 [.ref 123, lm_jk] [.ref 18, .ref 123] rfl ?_
  refine w_cc (w_vst rfl rfl rfl (Nat.le_of_ble_eq_true rfl) (Nat.le_of_ble_eq_true rfl) (M_kd S)) (lm_c_v (m_isWord6 (d := d + 17) S O.2 hts hp HP) (c_eqz w6)) ?_
  show lm_wp _ 166 147 [.ref 123, lm_jk] [.int 0] (hi, hl, X) _
  refine w_if_eq_t (t := 159) rfl rfl (by decide) ?_
  refine w_N 2 162 [.ref 123, lm_jk] [.ref 19, .ref 123] rfl ?_
  refine w_cc (w_vst rfl rfl rfl (Nat.le_of_ble_eq_true rfl) (Nat.le_of_ble_eq_true rfl) (M_kd S)) (lm_c_v (m_isWord7 (d := d + 17) S O.2 hts hp HP) (c_eqz w7)) ?_
  show lm_wp _ 166 165 [.ref 123, lm_jk] [.int 0] (hi, hl, X) _
  refine w_if_eq_t (t := 177) rfl rfl (by decide) ?_
  refine w_N 2 180 [.ref 123, lm_jk] [.ref 20, .ref 123] rfl ?_
  refine w_cc (w_vst rfl rfl rfl (Nat.le_of_ble_eq_true rfl) (Nat.le_of_ble_eq_true rfl) (M_kd S)) (lm_c_v (m_isWord8 (d := d + 17) S O.2 hts hp HP) (c_eqz w8)) ?_
  show lm_wp _ 166 183 [.ref 123, lm_jk] [.int 0] (hi, hl, X) _
  refine w_if_eq_t (t := 195) rfl rfl (by decide) ?_
  refine w_N 2 198 [.ref 123, lm_jk] [.ref 21, .ref 123] rfl ?_
  refine w_cc (w_vst rfl rfl rfl (Nat.le_of_ble_eq_true rfl) (Nat.le_of_ble_eq_true rfl) (M_kd S)) (lm_c_v (m_isWord9 (d := d + 17) S O.2 hts hp HP) (c_eqz w9)) ?_
  show lm_wp _ 166 201 [.ref 123, lm_jk] [.int 0] (hi, hl, X) _
  refine w_if_eq_t (t := 242) rfl rfl (by decide) ?_
  refine w_N 5 248 [.ref 123, lm_jk] [.int 1, .int 0, .int 0, .ref 22, .ref 123] rfl ?_
  refine w_cc (w_vst rfl rfl rfl (Nat.le_of_ble_eq_true rfl) (Nat.le_of_ble_eq_true rfl) (M_kd S)) (m_tellsN (d := d + 15) S O.2 hts hp HP w10) ?_
  show lm_wp _ 166 251 [.ref 123, lm_jk] [.int 0] (lm_up hi 123 28 (nI (tkF tl ts p)), hl, X) _
  refine w_if_eq_t (t := 269) rfl rfl (by decide) ?_
  refine w_N 1 270 [.ref 123, lm_jk] [.int 0] rfl ?_
  refine w_rz rfl rfl (by decide) ?_
  exact ⟨rfl, _, rfl, rQ_u (by decide) FQ, lm_up_eq⟩
theorem y_sFull {d : Nat} {hi : Nat → Nat → Int32} {hl : Nat → Nat → Int64} {X : lm_X} {hi0 : Nat → Nat → Int32} {T : lm_T} {n : Nat} {R : Nat → Int32} {tl : Nat → Int32} {ts p : Nat} {st : Int32} (P : eP hi0 hi X T n R tl ts p st) (hts : ts ≤ 250) (hp : p ≤ ts)  (w0 : wdq tl ts p wL0 = true) (w3 : wdq tl ts p wL3 = false) (w4 : wdq tl ts p wL4 = false) (w5 : wdq tl ts p wL5 = false) (w6 : wdq tl ts p wL6 = false) (w7 : wdq tl ts p wL7 = false) (w8 : wdq tl ts p wL8 = false) (w9 : wdq tl ts p wL9 = false) (w10 : wdq tl ts p wL10 = false) (hn : n = 10) : lm_w (d + 20) 166 [.ref 123] (hi, hl, X) (eF hi0 hl X (tkF tl ts p)) := by
  obtain ⟨⟨S, O, H, HR, FQ, K30⟩, HP⟩ := id P
  refine lm_w_in (Nat.le_of_ble_eq_true rfl) ?_
  show lm_wp (d + 20) 166 0 [.ref 123, lm_jk] [] (hi, hl, X) _
  refine w_N 2 3 [.ref 123, lm_jk] [.ref 12, .ref 123] rfl ?_
  refine w_cc (w_vst rfl rfl rfl (Nat.le_of_ble_eq_true rfl) (Nat.le_of_ble_eq_true rfl) (M_kd S)) (lm_c_1 (m_isWord0 (d := d + 17) S O.2 hts hp HP) w0) ?_
  show lm_wp _ 166 6 [.ref 123, lm_jk] [.int 1] (hi, hl, X) _
  refine w_if_eq_f (t := 23) rfl rfl (by decide) ?_
  refine w_N 1 10 [.ref 123, lm_jk] [.ref 123] rfl ?_
  refine w_gi (v := nI n) rfl rfl rfl (M_kd S) (rTn H) ?_
  refine w_N 1 15 [.ref 123, lm_jk] [.int 10, .int (nI n)] rfl ?_
  refine w_icmp_ge_t (t := 23) rfl rfl (by rw [hn]; decide) ?_
  refine w_N 2 26 [.ref 123, lm_jk] [.ref 15, .ref 123] rfl ?_
  refine w_cc (w_vst rfl rfl rfl (Nat.le_of_ble_eq_true rfl) (Nat.le_of_ble_eq_true rfl) (M_kd S)) (lm_c_v (m_isWord3 (d := d + 17) S O.2 hts hp HP) (c_eqz w3)) ?_
  show lm_wp _ 166 29 [.ref 123, lm_jk] [.int 0] (hi, hl, X) _
  refine w_if_eq_t (t := 70) rfl rfl (by decide) ?_
  refine w_N 2 73 [.ref 123, lm_jk] [.ref 16, .ref 123] rfl ?_
  refine w_cc (w_vst rfl rfl rfl (Nat.le_of_ble_eq_true rfl) (Nat.le_of_ble_eq_true rfl) (M_kd S)) (lm_c_v (m_isWord4 (d := d + 17) S O.2 hts hp HP) (c_eqz w4)) ?_
  show lm_wp _ 166 76 [.ref 123, lm_jk] [.int 0] (hi, hl, X) _
  refine w_if_eq_t (t := 123) rfl rfl (by decide) ?_
  refine w_N 2 126 [.ref 123, lm_jk] [.ref 17, .ref 123] rfl ?_
  refine w_cc (w_vst rfl rfl rfl (Nat.le_of_ble_eq_true rfl) (Nat.le_of_ble_eq_true rfl) (M_kd S)) (lm_c_v (m_isWord5 (d := d + 17) S O.2 hts hp HP) (c_eqz w5)) ?_
  show lm_wp _ 166 129 [.ref 123, lm_jk] [.int 0] (hi, hl, X) _
  refine w_if_eq_t (t := 141) rfl rfl (by decide) ?_
  refine w_N 2 144 [.ref 123, lm_jk] [.ref 18, .ref 123] rfl ?_
  refine w_cc (w_vst rfl rfl rfl (Nat.le_of_ble_eq_true rfl) (Nat.le_of_ble_eq_true rfl) (M_kd S)) (lm_c_v (m_isWord6 (d := d + 17) S O.2 hts hp HP) (c_eqz w6)) ?_
  show lm_wp _ 166 147 [.ref 123, lm_jk] [.int 0] (hi, hl, X) _
  refine w_if_eq_t (t := 159) rfl rfl (by decide) ?_
  refine w_N 2 162 [.ref 123, lm_jk] [.ref 19, .ref 123] rfl ?_
  refine w_cc (w_vst rfl rfl rfl (Nat.le_of_ble_eq_true rfl) (Nat.le_of_ble_eq_true rfl) (M_kd S)) (lm_c_v (m_isWord7 (d := d + 17) S O.2 hts hp HP) (c_eqz w7)) ?_
  show lm_wp _ 166 165 [.ref 123, lm_jk] [.int 0] (hi, hl, X) _
  refine w_if_eq_t (t := 177) rfl rfl (by decide) ?_
  refine w_N 2 180 [.ref 123, lm_jk] [.ref 20, .ref 123] rfl ?_
  refine w_cc (w_vst rfl rfl rfl (Nat.le_of_ble_eq_true rfl) (Nat.le_of_ble_eq_true rfl) (M_kd S)) (lm_c_v (m_isWord8 (d := d + 17) S O.2 hts hp HP) (c_eqz w8)) ?_
  show lm_wp _ 166 183 [.ref 123, lm_jk] [.int 0] (hi, hl, X) _
  refine w_if_eq_t (t := 195) rfl rfl (by decide) ?_
  refine w_N 2 198 [.ref 123, lm_jk] [.ref 21, .ref 123] rfl ?_
  refine w_cc (w_vst rfl rfl rfl (Nat.le_of_ble_eq_true rfl) (Nat.le_of_ble_eq_true rfl) (M_kd S)) (lm_c_v (m_isWord9 (d := d + 17) S O.2 hts hp HP) (c_eqz w9)) ?_
  show lm_wp _ 166 201 [.ref 123, lm_jk] [.int 0] (hi, hl, X) _
  refine w_if_eq_t (t := 242) rfl rfl (by decide) ?_
  refine w_N 5 248 [.ref 123, lm_jk] [.int 1, .int 0, .int 0, .ref 22, .ref 123] rfl ?_
  refine w_cc (w_vst rfl rfl rfl (Nat.le_of_ble_eq_true rfl) (Nat.le_of_ble_eq_true rfl) (M_kd S)) (m_tellsN (d := d + 15) S O.2 hts hp HP w10) ?_
  show lm_wp _ 166 251 [.ref 123, lm_jk] [.int 0] (lm_up hi 123 28 (nI (tkF tl ts p)), hl, X) _
  refine w_if_eq_t (t := 269) rfl rfl (by decide) ?_
  refine w_N 1 270 [.ref 123, lm_jk] [.int 0] rfl ?_
  refine w_rz rfl rfl (by decide) ?_
  exact ⟨rfl, _, rfl, rQ_u (by decide) FQ, lm_up_eq⟩
theorem y_sLockF1 {d : Nat} {hi : Nat → Nat → Int32} {hl : Nat → Nat → Int64} {X : lm_X} {hi0 : Nat → Nat → Int32} {T : lm_T} {n : Nat} {R : Nat → Int32} {tl : Nat → Int32} {ts p : Nat} {st : Int32} (P : eP hi0 hi X T n R tl ts p st) (hts : ts ≤ 250) (hp : p ≤ ts) {p1 : Nat} (q1 : tkE tl ts p = p1) (w0 : wdq tl ts p wL0 = false) (w3 : wdq tl ts p wL3 = false) (w4 : wdq tl ts p wL4 = false) (w5 : wdq tl ts p wL5 = false) (w6 : wdq tl ts p wL6 = false) (w7 : wdq tl ts p wL7 = false) (w8 : wdq tl ts p wL8 = false) (w9 : wdq tl ts p wL9 = false) (w10 : wdq tl ts p wL10 = true) (nF : nmO tl ts p1 0 1 = false) : lm_w (d + 20) 166 [.ref 123] (hi, hl, X) (eF hi0 hl X (tkF tl ts p1)) := by
  obtain ⟨⟨S, O, H, HR, FQ, K30⟩, HP⟩ := id P
  refine lm_w_in (Nat.le_of_ble_eq_true rfl) ?_
  show lm_wp (d + 20) 166 0 [.ref 123, lm_jk] [] (hi, hl, X) _
  refine w_N 2 3 [.ref 123, lm_jk] [.ref 12, .ref 123] rfl ?_
  refine w_cc (w_vst rfl rfl rfl (Nat.le_of_ble_eq_true rfl) (Nat.le_of_ble_eq_true rfl) (M_kd S)) (lm_c_v (m_isWord0 (d := d + 17) S O.2 hts hp HP) (c_eqz w0)) ?_
  show lm_wp _ 166 6 [.ref 123, lm_jk] [.int 0] (hi, hl, X) _
  refine w_if_eq_t (t := 23) rfl rfl (by decide) ?_
  refine w_N 2 26 [.ref 123, lm_jk] [.ref 15, .ref 123] rfl ?_
  refine w_cc (w_vst rfl rfl rfl (Nat.le_of_ble_eq_true rfl) (Nat.le_of_ble_eq_true rfl) (M_kd S)) (lm_c_v (m_isWord3 (d := d + 17) S O.2 hts hp HP) (c_eqz w3)) ?_
  show lm_wp _ 166 29 [.ref 123, lm_jk] [.int 0] (hi, hl, X) _
  refine w_if_eq_t (t := 70) rfl rfl (by decide) ?_
  refine w_N 2 73 [.ref 123, lm_jk] [.ref 16, .ref 123] rfl ?_
  refine w_cc (w_vst rfl rfl rfl (Nat.le_of_ble_eq_true rfl) (Nat.le_of_ble_eq_true rfl) (M_kd S)) (lm_c_v (m_isWord4 (d := d + 17) S O.2 hts hp HP) (c_eqz w4)) ?_
  show lm_wp _ 166 76 [.ref 123, lm_jk] [.int 0] (hi, hl, X) _
  refine w_if_eq_t (t := 123) rfl rfl (by decide) ?_
  refine w_N 2 126 [.ref 123, lm_jk] [.ref 17, .ref 123] rfl ?_
  refine w_cc (w_vst rfl rfl rfl (Nat.le_of_ble_eq_true rfl) (Nat.le_of_ble_eq_true rfl) (M_kd S)) (lm_c_v (m_isWord5 (d := d + 17) S O.2 hts hp HP) (c_eqz w5)) ?_
  show lm_wp _ 166 129 [.ref 123, lm_jk] [.int 0] (hi, hl, X) _
  refine w_if_eq_t (t := 141) rfl rfl (by decide) ?_
  refine w_N 2 144 [.ref 123, lm_jk] [.ref 18, .ref 123] rfl ?_
  refine w_cc (w_vst rfl rfl rfl (Nat.le_of_ble_eq_true rfl) (Nat.le_of_ble_eq_true rfl) (M_kd S)) (lm_c_v (m_isWord6 (d := d + 17) S O.2 hts hp HP) (c_eqz w6)) ?_
  show lm_wp _ 166 147 [.ref 123, lm_jk] [.int 0] (hi, hl, X) _
  refine w_if_eq_t (t := 159) rfl rfl (by decide) ?_
  refine w_N 2 162 [.ref 123, lm_jk] [.ref 19, .ref 123] rfl ?_
  refine w_cc (w_vst rfl rfl rfl (Nat.le_of_ble_eq_true rfl) (Nat.le_of_ble_eq_true rfl) (M_kd S)) (lm_c_v (m_isWord7 (d := d + 17) S O.2 hts hp HP) (c_eqz w7)) ?_
  show lm_wp _ 166 165 [.ref 123, lm_jk] [.int 0] (hi, hl, X) _
  refine w_if_eq_t (t := 177) rfl rfl (by decide) ?_
  refine w_N 2 180 [.ref 123, lm_jk] [.ref 20, .ref 123] rfl ?_
  refine w_cc (w_vst rfl rfl rfl (Nat.le_of_ble_eq_true rfl) (Nat.le_of_ble_eq_true rfl) (M_kd S)) (lm_c_v (m_isWord8 (d := d + 17) S O.2 hts hp HP) (c_eqz w8)) ?_
  show lm_wp _ 166 183 [.ref 123, lm_jk] [.int 0] (hi, hl, X) _
  refine w_if_eq_t (t := 195) rfl rfl (by decide) ?_
  refine w_N 2 198 [.ref 123, lm_jk] [.ref 21, .ref 123] rfl ?_
  refine w_cc (w_vst rfl rfl rfl (Nat.le_of_ble_eq_true rfl) (Nat.le_of_ble_eq_true rfl) (M_kd S)) (lm_c_v (m_isWord9 (d := d + 17) S O.2 hts hp HP) (c_eqz w9)) ?_
  show lm_wp _ 166 201 [.ref 123, lm_jk] [.int 0] (hi, hl, X) _
  refine w_if_eq_t (t := 242) rfl rfl (by decide) ?_
  refine w_N 5 248 [.ref 123, lm_jk] [.int 1, .int 0, .int 0, .ref 22, .ref 123] rfl ?_
  refine w_ca (w_vst rfl rfl rfl (Nat.le_of_ble_eq_true rfl) (Nat.le_of_ble_eq_true rfl) (M_kd S)) (m_tellsF10 (d := d + 15) S O.2 hts hp HP w10 (by rw [q1]; exact nF)) ?_
  rintro _ _ ⟨ha12, rfl, rfl, k28, f_ha12, g_ha12⟩
  have P := eQ_tok P.1 (fun a a1 a2 => f_ha12 a a1) g_ha12
  rw [q1] at k28
  obtain ⟨S, O, H, HR, FQ, K30⟩ := id P
  show lm_wp _ 166 251 [.ref 123, lm_jk] [.int 0] (ha12, hl, X) _
  refine w_if_eq_t (t := 269) rfl rfl (by decide) ?_
  refine w_N 1 270 [.ref 123, lm_jk] [.int 0] rfl ?_
  refine w_rz rfl rfl (by decide) ?_
  exact ⟨rfl, _, rfl, FQ, k28⟩
theorem y_sLockF2 {d : Nat} {hi : Nat → Nat → Int32} {hl : Nat → Nat → Int64} {X : lm_X} {hi0 : Nat → Nat → Int32} {T : lm_T} {n : Nat} {R : Nat → Int32} {tl : Nat → Int32} {ts p : Nat} {st : Int32} (P : eP hi0 hi X T n R tl ts p st) (hts : ts ≤ 250) (hp : p ≤ ts) {p1 p2 : Nat} (q1 : tkE tl ts p = p1) (q2 : tkE tl ts p1 = p2) (w0 : wdq tl ts p wL0 = false) (w3 : wdq tl ts p wL3 = false) (w4 : wdq tl ts p wL4 = false) (w5 : wdq tl ts p wL5 = false) (w6 : wdq tl ts p wL6 = false) (w7 : wdq tl ts p wL7 = false) (w8 : wdq tl ts p wL8 = false) (w9 : wdq tl ts p wL9 = false) (w10 : wdq tl ts p wL10 = true) {h : Nat} (hh : h ≤ 1) (n1 : nmO tl ts p1 0 1 = true) (v1 : fgI tl ts p1 = nI h) (nF : nmO tl ts p2 0 (nI n - 1) = false) : lm_w (d + 20) 166 [.ref 123] (hi, hl, X) (eF hi0 hl X (tkF tl ts p2)) := by
  obtain ⟨⟨S, O, H, HR, FQ, K30⟩, HP⟩ := id P
  refine lm_w_in (Nat.le_of_ble_eq_true rfl) ?_
  show lm_wp (d + 20) 166 0 [.ref 123, lm_jk] [] (hi, hl, X) _
  refine w_N 2 3 [.ref 123, lm_jk] [.ref 12, .ref 123] rfl ?_
  refine w_cc (w_vst rfl rfl rfl (Nat.le_of_ble_eq_true rfl) (Nat.le_of_ble_eq_true rfl) (M_kd S)) (lm_c_v (m_isWord0 (d := d + 17) S O.2 hts hp HP) (c_eqz w0)) ?_
  show lm_wp _ 166 6 [.ref 123, lm_jk] [.int 0] (hi, hl, X) _
  refine w_if_eq_t (t := 23) rfl rfl (by decide) ?_
  refine w_N 2 26 [.ref 123, lm_jk] [.ref 15, .ref 123] rfl ?_
  refine w_cc (w_vst rfl rfl rfl (Nat.le_of_ble_eq_true rfl) (Nat.le_of_ble_eq_true rfl) (M_kd S)) (lm_c_v (m_isWord3 (d := d + 17) S O.2 hts hp HP) (c_eqz w3)) ?_
  show lm_wp _ 166 29 [.ref 123, lm_jk] [.int 0] (hi, hl, X) _
  refine w_if_eq_t (t := 70) rfl rfl (by decide) ?_
  refine w_N 2 73 [.ref 123, lm_jk] [.ref 16, .ref 123] rfl ?_
  refine w_cc (w_vst rfl rfl rfl (Nat.le_of_ble_eq_true rfl) (Nat.le_of_ble_eq_true rfl) (M_kd S)) (lm_c_v (m_isWord4 (d := d + 17) S O.2 hts hp HP) (c_eqz w4)) ?_
  show lm_wp _ 166 76 [.ref 123, lm_jk] [.int 0] (hi, hl, X) _
  refine w_if_eq_t (t := 123) rfl rfl (by decide) ?_
  refine w_N 2 126 [.ref 123, lm_jk] [.ref 17, .ref 123] rfl ?_
  refine w_cc (w_vst rfl rfl rfl (Nat.le_of_ble_eq_true rfl) (Nat.le_of_ble_eq_true rfl) (M_kd S)) (lm_c_v (m_isWord5 (d := d + 17) S O.2 hts hp HP) (c_eqz w5)) ?_
  show lm_wp _ 166 129 [.ref 123, lm_jk] [.int 0] (hi, hl, X) _
  refine w_if_eq_t (t := 141) rfl rfl (by decide) ?_
  refine w_N 2 144 [.ref 123, lm_jk] [.ref 18, .ref 123] rfl ?_
  refine w_cc (w_vst rfl rfl rfl (Nat.le_of_ble_eq_true rfl) (Nat.le_of_ble_eq_true rfl) (M_kd S)) (lm_c_v (m_isWord6 (d := d + 17) S O.2 hts hp HP) (c_eqz w6)) ?_
  show lm_wp _ 166 147 [.ref 123, lm_jk] [.int 0] (hi, hl, X) _
  refine w_if_eq_t (t := 159) rfl rfl (by decide) ?_
  refine w_N 2 162 [.ref 123, lm_jk] [.ref 19, .ref 123] rfl ?_
  refine w_cc (w_vst rfl rfl rfl (Nat.le_of_ble_eq_true rfl) (Nat.le_of_ble_eq_true rfl) (M_kd S)) (lm_c_v (m_isWord7 (d := d + 17) S O.2 hts hp HP) (c_eqz w7)) ?_
  show lm_wp _ 166 165 [.ref 123, lm_jk] [.int 0] (hi, hl, X) _
  refine w_if_eq_t (t := 177) rfl rfl (by decide) ?_
  refine w_N 2 180 [.ref 123, lm_jk] [.ref 20, .ref 123] rfl ?_
  refine w_cc (w_vst rfl rfl rfl (Nat.le_of_ble_eq_true rfl) (Nat.le_of_ble_eq_true rfl) (M_kd S)) (lm_c_v (m_isWord8 (d := d + 17) S O.2 hts hp HP) (c_eqz w8)) ?_
  show lm_wp _ 166 183 [.ref 123, lm_jk] [.int 0] (hi, hl, X) _
  refine w_if_eq_t (t := 195) rfl rfl (by decide) ?_
  refine w_N 2 198 [.ref 123, lm_jk] [.ref 21, .ref 123] rfl ?_
  refine w_cc (w_vst rfl rfl rfl (Nat.le_of_ble_eq_true rfl) (Nat.le_of_ble_eq_true rfl) (M_kd S)) (lm_c_v (m_isWord9 (d := d + 17) S O.2 hts hp HP) (c_eqz w9)) ?_
  show lm_wp _ 166 201 [.ref 123, lm_jk] [.int 0] (hi, hl, X) _
  refine w_if_eq_t (t := 242) rfl rfl (by decide) ?_
  refine w_N 5 248 [.ref 123, lm_jk] [.int 1, .int 0, .int 0, .ref 22, .ref 123] rfl ?_
  refine w_ca (w_vst rfl rfl rfl (Nat.le_of_ble_eq_true rfl) (Nat.le_of_ble_eq_true rfl) (M_kd S)) (m_tellsT10 (d := d + 15) (j := 0) S O.2 hts hp HP w10 rfl (by decide) (by rw [q1]; exact n1)) ?_
  rintro _ _ ⟨ha13, rfl, rfl, P_ha13, t0, u_ha13, f_ha13, g_ha13⟩
  rw [q1] at P_ha13 t0
  rw [q2] at P_ha13
  rw [v1] at t0
  have hp := (tk_b (tl := tl) (q1 ▸ (tk_b (tl := tl) hp).2.2.2.1 : p1 ≤ ts)).2.2.2.1
  rw [q2] at hp
  have P := (⟨eQ_tok P.1 f_ha13 (fun k a b c d _ => g_ha13 k a b c d), P_ha13⟩ : eP hi0 ha13 X T n R tl ts p2 st)
  obtain ⟨⟨S, O, H, HR, FQ, K30⟩, HP⟩ := id P
  show lm_wp _ 166 251 [.ref 123, lm_jk] [.int 1] (ha13, hl, X) _
  refine w_if_eq_f (t := 269) rfl rfl (by decide) ?_
  refine w_N 4 258 [.ref 123, lm_jk] [.ref 123, .int 0, .int 1, .ref 123] rfl ?_
  refine w_gi (v := nI n) rfl rfl rfl (M_kd S) (rTn H) ?_
  refine w_N 2 263 [.ref 123, lm_jk] [.int ((nI n) - 1), .int 0, .int 1, .ref 123] rfl ?_
  refine w_cc (w_vst rfl rfl rfl (Nat.le_of_ble_eq_true rfl) (Nat.le_of_ble_eq_true rfl) (M_kd S)) (m_numF (d := d + 17) S O.2 hts hp HP nF) ?_
  show lm_wp _ 166 266 [.ref 123, lm_jk] [.int 0] (lm_up ha13 123 28 (nI (tkF tl ts p2)), hl, X) _
  refine w_if_ne_f (t := 271) rfl rfl (by decide) ?_
  refine w_N 1 270 [.ref 123, lm_jk] [.int 0] rfl ?_
  refine w_rz rfl rfl (by decide) ?_
  exact ⟨rfl, _, rfl, rQ_u (by decide) (FQ), lm_up_eq⟩
theorem y_sLockT {d : Nat} {hi : Nat → Nat → Int32} {hl : Nat → Nat → Int64} {X : lm_X} {hi0 : Nat → Nat → Int32} {T : lm_T} {n : Nat} {R : Nat → Int32} {tl : Nat → Int32} {ts p : Nat} {st : Int32} (P : eP hi0 hi X T n R tl ts p st) (hts : ts ≤ 250) (hp : p ≤ ts) {p1 p2 p3 : Nat} (q1 : tkE tl ts p = p1) (q2 : tkE tl ts p1 = p2) (q3 : tkE tl ts p2 = p3) (w0 : wdq tl ts p wL0 = false) (w3 : wdq tl ts p wL3 = false) (w4 : wdq tl ts p wL4 = false) (w5 : wdq tl ts p wL5 = false) (w6 : wdq tl ts p wL6 = false) (w7 : wdq tl ts p wL7 = false) (w8 : wdq tl ts p wL8 = false) (w9 : wdq tl ts p wL9 = false) (w10 : wdq tl ts p wL10 = true) {h : Nat} (hh : h ≤ 1) (n1 : nmO tl ts p1 0 1 = true) (v1 : fgI tl ts p1 = nI h) {a : Nat} (ha : a < n) (n2 : nmO tl ts p2 0 (nI n - 1) = true) (v2 : fgI tl ts p2 = nI a) : lm_w (d + 20) 166 [.ref 123] (hi, hl, X) (eT hi0 hl X (lm_up T 6 a (lkS (T 6 a) h true)) n R tl ts p3 st) := by
  obtain ⟨⟨S, O, H, HR, FQ, K30⟩, HP⟩ := id P
  have hn10 := rTle H
  refine lm_w_in (Nat.le_of_ble_eq_true rfl) ?_
  show lm_wp (d + 20) 166 0 [.ref 123, lm_jk] [] (hi, hl, X) _
  refine w_N 2 3 [.ref 123, lm_jk] [.ref 12, .ref 123] rfl ?_
  refine w_cc (w_vst rfl rfl rfl (Nat.le_of_ble_eq_true rfl) (Nat.le_of_ble_eq_true rfl) (M_kd S)) (lm_c_v (m_isWord0 (d := d + 17) S O.2 hts hp HP) (c_eqz w0)) ?_
  show lm_wp _ 166 6 [.ref 123, lm_jk] [.int 0] (hi, hl, X) _
  refine w_if_eq_t (t := 23) rfl rfl (by decide) ?_
  refine w_N 2 26 [.ref 123, lm_jk] [.ref 15, .ref 123] rfl ?_
  refine w_cc (w_vst rfl rfl rfl (Nat.le_of_ble_eq_true rfl) (Nat.le_of_ble_eq_true rfl) (M_kd S)) (lm_c_v (m_isWord3 (d := d + 17) S O.2 hts hp HP) (c_eqz w3)) ?_
  show lm_wp _ 166 29 [.ref 123, lm_jk] [.int 0] (hi, hl, X) _
  refine w_if_eq_t (t := 70) rfl rfl (by decide) ?_
  refine w_N 2 73 [.ref 123, lm_jk] [.ref 16, .ref 123] rfl ?_
  refine w_cc (w_vst rfl rfl rfl (Nat.le_of_ble_eq_true rfl) (Nat.le_of_ble_eq_true rfl) (M_kd S)) (lm_c_v (m_isWord4 (d := d + 17) S O.2 hts hp HP) (c_eqz w4)) ?_
  show lm_wp _ 166 76 [.ref 123, lm_jk] [.int 0] (hi, hl, X) _
  refine w_if_eq_t (t := 123) rfl rfl (by decide) ?_
  refine w_N 2 126 [.ref 123, lm_jk] [.ref 17, .ref 123] rfl ?_
  refine w_cc (w_vst rfl rfl rfl (Nat.le_of_ble_eq_true rfl) (Nat.le_of_ble_eq_true rfl) (M_kd S)) (lm_c_v (m_isWord5 (d := d + 17) S O.2 hts hp HP) (c_eqz w5)) ?_
  show lm_wp _ 166 129 [.ref 123, lm_jk] [.int 0] (hi, hl, X) _
  refine w_if_eq_t (t := 141) rfl rfl (by decide) ?_
  refine w_N 2 144 [.ref 123, lm_jk] [.ref 18, .ref 123] rfl ?_
  refine w_cc (w_vst rfl rfl rfl (Nat.le_of_ble_eq_true rfl) (Nat.le_of_ble_eq_true rfl) (M_kd S)) (lm_c_v (m_isWord6 (d := d + 17) S O.2 hts hp HP) (c_eqz w6)) ?_
  show lm_wp _ 166 147 [.ref 123, lm_jk] [.int 0] (hi, hl, X) _
  refine w_if_eq_t (t := 159) rfl rfl (by decide) ?_
  refine w_N 2 162 [.ref 123, lm_jk] [.ref 19, .ref 123] rfl ?_
  refine w_cc (w_vst rfl rfl rfl (Nat.le_of_ble_eq_true rfl) (Nat.le_of_ble_eq_true rfl) (M_kd S)) (lm_c_v (m_isWord7 (d := d + 17) S O.2 hts hp HP) (c_eqz w7)) ?_
  show lm_wp _ 166 165 [.ref 123, lm_jk] [.int 0] (hi, hl, X) _
  refine w_if_eq_t (t := 177) rfl rfl (by decide) ?_
  refine w_N 2 180 [.ref 123, lm_jk] [.ref 20, .ref 123] rfl ?_
  refine w_cc (w_vst rfl rfl rfl (Nat.le_of_ble_eq_true rfl) (Nat.le_of_ble_eq_true rfl) (M_kd S)) (lm_c_v (m_isWord8 (d := d + 17) S O.2 hts hp HP) (c_eqz w8)) ?_
  show lm_wp _ 166 183 [.ref 123, lm_jk] [.int 0] (hi, hl, X) _
  refine w_if_eq_t (t := 195) rfl rfl (by decide) ?_
  refine w_N 2 198 [.ref 123, lm_jk] [.ref 21, .ref 123] rfl ?_
  refine w_cc (w_vst rfl rfl rfl (Nat.le_of_ble_eq_true rfl) (Nat.le_of_ble_eq_true rfl) (M_kd S)) (lm_c_v (m_isWord9 (d := d + 17) S O.2 hts hp HP) (c_eqz w9)) ?_
  show lm_wp _ 166 201 [.ref 123, lm_jk] [.int 0] (hi, hl, X) _
  refine w_if_eq_t (t := 242) rfl rfl (by decide) ?_
  refine w_N 5 248 [.ref 123, lm_jk] [.int 1, .int 0, .int 0, .ref 22, .ref 123] rfl ?_
  refine w_ca (w_vst rfl rfl rfl (Nat.le_of_ble_eq_true rfl) (Nat.le_of_ble_eq_true rfl) (M_kd S)) (m_tellsT10 (d := d + 15) (j := 0) S O.2 hts hp HP w10 rfl (by decide) (by rw [q1]; exact n1)) ?_
  rintro _ _ ⟨ha15, rfl, rfl, P_ha15, t0, u_ha15, f_ha15, g_ha15⟩
  rw [q1] at P_ha15 t0
  rw [q2] at P_ha15
  rw [v1] at t0
  have hp := (tk_b (tl := tl) (q1 ▸ (tk_b (tl := tl) hp).2.2.2.1 : p1 ≤ ts)).2.2.2.1
  rw [q2] at hp
  have P := (⟨eQ_tok P.1 f_ha15 (fun k a b c d _ => g_ha15 k a b c d), P_ha15⟩ : eP hi0 ha15 X T n R tl ts p2 st)
  obtain ⟨⟨S, O, H, HR, FQ, K30⟩, HP⟩ := id P
  show lm_wp _ 166 251 [.ref 123, lm_jk] [.int 1] (ha15, hl, X) _
  refine w_if_eq_f (t := 269) rfl rfl (by decide) ?_
  refine w_N 4 258 [.ref 123, lm_jk] [.ref 123, .int 0, .int 1, .ref 123] rfl ?_
  refine w_gi (v := nI n) rfl rfl rfl (M_kd S) (rTn H) ?_
  refine w_N 2 263 [.ref 123, lm_jk] [.int ((nI n) - 1), .int 0, .int 1, .ref 123] rfl ?_
  refine w_ca (w_vst rfl rfl rfl (Nat.le_of_ble_eq_true rfl) (Nat.le_of_ble_eq_true rfl) (M_kd S)) (m_numT (d := d + 17) (i := 1) S O.2 hts hp HP rfl (by decide) n2) ?_
  rintro _ _ ⟨hb16, rfl, rfl, P_hb16, t1, u_hb16, f_hb16, g_hb16⟩
  have t0 := (u_hb16 0 (by decide)).trans t0
  rw [v2] at t1
  rw [q3] at P_hb16
  have hp := (tk_b (tl := tl) hp).2.2.2.1
  rw [q3] at hp
  have P := (⟨eQ_tok P.1 f_hb16 (fun k a b c d _ => g_hb16 k a b c d), P_hb16⟩ : eP hi0 hb16 X T n R tl ts p3 st)
  obtain ⟨⟨S, O, H, HR, FQ, K30⟩, HP⟩ := id P
  show lm_wp _ 166 266 [.ref 123, lm_jk] [.int 1] (hb16, hl, X) _
  refine w_if_ne_t (t := 271) rfl rfl (by decide) ?_
  refine w_N 1 272 [.ref 123, lm_jk] [.ref 123] rfl ?_
  refine w_gr 141 rfl rfl rfl (M_kd S) (M_r S (k := 11) (o := 18) rfl) ?_
  refine w_N 1 276 [.ref 123, lm_jk] [.ref 123, .ref 141] rfl ?_
  refine w_gr 158 rfl rfl rfl (M_kd S) (M_r S (k := 29) (o := 35) rfl) ?_
  refine w_N 1 280 [.ref 123, lm_jk] [.int 1, .ref 158, .ref 141] rfl ?_
  refine w_ia 1 (v := nI a) rfl (show X.2.1 (158) = 1 from M_k S 35 (by decide)) (show X.2.2.1 (158) = 4 from M_l S 35 (by decide)) rfl (by decide) (by decide) (t1) ?_
  refine w_aa a (123 + (19 + a)) rfl (M_kk S (o := 18) (by decide)) (show X.2.2.1 (141) = 10 from M_l S 18 (by decide)) rfl (by omega) (by decide) (M_acr S (by omega)) ?_
  refine w_N 2 285 [.ref 123, lm_jk] [.int 6, .ref (123 + (19 + a)), .int 6, .ref (123 + (19 + a))] rfl ?_
  refine w_ia 6 (v := T 6 a) rfl (M_ack S (by omega)) (M_acl S (by omega)) rfl (by decide) (by decide) (rTa H (by decide) ha) ?_
  refine w_N 2 288 [.ref 123, lm_jk] [.ref 123, .int 1, .int (T 6 a), .int 6, .ref (123 + (19 + a))] rfl ?_
  refine w_gr 158 rfl rfl rfl (M_kd S) (M_r S (k := 29) (o := 35) rfl) ?_
  refine w_N 1 292 [.ref 123, lm_jk] [.int 0, .ref 158, .int 1, .int (T 6 a), .int 6, .ref (123 + (19 + a))] rfl ?_
  refine w_ia 0 (v := nI h) rfl (show X.2.1 (158) = 1 from M_k S 35 (by decide)) (show X.2.2.1 (158) = 4 from M_l S 35 (by decide)) rfl (by decide) (by decide) (t0) ?_
  refine w_N 2 295 [.ref 123, lm_jk] [.int ((T 6 a) ||| (1 <<< ((nI h) &&& 31))), .int 6, .ref (123 + (19 + a))] rfl ?_
  refine w_is 6 rfl (M_ack S (by omega)) (Nat.le_trans (M_64 S) (Nat.le_add_right _ _)) (M_acl S (by omega)) rfl (by decide) (by decide) ?_
  refine w_N 1 297 [.ref 123, lm_jk] [.int 1] rfl ?_
  refine w_rz rfl rfl (by decide) ?_
  have hn := rTle H
  refine ⟨rfl, _, rfl, eP_town P (fun a2 ha2 => lm_up_rw (by omega)) ⟨lm_up_na (by omega), lm_up_na (by omega), lm_up_na (by omega), lm_up_na (by omega), lm_up_na (by omega), lm_up_na (by omega)⟩ (rT_l H ha (fun b h1 h2 => lm_up_rw h2) (lm_up_na (by omega)) (fun k hk => lm_up_nk hk) (lm_up_eq.trans (if_pos rfl).symm)) ⟨⟨(lm_up_na (by omega)).trans HR.1.1, fun c hc => (lm_up_na (by omega)).trans (HR.1.2 c hc)⟩, (lm_up_na (by omega)).trans HR.2.1, (lm_up_na (by omega)).trans HR.2.2.1, (lm_up_na (by omega)).trans HR.2.2.2.1, (lm_up_na (by omega)).trans HR.2.2.2.2.1, (lm_up_na (by omega)).trans HR.2.2.2.2.2⟩⟩
theorem y_w5F1 {d : Nat} {hi : Nat → Nat → Int32} {hl : Nat → Nat → Int64} {X : lm_X} {hi0 : Nat → Nat → Int32} {T : lm_T} {n : Nat} {R : Nat → Int32} {tl : Nat → Int32} {ts p : Nat} {st : Int32} (P : eP hi0 hi X T n R tl ts p st) (hts : ts ≤ 250) (hp : p ≤ ts) {p1 : Nat} (q1 : tkE tl ts p = p1) (w5 : wdq tl ts p wL5 = true) (nF : nmO tl ts p1 0 1 = false) : lm_w (d + 20) 165 [.ref 123, .ref 17, .int 1, .int 1] (hi, hl, X) (eF hi0 hl X (tkF tl ts p1)) := by
  obtain ⟨⟨S, O, H, HR, FQ, K30⟩, HP⟩ := id P
  refine lm_w_in (Nat.le_of_ble_eq_true rfl) ?_
  show lm_wp (d + 20) 165 0 [.ref 123, .ref 17, .int 1, .int 1] [] (hi, hl, X) _
  refine w_N 5 5 [.ref 123, .ref 17, .int 1, .int 1] [.int 1, .int 0, .int 0, .ref 17, .ref 123] rfl ?_
  refine w_ca (w_vst rfl rfl rfl (Nat.le_of_ble_eq_true rfl) (Nat.le_of_ble_eq_true rfl) (M_kd S)) (m_tellsF5 (d := d + 15) S O.2 hts hp HP w5 (by rw [q1]; exact nF)) ?_
  rintro _ _ ⟨ha17, rfl, rfl, k28, f_ha17, g_ha17⟩
  have P := eQ_tok P.1 (fun a a1 a2 => f_ha17 a a1) g_ha17
  rw [q1] at k28
  obtain ⟨S, O, H, HR, FQ, K30⟩ := id P
  show lm_wp _ 165 8 [.ref 123, .ref 17, .int 1, .int 1] [.int 0] (ha17, hl, X) _
  refine w_if_eq_t (t := 50) rfl rfl (by decide) ?_
  refine w_N 1 51 [.ref 123, .ref 17, .int 1, .int 1] [.int 0] rfl ?_
  refine w_rz rfl rfl (by decide) ?_
  exact ⟨rfl, _, rfl, FQ, k28⟩
theorem y_w5F2 {d : Nat} {hi : Nat → Nat → Int32} {hl : Nat → Nat → Int64} {X : lm_X} {hi0 : Nat → Nat → Int32} {T : lm_T} {n : Nat} {R : Nat → Int32} {tl : Nat → Int32} {ts p : Nat} {st : Int32} (P : eP hi0 hi X T n R tl ts p st) (hts : ts ≤ 250) (hp : p ≤ ts) {p1 p2 : Nat} (q1 : tkE tl ts p = p1) (q2 : tkE tl ts p1 = p2) (w5 : wdq tl ts p wL5 = true) {h : Nat} (hh : h ≤ 1) (n1 : nmO tl ts p1 0 1 = true) (v1 : fgI tl ts p1 = nI h) (nF : nmO tl ts p2 0 7 = false) : lm_w (d + 20) 165 [.ref 123, .ref 17, .int 1, .int 1] (hi, hl, X) (eF hi0 hl X (tkF tl ts p2)) := by
  obtain ⟨⟨S, O, H, HR, FQ, K30⟩, HP⟩ := id P
  refine lm_w_in (Nat.le_of_ble_eq_true rfl) ?_
  show lm_wp (d + 20) 165 0 [.ref 123, .ref 17, .int 1, .int 1] [] (hi, hl, X) _
  refine w_N 5 5 [.ref 123, .ref 17, .int 1, .int 1] [.int 1, .int 0, .int 0, .ref 17, .ref 123] rfl ?_
  refine w_ca (w_vst rfl rfl rfl (Nat.le_of_ble_eq_true rfl) (Nat.le_of_ble_eq_true rfl) (M_kd S)) (m_tellsT5 (d := d + 15) (j := 0) S O.2 hts hp HP w5 rfl (by decide) (by rw [q1]; exact n1)) ?_
  rintro _ _ ⟨ha18, rfl, rfl, P_ha18, t0, u_ha18, f_ha18, g_ha18⟩
  rw [q1] at P_ha18 t0
  rw [q2] at P_ha18
  rw [v1] at t0
  have hp := (tk_b (tl := tl) (q1 ▸ (tk_b (tl := tl) hp).2.2.2.1 : p1 ≤ ts)).2.2.2.1
  rw [q2] at hp
  have P := (⟨eQ_tok P.1 f_ha18 (fun k a b c d _ => g_ha18 k a b c d), P_ha18⟩ : eP hi0 ha18 X T n R tl ts p2 st)
  obtain ⟨⟨S, O, H, HR, FQ, K30⟩, HP⟩ := id P
  show lm_wp _ 165 8 [.ref 123, .ref 17, .int 1, .int 1] [.int 1] (ha18, hl, X) _
  refine w_if_eq_f (t := 50) rfl rfl (by decide) ?_
  refine w_N 4 15 [.ref 123, .ref 17, .int 1, .int 1] [.int 1, .int 0, .int 1, .ref 123] rfl ?_
  refine w_if_eq_f (t := 23) rfl rfl (by decide) ?_
  refine w_N 2 24 [.ref 123, .ref 17, .int 1, .int 1] [.int 7, .int 0, .int 1, .ref 123] rfl ?_
  refine w_cc (w_vst rfl rfl rfl (Nat.le_of_ble_eq_true rfl) (Nat.le_of_ble_eq_true rfl) (M_kd S)) (m_numF (d := d + 17) S O.2 hts hp HP nF) ?_
  show lm_wp _ 165 27 [.ref 123, .ref 17, .int 1, .int 1] [.int 0] (lm_up ha18 123 28 (nI (tkF tl ts p2)), hl, X) _
  refine w_if_eq_t (t := 50) rfl rfl (by decide) ?_
  refine w_N 1 51 [.ref 123, .ref 17, .int 1, .int 1] [.int 0] rfl ?_
  refine w_rz rfl rfl (by decide) ?_
  exact ⟨rfl, _, rfl, rQ_u (by decide) (FQ), lm_up_eq⟩
theorem y_w5F3 {d : Nat} {hi : Nat → Nat → Int32} {hl : Nat → Nat → Int64} {X : lm_X} {hi0 : Nat → Nat → Int32} {T : lm_T} {n : Nat} {R : Nat → Int32} {tl : Nat → Int32} {ts p : Nat} {st : Int32} (P : eP hi0 hi X T n R tl ts p st) (hts : ts ≤ 250) (hp : p ≤ ts) {p1 p2 p3 : Nat} (q1 : tkE tl ts p = p1) (q2 : tkE tl ts p1 = p2) (q3 : tkE tl ts p2 = p3) (w5 : wdq tl ts p wL5 = true) {h : Nat} (hh : h ≤ 1) (n1 : nmO tl ts p1 0 1 = true) (v1 : fgI tl ts p1 = nI h) {w : Nat} (hw : w ≤ 7) (n2 : nmO tl ts p2 0 7 = true) (v2 : fgI tl ts p2 = nI w) (nF : nmO tl ts p3 0 99 = false) : lm_w (d + 20) 165 [.ref 123, .ref 17, .int 1, .int 1] (hi, hl, X) (eF hi0 hl X (tkF tl ts p3)) := by
  obtain ⟨⟨S, O, H, HR, FQ, K30⟩, HP⟩ := id P
  refine lm_w_in (Nat.le_of_ble_eq_true rfl) ?_
  show lm_wp (d + 20) 165 0 [.ref 123, .ref 17, .int 1, .int 1] [] (hi, hl, X) _
  refine w_N 5 5 [.ref 123, .ref 17, .int 1, .int 1] [.int 1, .int 0, .int 0, .ref 17, .ref 123] rfl ?_
  refine w_ca (w_vst rfl rfl rfl (Nat.le_of_ble_eq_true rfl) (Nat.le_of_ble_eq_true rfl) (M_kd S)) (m_tellsT5 (d := d + 15) (j := 0) S O.2 hts hp HP w5 rfl (by decide) (by rw [q1]; exact n1)) ?_
  rintro _ _ ⟨ha20, rfl, rfl, P_ha20, t0, u_ha20, f_ha20, g_ha20⟩
  rw [q1] at P_ha20 t0
  rw [q2] at P_ha20
  rw [v1] at t0
  have hp := (tk_b (tl := tl) (q1 ▸ (tk_b (tl := tl) hp).2.2.2.1 : p1 ≤ ts)).2.2.2.1
  rw [q2] at hp
  have P := (⟨eQ_tok P.1 f_ha20 (fun k a b c d _ => g_ha20 k a b c d), P_ha20⟩ : eP hi0 ha20 X T n R tl ts p2 st)
  obtain ⟨⟨S, O, H, HR, FQ, K30⟩, HP⟩ := id P
  show lm_wp _ 165 8 [.ref 123, .ref 17, .int 1, .int 1] [.int 1] (ha20, hl, X) _
  refine w_if_eq_f (t := 50) rfl rfl (by decide) ?_
  refine w_N 4 15 [.ref 123, .ref 17, .int 1, .int 1] [.int 1, .int 0, .int 1, .ref 123] rfl ?_
  refine w_if_eq_f (t := 23) rfl rfl (by decide) ?_
  refine w_N 2 24 [.ref 123, .ref 17, .int 1, .int 1] [.int 7, .int 0, .int 1, .ref 123] rfl ?_
  refine w_ca (w_vst rfl rfl rfl (Nat.le_of_ble_eq_true rfl) (Nat.le_of_ble_eq_true rfl) (M_kd S)) (m_numT (d := d + 17) (i := 1) S O.2 hts hp HP rfl (by decide) n2) ?_
  rintro _ _ ⟨hb21, rfl, rfl, P_hb21, t1, u_hb21, f_hb21, g_hb21⟩
  have t0 := (u_hb21 0 (by decide)).trans t0
  rw [v2] at t1
  rw [q3] at P_hb21
  have hp := (tk_b (tl := tl) hp).2.2.2.1
  rw [q3] at hp
  have P := (⟨eQ_tok P.1 f_hb21 (fun k a b c d _ => g_hb21 k a b c d), P_hb21⟩ : eP hi0 hb21 X T n R tl ts p3 st)
  obtain ⟨⟨S, O, H, HR, FQ, K30⟩, HP⟩ := id P
  show lm_wp _ 165 27 [.ref 123, .ref 17, .int 1, .int 1] [.int 1] (hb21, hl, X) _
  refine w_if_eq_f (t := 50) rfl rfl (by decide) ?_
  refine w_N 4 34 [.ref 123, .ref 17, .int 1, .int 1] [.int 1, .int 0, .int 2, .ref 123] rfl ?_
  refine w_if_eq_f (t := 42) rfl rfl (by decide) ?_
  refine w_N 2 44 [.ref 123, .ref 17, .int 1, .int 1] [.int 99, .int 0, .int 2, .ref 123] rfl ?_
  refine w_cc (w_vst rfl rfl rfl (Nat.le_of_ble_eq_true rfl) (Nat.le_of_ble_eq_true rfl) (M_kd S)) (m_numF (d := d + 17) S O.2 hts hp HP nF) ?_
  show lm_wp _ 165 47 [.ref 123, .ref 17, .int 1, .int 1] [.int 0] (lm_up hb21 123 28 (nI (tkF tl ts p3)), hl, X) _
  refine w_if_ne_f (t := 52) rfl rfl (by decide) ?_
  refine w_N 1 51 [.ref 123, .ref 17, .int 1, .int 1] [.int 0] rfl ?_
  refine w_rz rfl rfl (by decide) ?_
  exact ⟨rfl, _, rfl, rQ_u (by decide) (FQ), lm_up_eq⟩
theorem y_w5T {d : Nat} {hi : Nat → Nat → Int32} {hl : Nat → Nat → Int64} {X : lm_X} {hi0 : Nat → Nat → Int32} {T : lm_T} {n : Nat} {R : Nat → Int32} {tl : Nat → Int32} {ts p : Nat} {st : Int32} (P : eP hi0 hi X T n R tl ts p st) (hts : ts ≤ 250) (hp : p ≤ ts) {p1 p2 p3 p4 : Nat} (q1 : tkE tl ts p = p1) (q2 : tkE tl ts p1 = p2) (q3 : tkE tl ts p2 = p3) (q4 : tkE tl ts p3 = p4) (w5 : wdq tl ts p wL5 = true) {h : Nat} (hh : h ≤ 1) (n1 : nmO tl ts p1 0 1 = true) (v1 : fgI tl ts p1 = nI h) {w : Nat} (hw : w ≤ 7) (n2 : nmO tl ts p2 0 7 = true) (v2 : fgI tl ts p2 = nI w) {v : Nat} (hv : v ≤ 99) (n3 : nmO tl ts p3 0 99 = true) (v3 : fgI tl ts p3 = nI v) : lm_w (d + 20) 165 [.ref 123, .ref 17, .int 1, .int 1] (hi, hl, X) (eT hi0 hl X (lm_up T 7 (12 * h + w) (1 * nI v)) n R tl ts p4 st) := by
  obtain ⟨⟨S, O, H, HR, FQ, K30⟩, HP⟩ := id P
  refine lm_w_in (Nat.le_of_ble_eq_true rfl) ?_
  show lm_wp (d + 20) 165 0 [.ref 123, .ref 17, .int 1, .int 1] [] (hi, hl, X) _
  refine w_N 5 5 [.ref 123, .ref 17, .int 1, .int 1] [.int 1, .int 0, .int 0, .ref 17, .ref 123] rfl ?_
  refine w_ca (w_vst rfl rfl rfl (Nat.le_of_ble_eq_true rfl) (Nat.le_of_ble_eq_true rfl) (M_kd S)) (m_tellsT5 (d := d + 15) (j := 0) S O.2 hts hp HP w5 rfl (by decide) (by rw [q1]; exact n1)) ?_
  rintro _ _ ⟨ha23, rfl, rfl, P_ha23, t0, u_ha23, f_ha23, g_ha23⟩
  rw [q1] at P_ha23 t0
  rw [q2] at P_ha23
  rw [v1] at t0
  have hp := (tk_b (tl := tl) (q1 ▸ (tk_b (tl := tl) hp).2.2.2.1 : p1 ≤ ts)).2.2.2.1
  rw [q2] at hp
  have P := (⟨eQ_tok P.1 f_ha23 (fun k a b c d _ => g_ha23 k a b c d), P_ha23⟩ : eP hi0 ha23 X T n R tl ts p2 st)
  obtain ⟨⟨S, O, H, HR, FQ, K30⟩, HP⟩ := id P
  show lm_wp _ 165 8 [.ref 123, .ref 17, .int 1, .int 1] [.int 1] (ha23, hl, X) _
  refine w_if_eq_f (t := 50) rfl rfl (by decide) ?_
  refine w_N 4 15 [.ref 123, .ref 17, .int 1, .int 1] [.int 1, .int 0, .int 1, .ref 123] rfl ?_
  refine w_if_eq_f (t := 23) rfl rfl (by decide) ?_
  refine w_N 2 24 [.ref 123, .ref 17, .int 1, .int 1] [.int 7, .int 0, .int 1, .ref 123] rfl ?_
  refine w_ca (w_vst rfl rfl rfl (Nat.le_of_ble_eq_true rfl) (Nat.le_of_ble_eq_true rfl) (M_kd S)) (m_numT (d := d + 17) (i := 1) S O.2 hts hp HP rfl (by decide) n2) ?_
  rintro _ _ ⟨hb24, rfl, rfl, P_hb24, t1, u_hb24, f_hb24, g_hb24⟩
  have t0 := (u_hb24 0 (by decide)).trans t0
  rw [v2] at t1
  rw [q3] at P_hb24
  have hp := (tk_b (tl := tl) hp).2.2.2.1
  rw [q3] at hp
  have P := (⟨eQ_tok P.1 f_hb24 (fun k a b c d _ => g_hb24 k a b c d), P_hb24⟩ : eP hi0 hb24 X T n R tl ts p3 st)
  obtain ⟨⟨S, O, H, HR, FQ, K30⟩, HP⟩ := id P
  show lm_wp _ 165 27 [.ref 123, .ref 17, .int 1, .int 1] [.int 1] (hb24, hl, X) _
  refine w_if_eq_f (t := 50) rfl rfl (by decide) ?_
  refine w_N 4 34 [.ref 123, .ref 17, .int 1, .int 1] [.int 1, .int 0, .int 2, .ref 123] rfl ?_
  refine w_if_eq_f (t := 42) rfl rfl (by decide) ?_
  refine w_N 2 44 [.ref 123, .ref 17, .int 1, .int 1] [.int 99, .int 0, .int 2, .ref 123] rfl ?_
  refine w_ca (w_vst rfl rfl rfl (Nat.le_of_ble_eq_true rfl) (Nat.le_of_ble_eq_true rfl) (M_kd S)) (m_numT (d := d + 17) (i := 2) S O.2 hts hp HP rfl (by decide) n3) ?_
  rintro _ _ ⟨hb25, rfl, rfl, P_hb25, t2, u_hb25, f_hb25, g_hb25⟩
  have t0 := (u_hb25 0 (by decide)).trans t0
  have t1 := (u_hb25 1 (by decide)).trans t1
  rw [v3] at t2
  rw [q4] at P_hb25
  have hp := (tk_b (tl := tl) hp).2.2.2.1
  rw [q4] at hp
  have P := (⟨eQ_tok P.1 f_hb25 (fun k a b c d _ => g_hb25 k a b c d), P_hb25⟩ : eP hi0 hb25 X T n R tl ts p4 st)
  obtain ⟨⟨S, O, H, HR, FQ, K30⟩, HP⟩ := id P
  show lm_wp _ 165 47 [.ref 123, .ref 17, .int 1, .int 1] [.int 1] (hb25, hl, X) _
  refine w_if_ne_t (t := 52) rfl rfl (by decide) ?_
  refine w_N 1 53 [.ref 123, .ref 17, .int 1, .int 1] [.ref 123] rfl ?_
  refine w_gr 153 rfl rfl rfl (M_kd S) (M_r S (k := 16) (o := 30) rfl) ?_
  refine w_N 1 57 [.ref 123, .ref 17, .int 1, .int 1] [.ref 123, .ref 153] rfl ?_
  refine w_gr 158 rfl rfl rfl (M_kd S) (M_r S (k := 29) (o := 35) rfl) ?_
  refine w_N 1 61 [.ref 123, .ref 17, .int 1, .int 1] [.int 0, .ref 158, .ref 153] rfl ?_
  refine w_ia 0 (v := nI h) rfl (show X.2.1 (158) = 1 from M_k S 35 (by decide)) (show X.2.2.1 (158) = 4 from M_l S 35 (by decide)) rfl (by decide) (by decide) (t0) ?_
  refine w_aa h (123 + (31 + h)) rfl (M_kk S (o := 30) (by decide)) (show X.2.2.1 (153) = 2 from M_l S 30 (by decide)) rfl (by omega) (by decide) (M_wor S (by omega)) ?_
  refine w_N 1 64 [.ref 123, .ref 17, .int 1, .int 1] [.int 1, .ref (123 + (31 + h))] rfl ?_
  refine w_if_eq_f (t := 76) rfl rfl (by decide) ?_
  refine w_N 1 68 [.ref 123, .ref 17, .int 1, .int 1] [.ref 123, .ref (123 + (31 + h))] rfl ?_
  refine w_gr 158 rfl rfl rfl (M_kd S) (M_r S (k := 29) (o := 35) rfl) ?_
  refine w_N 1 72 [.ref 123, .ref 17, .int 1, .int 1] [.int 1, .ref 158, .ref (123 + (31 + h))] rfl ?_
  refine w_ia 1 (v := nI w) rfl (show X.2.1 (158) = 1 from M_k S 35 (by decide)) (show X.2.2.1 (158) = 4 from M_l S 35 (by decide)) rfl (by decide) (by decide) (t1) ?_
  refine w_N 3 87 [.ref 123, .ref 17, .int 1, .int 1] [.ref 123, .int 1, .int (nI w), .ref (123 + (31 + h))] rfl ?_
  refine w_gr 158 rfl rfl rfl (M_kd S) (M_r S (k := 29) (o := 35) rfl) ?_
  refine w_N 1 91 [.ref 123, .ref 17, .int 1, .int 1] [.int 2, .ref 158, .int 1, .int (nI w), .ref (123 + (31 + h))] rfl ?_
  refine w_ia 2 (v := nI v) rfl (show X.2.1 (158) = 1 from M_k S 35 (by decide)) (show X.2.2.1 (158) = 4 from M_l S 35 (by decide)) rfl (by decide) (by decide) (t2) ?_
  refine w_N 1 93 [.ref 123, .ref 17, .int 1, .int 1] [.int (1 * (nI v)), .int (nI w), .ref (123 + (31 + h))] rfl ?_
  refine w_is w rfl (M_wok S (by omega)) (Nat.le_trans (M_64 S) (Nat.le_add_right _ _)) (M_wol S (by omega)) rfl (by omega) (by decide) ?_
  refine w_N 1 95 [.ref 123, .ref 17, .int 1, .int 1] [.int 1] rfl ?_
  refine w_rz rfl rfl (by decide) ?_
  have hn := rTle H
  refine ⟨rfl, _, rfl, eP_town P (fun a2 ha2 => lm_up_rw (by omega)) ⟨lm_up_na (by omega), lm_up_na (by omega), lm_up_na (by omega), lm_up_na (by omega), lm_up_na (by omega), lm_up_na (by omega)⟩ ⟨fun k hk a ha => ?_, fun h2 hh2 w2 hw2 => ?_, (lm_up_na (by omega)).trans H.2.2.1, hn⟩ ⟨⟨(lm_up_na (by omega)).trans HR.1.1, fun c hc => (lm_up_na (by omega)).trans (HR.1.2 c hc)⟩, (lm_up_na (by omega)).trans HR.2.1, (lm_up_na (by omega)).trans HR.2.2.1, (lm_up_na (by omega)).trans HR.2.2.2.1, (lm_up_na (by omega)).trans HR.2.2.2.2.1, (lm_up_na (by omega)).trans HR.2.2.2.2.2⟩⟩
  · rw [lm_up_na (by omega), lm_up_na (by omega)]; exact H.1 k hk a ha
  · by_cases e : h2 = h
    · subst e
      by_cases e2 : w2 = w
      · subst e2; rw [lm_up_eq, lm_up_eq]
      · rw [lm_up_nk e2, lm_up_nk (by omega)]; exact H.2.1 h2 hh2 w2 hw2
    · rw [lm_up_na (by omega), lm_up_nk (by omega)]; exact H.2.1 h2 hh2 w2 hw2
theorem y_w6F1 {d : Nat} {hi : Nat → Nat → Int32} {hl : Nat → Nat → Int64} {X : lm_X} {hi0 : Nat → Nat → Int32} {T : lm_T} {n : Nat} {R : Nat → Int32} {tl : Nat → Int32} {ts p : Nat} {st : Int32} (P : eP hi0 hi X T n R tl ts p st) (hts : ts ≤ 250) (hp : p ≤ ts) {p1 : Nat} (q1 : tkE tl ts p = p1) (w6 : wdq tl ts p wL6 = true) (nF : nmO tl ts p1 0 1 = false) : lm_w (d + 20) 165 [.ref 123, .ref 18, .int 1, .int (-1)] (hi, hl, X) (eF hi0 hl X (tkF tl ts p1)) := by
  obtain ⟨⟨S, O, H, HR, FQ, K30⟩, HP⟩ := id P
  refine lm_w_in (Nat.le_of_ble_eq_true rfl) ?_
  show lm_wp (d + 20) 165 0 [.ref 123, .ref 18, .int 1, .int (-1)] [] (hi, hl, X) _
  refine w_N 5 5 [.ref 123, .ref 18, .int 1, .int (-1)] [.int 1, .int 0, .int 0, .ref 18, .ref 123] rfl ?_
  refine w_ca (w_vst rfl rfl rfl (Nat.le_of_ble_eq_true rfl) (Nat.le_of_ble_eq_true rfl) (M_kd S)) (m_tellsF6 (d := d + 15) S O.2 hts hp HP w6 (by rw [q1]; exact nF)) ?_
  rintro _ _ ⟨ha26, rfl, rfl, k28, f_ha26, g_ha26⟩
  have P := eQ_tok P.1 (fun a a1 a2 => f_ha26 a a1) g_ha26
  rw [q1] at k28
  obtain ⟨S, O, H, HR, FQ, K30⟩ := id P
  show lm_wp _ 165 8 [.ref 123, .ref 18, .int 1, .int (-1)] [.int 0] (ha26, hl, X) _
  refine w_if_eq_t (t := 50) rfl rfl (by decide) ?_
  refine w_N 1 51 [.ref 123, .ref 18, .int 1, .int (-1)] [.int 0] rfl ?_
  refine w_rz rfl rfl (by decide) ?_
  exact ⟨rfl, _, rfl, FQ, k28⟩
theorem y_w6F2 {d : Nat} {hi : Nat → Nat → Int32} {hl : Nat → Nat → Int64} {X : lm_X} {hi0 : Nat → Nat → Int32} {T : lm_T} {n : Nat} {R : Nat → Int32} {tl : Nat → Int32} {ts p : Nat} {st : Int32} (P : eP hi0 hi X T n R tl ts p st) (hts : ts ≤ 250) (hp : p ≤ ts) {p1 p2 : Nat} (q1 : tkE tl ts p = p1) (q2 : tkE tl ts p1 = p2) (w6 : wdq tl ts p wL6 = true) {h : Nat} (hh : h ≤ 1) (n1 : nmO tl ts p1 0 1 = true) (v1 : fgI tl ts p1 = nI h) (nF : nmO tl ts p2 0 7 = false) : lm_w (d + 20) 165 [.ref 123, .ref 18, .int 1, .int (-1)] (hi, hl, X) (eF hi0 hl X (tkF tl ts p2)) := by
  obtain ⟨⟨S, O, H, HR, FQ, K30⟩, HP⟩ := id P
  refine lm_w_in (Nat.le_of_ble_eq_true rfl) ?_
  show lm_wp (d + 20) 165 0 [.ref 123, .ref 18, .int 1, .int (-1)] [] (hi, hl, X) _
  refine w_N 5 5 [.ref 123, .ref 18, .int 1, .int (-1)] [.int 1, .int 0, .int 0, .ref 18, .ref 123] rfl ?_
  refine w_ca (w_vst rfl rfl rfl (Nat.le_of_ble_eq_true rfl) (Nat.le_of_ble_eq_true rfl) (M_kd S)) (m_tellsT6 (d := d + 15) (j := 0) S O.2 hts hp HP w6 rfl (by decide) (by rw [q1]; exact n1)) ?_
  rintro _ _ ⟨ha27, rfl, rfl, P_ha27, t0, u_ha27, f_ha27, g_ha27⟩
  rw [q1] at P_ha27 t0
  rw [q2] at P_ha27
  rw [v1] at t0
  have hp := (tk_b (tl := tl) (q1 ▸ (tk_b (tl := tl) hp).2.2.2.1 : p1 ≤ ts)).2.2.2.1
  rw [q2] at hp
  have P := (⟨eQ_tok P.1 f_ha27 (fun k a b c d _ => g_ha27 k a b c d), P_ha27⟩ : eP hi0 ha27 X T n R tl ts p2 st)
  obtain ⟨⟨S, O, H, HR, FQ, K30⟩, HP⟩ := id P
  show lm_wp _ 165 8 [.ref 123, .ref 18, .int 1, .int (-1)] [.int 1] (ha27, hl, X) _
  refine w_if_eq_f (t := 50) rfl rfl (by decide) ?_
  refine w_N 4 15 [.ref 123, .ref 18, .int 1, .int (-1)] [.int 1, .int 0, .int 1, .ref 123] rfl ?_
  refine w_if_eq_f (t := 23) rfl rfl (by decide) ?_
  refine w_N 2 24 [.ref 123, .ref 18, .int 1, .int (-1)] [.int 7, .int 0, .int 1, .ref 123] rfl ?_
  refine w_cc (w_vst rfl rfl rfl (Nat.le_of_ble_eq_true rfl) (Nat.le_of_ble_eq_true rfl) (M_kd S)) (m_numF (d := d + 17) S O.2 hts hp HP nF) ?_
  show lm_wp _ 165 27 [.ref 123, .ref 18, .int 1, .int (-1)] [.int 0] (lm_up ha27 123 28 (nI (tkF tl ts p2)), hl, X) _
  refine w_if_eq_t (t := 50) rfl rfl (by decide) ?_
  refine w_N 1 51 [.ref 123, .ref 18, .int 1, .int (-1)] [.int 0] rfl ?_
  refine w_rz rfl rfl (by decide) ?_
  exact ⟨rfl, _, rfl, rQ_u (by decide) (FQ), lm_up_eq⟩
theorem y_w6F3 {d : Nat} {hi : Nat → Nat → Int32} {hl : Nat → Nat → Int64} {X : lm_X} {hi0 : Nat → Nat → Int32} {T : lm_T} {n : Nat} {R : Nat → Int32} {tl : Nat → Int32} {ts p : Nat} {st : Int32} (P : eP hi0 hi X T n R tl ts p st) (hts : ts ≤ 250) (hp : p ≤ ts) {p1 p2 p3 : Nat} (q1 : tkE tl ts p = p1) (q2 : tkE tl ts p1 = p2) (q3 : tkE tl ts p2 = p3) (w6 : wdq tl ts p wL6 = true) {h : Nat} (hh : h ≤ 1) (n1 : nmO tl ts p1 0 1 = true) (v1 : fgI tl ts p1 = nI h) {w : Nat} (hw : w ≤ 7) (n2 : nmO tl ts p2 0 7 = true) (v2 : fgI tl ts p2 = nI w) (nF : nmO tl ts p3 0 99 = false) : lm_w (d + 20) 165 [.ref 123, .ref 18, .int 1, .int (-1)] (hi, hl, X) (eF hi0 hl X (tkF tl ts p3)) := by
  obtain ⟨⟨S, O, H, HR, FQ, K30⟩, HP⟩ := id P
  refine lm_w_in (Nat.le_of_ble_eq_true rfl) ?_
  show lm_wp (d + 20) 165 0 [.ref 123, .ref 18, .int 1, .int (-1)] [] (hi, hl, X) _
  refine w_N 5 5 [.ref 123, .ref 18, .int 1, .int (-1)] [.int 1, .int 0, .int 0, .ref 18, .ref 123] rfl ?_
  refine w_ca (w_vst rfl rfl rfl (Nat.le_of_ble_eq_true rfl) (Nat.le_of_ble_eq_true rfl) (M_kd S)) (m_tellsT6 (d := d + 15) (j := 0) S O.2 hts hp HP w6 rfl (by decide) (by rw [q1]; exact n1)) ?_
  rintro _ _ ⟨ha29, rfl, rfl, P_ha29, t0, u_ha29, f_ha29, g_ha29⟩
  rw [q1] at P_ha29 t0
  rw [q2] at P_ha29
  rw [v1] at t0
  have hp := (tk_b (tl := tl) (q1 ▸ (tk_b (tl := tl) hp).2.2.2.1 : p1 ≤ ts)).2.2.2.1
  rw [q2] at hp
  have P := (⟨eQ_tok P.1 f_ha29 (fun k a b c d _ => g_ha29 k a b c d), P_ha29⟩ : eP hi0 ha29 X T n R tl ts p2 st)
  obtain ⟨⟨S, O, H, HR, FQ, K30⟩, HP⟩ := id P
  show lm_wp _ 165 8 [.ref 123, .ref 18, .int 1, .int (-1)] [.int 1] (ha29, hl, X) _
  refine w_if_eq_f (t := 50) rfl rfl (by decide) ?_
  refine w_N 4 15 [.ref 123, .ref 18, .int 1, .int (-1)] [.int 1, .int 0, .int 1, .ref 123] rfl ?_
  refine w_if_eq_f (t := 23) rfl rfl (by decide) ?_
  refine w_N 2 24 [.ref 123, .ref 18, .int 1, .int (-1)] [.int 7, .int 0, .int 1, .ref 123] rfl ?_
  refine w_ca (w_vst rfl rfl rfl (Nat.le_of_ble_eq_true rfl) (Nat.le_of_ble_eq_true rfl) (M_kd S)) (m_numT (d := d + 17) (i := 1) S O.2 hts hp HP rfl (by decide) n2) ?_
  rintro _ _ ⟨hb30, rfl, rfl, P_hb30, t1, u_hb30, f_hb30, g_hb30⟩
  have t0 := (u_hb30 0 (by decide)).trans t0
  rw [v2] at t1
  rw [q3] at P_hb30
  have hp := (tk_b (tl := tl) hp).2.2.2.1
  rw [q3] at hp
  have P := (⟨eQ_tok P.1 f_hb30 (fun k a b c d _ => g_hb30 k a b c d), P_hb30⟩ : eP hi0 hb30 X T n R tl ts p3 st)
  obtain ⟨⟨S, O, H, HR, FQ, K30⟩, HP⟩ := id P
  show lm_wp _ 165 27 [.ref 123, .ref 18, .int 1, .int (-1)] [.int 1] (hb30, hl, X) _
  refine w_if_eq_f (t := 50) rfl rfl (by decide) ?_
  refine w_N 4 34 [.ref 123, .ref 18, .int 1, .int (-1)] [.int 1, .int 0, .int 2, .ref 123] rfl ?_
  refine w_if_eq_f (t := 42) rfl rfl (by decide) ?_
  refine w_N 2 44 [.ref 123, .ref 18, .int 1, .int (-1)] [.int 99, .int 0, .int 2, .ref 123] rfl ?_
  refine w_cc (w_vst rfl rfl rfl (Nat.le_of_ble_eq_true rfl) (Nat.le_of_ble_eq_true rfl) (M_kd S)) (m_numF (d := d + 17) S O.2 hts hp HP nF) ?_
  show lm_wp _ 165 47 [.ref 123, .ref 18, .int 1, .int (-1)] [.int 0] (lm_up hb30 123 28 (nI (tkF tl ts p3)), hl, X) _
  refine w_if_ne_f (t := 52) rfl rfl (by decide) ?_
  refine w_N 1 51 [.ref 123, .ref 18, .int 1, .int (-1)] [.int 0] rfl ?_
  refine w_rz rfl rfl (by decide) ?_
  exact ⟨rfl, _, rfl, rQ_u (by decide) (FQ), lm_up_eq⟩
theorem y_w6T {d : Nat} {hi : Nat → Nat → Int32} {hl : Nat → Nat → Int64} {X : lm_X} {hi0 : Nat → Nat → Int32} {T : lm_T} {n : Nat} {R : Nat → Int32} {tl : Nat → Int32} {ts p : Nat} {st : Int32} (P : eP hi0 hi X T n R tl ts p st) (hts : ts ≤ 250) (hp : p ≤ ts) {p1 p2 p3 p4 : Nat} (q1 : tkE tl ts p = p1) (q2 : tkE tl ts p1 = p2) (q3 : tkE tl ts p2 = p3) (q4 : tkE tl ts p3 = p4) (w6 : wdq tl ts p wL6 = true) {h : Nat} (hh : h ≤ 1) (n1 : nmO tl ts p1 0 1 = true) (v1 : fgI tl ts p1 = nI h) {w : Nat} (hw : w ≤ 7) (n2 : nmO tl ts p2 0 7 = true) (v2 : fgI tl ts p2 = nI w) {v : Nat} (hv : v ≤ 99) (n3 : nmO tl ts p3 0 99 = true) (v3 : fgI tl ts p3 = nI v) : lm_w (d + 20) 165 [.ref 123, .ref 18, .int 1, .int (-1)] (hi, hl, X) (eT hi0 hl X (lm_up T 7 (12 * h + w) ((-1) * nI v)) n R tl ts p4 st) := by
  obtain ⟨⟨S, O, H, HR, FQ, K30⟩, HP⟩ := id P
  refine lm_w_in (Nat.le_of_ble_eq_true rfl) ?_
  show lm_wp (d + 20) 165 0 [.ref 123, .ref 18, .int 1, .int (-1)] [] (hi, hl, X) _
  refine w_N 5 5 [.ref 123, .ref 18, .int 1, .int (-1)] [.int 1, .int 0, .int 0, .ref 18, .ref 123] rfl ?_
  refine w_ca (w_vst rfl rfl rfl (Nat.le_of_ble_eq_true rfl) (Nat.le_of_ble_eq_true rfl) (M_kd S)) (m_tellsT6 (d := d + 15) (j := 0) S O.2 hts hp HP w6 rfl (by decide) (by rw [q1]; exact n1)) ?_
  rintro _ _ ⟨ha32, rfl, rfl, P_ha32, t0, u_ha32, f_ha32, g_ha32⟩
  rw [q1] at P_ha32 t0
  rw [q2] at P_ha32
  rw [v1] at t0
  have hp := (tk_b (tl := tl) (q1 ▸ (tk_b (tl := tl) hp).2.2.2.1 : p1 ≤ ts)).2.2.2.1
  rw [q2] at hp
  have P := (⟨eQ_tok P.1 f_ha32 (fun k a b c d _ => g_ha32 k a b c d), P_ha32⟩ : eP hi0 ha32 X T n R tl ts p2 st)
  obtain ⟨⟨S, O, H, HR, FQ, K30⟩, HP⟩ := id P
  show lm_wp _ 165 8 [.ref 123, .ref 18, .int 1, .int (-1)] [.int 1] (ha32, hl, X) _
  refine w_if_eq_f (t := 50) rfl rfl (by decide) ?_
  refine w_N 4 15 [.ref 123, .ref 18, .int 1, .int (-1)] [.int 1, .int 0, .int 1, .ref 123] rfl ?_
  refine w_if_eq_f (t := 23) rfl rfl (by decide) ?_
  refine w_N 2 24 [.ref 123, .ref 18, .int 1, .int (-1)] [.int 7, .int 0, .int 1, .ref 123] rfl ?_
  refine w_ca (w_vst rfl rfl rfl (Nat.le_of_ble_eq_true rfl) (Nat.le_of_ble_eq_true rfl) (M_kd S)) (m_numT (d := d + 17) (i := 1) S O.2 hts hp HP rfl (by decide) n2) ?_
  rintro _ _ ⟨hb33, rfl, rfl, P_hb33, t1, u_hb33, f_hb33, g_hb33⟩
  have t0 := (u_hb33 0 (by decide)).trans t0
  rw [v2] at t1
  rw [q3] at P_hb33
  have hp := (tk_b (tl := tl) hp).2.2.2.1
  rw [q3] at hp
  have P := (⟨eQ_tok P.1 f_hb33 (fun k a b c d _ => g_hb33 k a b c d), P_hb33⟩ : eP hi0 hb33 X T n R tl ts p3 st)
  obtain ⟨⟨S, O, H, HR, FQ, K30⟩, HP⟩ := id P
  show lm_wp _ 165 27 [.ref 123, .ref 18, .int 1, .int (-1)] [.int 1] (hb33, hl, X) _
  refine w_if_eq_f (t := 50) rfl rfl (by decide) ?_
  refine w_N 4 34 [.ref 123, .ref 18, .int 1, .int (-1)] [.int 1, .int 0, .int 2, .ref 123] rfl ?_
  refine w_if_eq_f (t := 42) rfl rfl (by decide) ?_
  refine w_N 2 44 [.ref 123, .ref 18, .int 1, .int (-1)] [.int 99, .int 0, .int 2, .ref 123] rfl ?_
  refine w_ca (w_vst rfl rfl rfl (Nat.le_of_ble_eq_true rfl) (Nat.le_of_ble_eq_true rfl) (M_kd S)) (m_numT (d := d + 17) (i := 2) S O.2 hts hp HP rfl (by decide) n3) ?_
  rintro _ _ ⟨hb34, rfl, rfl, P_hb34, t2, u_hb34, f_hb34, g_hb34⟩
  have t0 := (u_hb34 0 (by decide)).trans t0
  have t1 := (u_hb34 1 (by decide)).trans t1
  rw [v3] at t2
  rw [q4] at P_hb34
  have hp := (tk_b (tl := tl) hp).2.2.2.1
  rw [q4] at hp
  have P := (⟨eQ_tok P.1 f_hb34 (fun k a b c d _ => g_hb34 k a b c d), P_hb34⟩ : eP hi0 hb34 X T n R tl ts p4 st)
  obtain ⟨⟨S, O, H, HR, FQ, K30⟩, HP⟩ := id P
  show lm_wp _ 165 47 [.ref 123, .ref 18, .int 1, .int (-1)] [.int 1] (hb34, hl, X) _
  refine w_if_ne_t (t := 52) rfl rfl (by decide) ?_
  refine w_N 1 53 [.ref 123, .ref 18, .int 1, .int (-1)] [.ref 123] rfl ?_
  refine w_gr 153 rfl rfl rfl (M_kd S) (M_r S (k := 16) (o := 30) rfl) ?_
  refine w_N 1 57 [.ref 123, .ref 18, .int 1, .int (-1)] [.ref 123, .ref 153] rfl ?_
  refine w_gr 158 rfl rfl rfl (M_kd S) (M_r S (k := 29) (o := 35) rfl) ?_
  refine w_N 1 61 [.ref 123, .ref 18, .int 1, .int (-1)] [.int 0, .ref 158, .ref 153] rfl ?_
  refine w_ia 0 (v := nI h) rfl (show X.2.1 (158) = 1 from M_k S 35 (by decide)) (show X.2.2.1 (158) = 4 from M_l S 35 (by decide)) rfl (by decide) (by decide) (t0) ?_
  refine w_aa h (123 + (31 + h)) rfl (M_kk S (o := 30) (by decide)) (show X.2.2.1 (153) = 2 from M_l S 30 (by decide)) rfl (by omega) (by decide) (M_wor S (by omega)) ?_
  refine w_N 1 64 [.ref 123, .ref 18, .int 1, .int (-1)] [.int 1, .ref (123 + (31 + h))] rfl ?_
  refine w_if_eq_f (t := 76) rfl rfl (by decide) ?_
  refine w_N 1 68 [.ref 123, .ref 18, .int 1, .int (-1)] [.ref 123, .ref (123 + (31 + h))] rfl ?_
  refine w_gr 158 rfl rfl rfl (M_kd S) (M_r S (k := 29) (o := 35) rfl) ?_
  refine w_N 1 72 [.ref 123, .ref 18, .int 1, .int (-1)] [.int 1, .ref 158, .ref (123 + (31 + h))] rfl ?_
  refine w_ia 1 (v := nI w) rfl (show X.2.1 (158) = 1 from M_k S 35 (by decide)) (show X.2.2.1 (158) = 4 from M_l S 35 (by decide)) rfl (by decide) (by decide) (t1) ?_
  refine w_N 3 87 [.ref 123, .ref 18, .int 1, .int (-1)] [.ref 123, .int (-1), .int (nI w), .ref (123 + (31 + h))] rfl ?_
  refine w_gr 158 rfl rfl rfl (M_kd S) (M_r S (k := 29) (o := 35) rfl) ?_
  refine w_N 1 91 [.ref 123, .ref 18, .int 1, .int (-1)] [.int 2, .ref 158, .int (-1), .int (nI w), .ref (123 + (31 + h))] rfl ?_
  refine w_ia 2 (v := nI v) rfl (show X.2.1 (158) = 1 from M_k S 35 (by decide)) (show X.2.2.1 (158) = 4 from M_l S 35 (by decide)) rfl (by decide) (by decide) (t2) ?_
  refine w_N 1 93 [.ref 123, .ref 18, .int 1, .int (-1)] [.int ((-1) * (nI v)), .int (nI w), .ref (123 + (31 + h))] rfl ?_
  refine w_is w rfl (M_wok S (by omega)) (Nat.le_trans (M_64 S) (Nat.le_add_right _ _)) (M_wol S (by omega)) rfl (by omega) (by decide) ?_
  refine w_N 1 95 [.ref 123, .ref 18, .int 1, .int (-1)] [.int 1] rfl ?_
  refine w_rz rfl rfl (by decide) ?_
  have hn := rTle H
  refine ⟨rfl, _, rfl, eP_town P (fun a2 ha2 => lm_up_rw (by omega)) ⟨lm_up_na (by omega), lm_up_na (by omega), lm_up_na (by omega), lm_up_na (by omega), lm_up_na (by omega), lm_up_na (by omega)⟩ ⟨fun k hk a ha => ?_, fun h2 hh2 w2 hw2 => ?_, (lm_up_na (by omega)).trans H.2.2.1, hn⟩ ⟨⟨(lm_up_na (by omega)).trans HR.1.1, fun c hc => (lm_up_na (by omega)).trans (HR.1.2 c hc)⟩, (lm_up_na (by omega)).trans HR.2.1, (lm_up_na (by omega)).trans HR.2.2.1, (lm_up_na (by omega)).trans HR.2.2.2.1, (lm_up_na (by omega)).trans HR.2.2.2.2.1, (lm_up_na (by omega)).trans HR.2.2.2.2.2⟩⟩
  · rw [lm_up_na (by omega), lm_up_na (by omega)]; exact H.1 k hk a ha
  · by_cases e : h2 = h
    · subst e
      by_cases e2 : w2 = w
      · subst e2; rw [lm_up_eq, lm_up_eq]
      · rw [lm_up_nk e2, lm_up_nk (by omega)]; exact H.2.1 h2 hh2 w2 hw2
    · rw [lm_up_na (by omega), lm_up_nk (by omega)]; exact H.2.1 h2 hh2 w2 hw2
theorem y_w7F1 {d : Nat} {hi : Nat → Nat → Int32} {hl : Nat → Nat → Int64} {X : lm_X} {hi0 : Nat → Nat → Int32} {T : lm_T} {n : Nat} {R : Nat → Int32} {tl : Nat → Int32} {ts p : Nat} {st : Int32} (P : eP hi0 hi X T n R tl ts p st) (hts : ts ≤ 250) (hp : p ≤ ts) {p1 : Nat} (q1 : tkE tl ts p = p1) (w7 : wdq tl ts p wL7 = true) (nF : nmO tl ts p1 0 1 = false) : lm_w (d + 20) 165 [.ref 123, .ref 19, .int 0, .int 1] (hi, hl, X) (eF hi0 hl X (tkF tl ts p1)) := by
  obtain ⟨⟨S, O, H, HR, FQ, K30⟩, HP⟩ := id P
  refine lm_w_in (Nat.le_of_ble_eq_true rfl) ?_
  show lm_wp (d + 20) 165 0 [.ref 123, .ref 19, .int 0, .int 1] [] (hi, hl, X) _
  refine w_N 5 5 [.ref 123, .ref 19, .int 0, .int 1] [.int 1, .int 0, .int 0, .ref 19, .ref 123] rfl ?_
  refine w_ca (w_vst rfl rfl rfl (Nat.le_of_ble_eq_true rfl) (Nat.le_of_ble_eq_true rfl) (M_kd S)) (m_tellsF7 (d := d + 15) S O.2 hts hp HP w7 (by rw [q1]; exact nF)) ?_
  rintro _ _ ⟨ha35, rfl, rfl, k28, f_ha35, g_ha35⟩
  have P := eQ_tok P.1 (fun a a1 a2 => f_ha35 a a1) g_ha35
  rw [q1] at k28
  obtain ⟨S, O, H, HR, FQ, K30⟩ := id P
  show lm_wp _ 165 8 [.ref 123, .ref 19, .int 0, .int 1] [.int 0] (ha35, hl, X) _
  refine w_if_eq_t (t := 50) rfl rfl (by decide) ?_
  refine w_N 1 51 [.ref 123, .ref 19, .int 0, .int 1] [.int 0] rfl ?_
  refine w_rz rfl rfl (by decide) ?_
  exact ⟨rfl, _, rfl, FQ, k28⟩
theorem y_w7F2 {d : Nat} {hi : Nat → Nat → Int32} {hl : Nat → Nat → Int64} {X : lm_X} {hi0 : Nat → Nat → Int32} {T : lm_T} {n : Nat} {R : Nat → Int32} {tl : Nat → Int32} {ts p : Nat} {st : Int32} (P : eP hi0 hi X T n R tl ts p st) (hts : ts ≤ 250) (hp : p ≤ ts) {p1 p2 : Nat} (q1 : tkE tl ts p = p1) (q2 : tkE tl ts p1 = p2) (w7 : wdq tl ts p wL7 = true) {h : Nat} (hh : h ≤ 1) (n1 : nmO tl ts p1 0 1 = true) (v1 : fgI tl ts p1 = nI h) (nF : nmO tl ts p2 0 3 = false) : lm_w (d + 20) 165 [.ref 123, .ref 19, .int 0, .int 1] (hi, hl, X) (eF hi0 hl X (tkF tl ts p2)) := by
  obtain ⟨⟨S, O, H, HR, FQ, K30⟩, HP⟩ := id P
  refine lm_w_in (Nat.le_of_ble_eq_true rfl) ?_
  show lm_wp (d + 20) 165 0 [.ref 123, .ref 19, .int 0, .int 1] [] (hi, hl, X) _
  refine w_N 5 5 [.ref 123, .ref 19, .int 0, .int 1] [.int 1, .int 0, .int 0, .ref 19, .ref 123] rfl ?_
  refine w_ca (w_vst rfl rfl rfl (Nat.le_of_ble_eq_true rfl) (Nat.le_of_ble_eq_true rfl) (M_kd S)) (m_tellsT7 (d := d + 15) (j := 0) S O.2 hts hp HP w7 rfl (by decide) (by rw [q1]; exact n1)) ?_
  rintro _ _ ⟨ha36, rfl, rfl, P_ha36, t0, u_ha36, f_ha36, g_ha36⟩
  rw [q1] at P_ha36 t0
  rw [q2] at P_ha36
  rw [v1] at t0
  have hp := (tk_b (tl := tl) (q1 ▸ (tk_b (tl := tl) hp).2.2.2.1 : p1 ≤ ts)).2.2.2.1
  rw [q2] at hp
  have P := (⟨eQ_tok P.1 f_ha36 (fun k a b c d _ => g_ha36 k a b c d), P_ha36⟩ : eP hi0 ha36 X T n R tl ts p2 st)
  obtain ⟨⟨S, O, H, HR, FQ, K30⟩, HP⟩ := id P
  show lm_wp _ 165 8 [.ref 123, .ref 19, .int 0, .int 1] [.int 1] (ha36, hl, X) _
  refine w_if_eq_f (t := 50) rfl rfl (by decide) ?_
  refine w_N 4 15 [.ref 123, .ref 19, .int 0, .int 1] [.int 0, .int 0, .int 1, .ref 123] rfl ?_
  refine w_if_eq_t (t := 23) rfl rfl (by decide) ?_
  refine w_N 1 24 [.ref 123, .ref 19, .int 0, .int 1] [.int 3, .int 0, .int 1, .ref 123] rfl ?_
  refine w_cc (w_vst rfl rfl rfl (Nat.le_of_ble_eq_true rfl) (Nat.le_of_ble_eq_true rfl) (M_kd S)) (m_numF (d := d + 17) S O.2 hts hp HP nF) ?_
  show lm_wp _ 165 27 [.ref 123, .ref 19, .int 0, .int 1] [.int 0] (lm_up ha36 123 28 (nI (tkF tl ts p2)), hl, X) _
  refine w_if_eq_t (t := 50) rfl rfl (by decide) ?_
  refine w_N 1 51 [.ref 123, .ref 19, .int 0, .int 1] [.int 0] rfl ?_
  refine w_rz rfl rfl (by decide) ?_
  exact ⟨rfl, _, rfl, rQ_u (by decide) (FQ), lm_up_eq⟩
theorem y_w7F3 {d : Nat} {hi : Nat → Nat → Int32} {hl : Nat → Nat → Int64} {X : lm_X} {hi0 : Nat → Nat → Int32} {T : lm_T} {n : Nat} {R : Nat → Int32} {tl : Nat → Int32} {ts p : Nat} {st : Int32} (P : eP hi0 hi X T n R tl ts p st) (hts : ts ≤ 250) (hp : p ≤ ts) {p1 p2 p3 : Nat} (q1 : tkE tl ts p = p1) (q2 : tkE tl ts p1 = p2) (q3 : tkE tl ts p2 = p3) (w7 : wdq tl ts p wL7 = true) {h : Nat} (hh : h ≤ 1) (n1 : nmO tl ts p1 0 1 = true) (v1 : fgI tl ts p1 = nI h) {w : Nat} (hw : w ≤ 3) (n2 : nmO tl ts p2 0 3 = true) (v2 : fgI tl ts p2 = nI w) (nF : nmO tl ts p3 0 9 = false) : lm_w (d + 20) 165 [.ref 123, .ref 19, .int 0, .int 1] (hi, hl, X) (eF hi0 hl X (tkF tl ts p3)) := by
  obtain ⟨⟨S, O, H, HR, FQ, K30⟩, HP⟩ := id P
  refine lm_w_in (Nat.le_of_ble_eq_true rfl) ?_
  show lm_wp (d + 20) 165 0 [.ref 123, .ref 19, .int 0, .int 1] [] (hi, hl, X) _
  refine w_N 5 5 [.ref 123, .ref 19, .int 0, .int 1] [.int 1, .int 0, .int 0, .ref 19, .ref 123] rfl ?_
  refine w_ca (w_vst rfl rfl rfl (Nat.le_of_ble_eq_true rfl) (Nat.le_of_ble_eq_true rfl) (M_kd S)) (m_tellsT7 (d := d + 15) (j := 0) S O.2 hts hp HP w7 rfl (by decide) (by rw [q1]; exact n1)) ?_
  rintro _ _ ⟨ha38, rfl, rfl, P_ha38, t0, u_ha38, f_ha38, g_ha38⟩
  rw [q1] at P_ha38 t0
  rw [q2] at P_ha38
  rw [v1] at t0
  have hp := (tk_b (tl := tl) (q1 ▸ (tk_b (tl := tl) hp).2.2.2.1 : p1 ≤ ts)).2.2.2.1
  rw [q2] at hp
  have P := (⟨eQ_tok P.1 f_ha38 (fun k a b c d _ => g_ha38 k a b c d), P_ha38⟩ : eP hi0 ha38 X T n R tl ts p2 st)
  obtain ⟨⟨S, O, H, HR, FQ, K30⟩, HP⟩ := id P
  show lm_wp _ 165 8 [.ref 123, .ref 19, .int 0, .int 1] [.int 1] (ha38, hl, X) _
  refine w_if_eq_f (t := 50) rfl rfl (by decide) ?_
  refine w_N 4 15 [.ref 123, .ref 19, .int 0, .int 1] [.int 0, .int 0, .int 1, .ref 123] rfl ?_
  refine w_if_eq_t (t := 23) rfl rfl (by decide) ?_
  refine w_N 1 24 [.ref 123, .ref 19, .int 0, .int 1] [.int 3, .int 0, .int 1, .ref 123] rfl ?_
  refine w_ca (w_vst rfl rfl rfl (Nat.le_of_ble_eq_true rfl) (Nat.le_of_ble_eq_true rfl) (M_kd S)) (m_numT (d := d + 17) (i := 1) S O.2 hts hp HP rfl (by decide) n2) ?_
  rintro _ _ ⟨hb39, rfl, rfl, P_hb39, t1, u_hb39, f_hb39, g_hb39⟩
  have t0 := (u_hb39 0 (by decide)).trans t0
  rw [v2] at t1
  rw [q3] at P_hb39
  have hp := (tk_b (tl := tl) hp).2.2.2.1
  rw [q3] at hp
  have P := (⟨eQ_tok P.1 f_hb39 (fun k a b c d _ => g_hb39 k a b c d), P_hb39⟩ : eP hi0 hb39 X T n R tl ts p3 st)
  obtain ⟨⟨S, O, H, HR, FQ, K30⟩, HP⟩ := id P
  show lm_wp _ 165 27 [.ref 123, .ref 19, .int 0, .int 1] [.int 1] (hb39, hl, X) _
  refine w_if_eq_f (t := 50) rfl rfl (by decide) ?_
  refine w_N 4 34 [.ref 123, .ref 19, .int 0, .int 1] [.int 0, .int 0, .int 2, .ref 123] rfl ?_
  refine w_if_eq_t (t := 42) rfl rfl (by decide) ?_
  refine w_N 1 44 [.ref 123, .ref 19, .int 0, .int 1] [.int 9, .int 0, .int 2, .ref 123] rfl ?_
  refine w_cc (w_vst rfl rfl rfl (Nat.le_of_ble_eq_true rfl) (Nat.le_of_ble_eq_true rfl) (M_kd S)) (m_numF (d := d + 17) S O.2 hts hp HP nF) ?_
  show lm_wp _ 165 47 [.ref 123, .ref 19, .int 0, .int 1] [.int 0] (lm_up hb39 123 28 (nI (tkF tl ts p3)), hl, X) _
  refine w_if_ne_f (t := 52) rfl rfl (by decide) ?_
  refine w_N 1 51 [.ref 123, .ref 19, .int 0, .int 1] [.int 0] rfl ?_
  refine w_rz rfl rfl (by decide) ?_
  exact ⟨rfl, _, rfl, rQ_u (by decide) (FQ), lm_up_eq⟩
theorem y_w7T {d : Nat} {hi : Nat → Nat → Int32} {hl : Nat → Nat → Int64} {X : lm_X} {hi0 : Nat → Nat → Int32} {T : lm_T} {n : Nat} {R : Nat → Int32} {tl : Nat → Int32} {ts p : Nat} {st : Int32} (P : eP hi0 hi X T n R tl ts p st) (hts : ts ≤ 250) (hp : p ≤ ts) {p1 p2 p3 p4 : Nat} (q1 : tkE tl ts p = p1) (q2 : tkE tl ts p1 = p2) (q3 : tkE tl ts p2 = p3) (q4 : tkE tl ts p3 = p4) (w7 : wdq tl ts p wL7 = true) {h : Nat} (hh : h ≤ 1) (n1 : nmO tl ts p1 0 1 = true) (v1 : fgI tl ts p1 = nI h) {w : Nat} (hw : w ≤ 3) (n2 : nmO tl ts p2 0 3 = true) (v2 : fgI tl ts p2 = nI w) {v : Nat} (hv : v ≤ 9) (n3 : nmO tl ts p3 0 9 = true) (v3 : fgI tl ts p3 = nI v) : lm_w (d + 20) 165 [.ref 123, .ref 19, .int 0, .int 1] (hi, hl, X) (eT hi0 hl X (lm_up T 7 (12 * h + (8 + w)) (1 * nI v)) n R tl ts p4 st) := by
  obtain ⟨⟨S, O, H, HR, FQ, K30⟩, HP⟩ := id P
  refine lm_w_in (Nat.le_of_ble_eq_true rfl) ?_
  show lm_wp (d + 20) 165 0 [.ref 123, .ref 19, .int 0, .int 1] [] (hi, hl, X) _
  refine w_N 5 5 [.ref 123, .ref 19, .int 0, .int 1] [.int 1, .int 0, .int 0, .ref 19, .ref 123] rfl ?_
  refine w_ca (w_vst rfl rfl rfl (Nat.le_of_ble_eq_true rfl) (Nat.le_of_ble_eq_true rfl) (M_kd S)) (m_tellsT7 (d := d + 15) (j := 0) S O.2 hts hp HP w7 rfl (by decide) (by rw [q1]; exact n1)) ?_
  rintro _ _ ⟨ha41, rfl, rfl, P_ha41, t0, u_ha41, f_ha41, g_ha41⟩
  rw [q1] at P_ha41 t0
  rw [q2] at P_ha41
  rw [v1] at t0
  have hp := (tk_b (tl := tl) (q1 ▸ (tk_b (tl := tl) hp).2.2.2.1 : p1 ≤ ts)).2.2.2.1
  rw [q2] at hp
  have P := (⟨eQ_tok P.1 f_ha41 (fun k a b c d _ => g_ha41 k a b c d), P_ha41⟩ : eP hi0 ha41 X T n R tl ts p2 st)
  obtain ⟨⟨S, O, H, HR, FQ, K30⟩, HP⟩ := id P
  show lm_wp _ 165 8 [.ref 123, .ref 19, .int 0, .int 1] [.int 1] (ha41, hl, X) _
  refine w_if_eq_f (t := 50) rfl rfl (by decide) ?_
  refine w_N 4 15 [.ref 123, .ref 19, .int 0, .int 1] [.int 0, .int 0, .int 1, .ref 123] rfl ?_
  refine w_if_eq_t (t := 23) rfl rfl (by decide) ?_
  refine w_N 1 24 [.ref 123, .ref 19, .int 0, .int 1] [.int 3, .int 0, .int 1, .ref 123] rfl ?_
  refine w_ca (w_vst rfl rfl rfl (Nat.le_of_ble_eq_true rfl) (Nat.le_of_ble_eq_true rfl) (M_kd S)) (m_numT (d := d + 17) (i := 1) S O.2 hts hp HP rfl (by decide) n2) ?_
  rintro _ _ ⟨hb42, rfl, rfl, P_hb42, t1, u_hb42, f_hb42, g_hb42⟩
  have t0 := (u_hb42 0 (by decide)).trans t0
  rw [v2] at t1
  rw [q3] at P_hb42
  have hp := (tk_b (tl := tl) hp).2.2.2.1
  rw [q3] at hp
  have P := (⟨eQ_tok P.1 f_hb42 (fun k a b c d _ => g_hb42 k a b c d), P_hb42⟩ : eP hi0 hb42 X T n R tl ts p3 st)
  obtain ⟨⟨S, O, H, HR, FQ, K30⟩, HP⟩ := id P
  show lm_wp _ 165 27 [.ref 123, .ref 19, .int 0, .int 1] [.int 1] (hb42, hl, X) _
  refine w_if_eq_f (t := 50) rfl rfl (by decide) ?_
  refine w_N 4 34 [.ref 123, .ref 19, .int 0, .int 1] [.int 0, .int 0, .int 2, .ref 123] rfl ?_
  refine w_if_eq_t (t := 42) rfl rfl (by decide) ?_
  refine w_N 1 44 [.ref 123, .ref 19, .int 0, .int 1] [.int 9, .int 0, .int 2, .ref 123] rfl ?_
  refine w_ca (w_vst rfl rfl rfl (Nat.le_of_ble_eq_true rfl) (Nat.le_of_ble_eq_true rfl) (M_kd S)) (m_numT (d := d + 17) (i := 2) S O.2 hts hp HP rfl (by decide) n3) ?_
  rintro _ _ ⟨hb43, rfl, rfl, P_hb43, t2, u_hb43, f_hb43, g_hb43⟩
  have t0 := (u_hb43 0 (by decide)).trans t0
  have t1 := (u_hb43 1 (by decide)).trans t1
  rw [v3] at t2
  rw [q4] at P_hb43
  have hp := (tk_b (tl := tl) hp).2.2.2.1
  rw [q4] at hp
  have P := (⟨eQ_tok P.1 f_hb43 (fun k a b c d _ => g_hb43 k a b c d), P_hb43⟩ : eP hi0 hb43 X T n R tl ts p4 st)
  obtain ⟨⟨S, O, H, HR, FQ, K30⟩, HP⟩ := id P
  show lm_wp _ 165 47 [.ref 123, .ref 19, .int 0, .int 1] [.int 1] (hb43, hl, X) _
  refine w_if_ne_t (t := 52) rfl rfl (by decide) ?_
  refine w_N 1 53 [.ref 123, .ref 19, .int 0, .int 1] [.ref 123] rfl ?_
  refine w_gr 153 rfl rfl rfl (M_kd S) (M_r S (k := 16) (o := 30) rfl) ?_
  refine w_N 1 57 [.ref 123, .ref 19, .int 0, .int 1] [.ref 123, .ref 153] rfl ?_
  refine w_gr 158 rfl rfl rfl (M_kd S) (M_r S (k := 29) (o := 35) rfl) ?_
  refine w_N 1 61 [.ref 123, .ref 19, .int 0, .int 1] [.int 0, .ref 158, .ref 153] rfl ?_
  refine w_ia 0 (v := nI h) rfl (show X.2.1 (158) = 1 from M_k S 35 (by decide)) (show X.2.2.1 (158) = 4 from M_l S 35 (by decide)) rfl (by decide) (by decide) (t0) ?_
  refine w_aa h (123 + (31 + h)) rfl (M_kk S (o := 30) (by decide)) (show X.2.2.1 (153) = 2 from M_l S 30 (by decide)) rfl (by omega) (by decide) (M_wor S (by omega)) ?_
  refine w_N 1 64 [.ref 123, .ref 19, .int 0, .int 1] [.int 0, .ref (123 + (31 + h))] rfl ?_
  refine w_if_eq_t (t := 76) rfl rfl (by decide) ?_
  refine w_N 2 79 [.ref 123, .ref 19, .int 0, .int 1] [.ref 123, .int 8, .ref (123 + (31 + h))] rfl ?_
  refine w_gr 158 rfl rfl rfl (M_kd S) (M_r S (k := 29) (o := 35) rfl) ?_
  refine w_N 1 83 [.ref 123, .ref 19, .int 0, .int 1] [.int 1, .ref 158, .int 8, .ref (123 + (31 + h))] rfl ?_
  refine w_ia 1 (v := nI w) rfl (show X.2.1 (158) = 1 from M_k S 35 (by decide)) (show X.2.2.1 (158) = 4 from M_l S 35 (by decide)) rfl (by decide) (by decide) (t1) ?_
  refine w_N 3 87 [.ref 123, .ref 19, .int 0, .int 1] [.ref 123, .int 1, .int (8 + (nI w)), .ref (123 + (31 + h))] rfl ?_
  refine w_gr 158 rfl rfl rfl (M_kd S) (M_r S (k := 29) (o := 35) rfl) ?_
  refine w_N 1 91 [.ref 123, .ref 19, .int 0, .int 1] [.int 2, .ref 158, .int 1, .int (8 + (nI w)), .ref (123 + (31 + h))] rfl ?_
  refine w_ia 2 (v := nI v) rfl (show X.2.1 (158) = 1 from M_k S 35 (by decide)) (show X.2.2.1 (158) = 4 from M_l S 35 (by decide)) rfl (by decide) (by decide) (t2) ?_
  refine w_N 1 93 [.ref 123, .ref 19, .int 0, .int 1] [.int (1 * (nI v)), .int (8 + (nI w)), .ref (123 + (31 + h))] rfl ?_
  refine w_is (8 + w) rfl (M_wok S (by omega)) (Nat.le_trans (M_64 S) (Nat.le_add_right _ _)) (M_wol S (by omega)) (nI_add' 8 w) (by omega) (by decide) ?_
  refine w_N 1 95 [.ref 123, .ref 19, .int 0, .int 1] [.int 1] rfl ?_
  refine w_rz rfl rfl (by decide) ?_
  have hn := rTle H
  refine ⟨rfl, _, rfl, eP_town P (fun a2 ha2 => lm_up_rw (by omega)) ⟨lm_up_na (by omega), lm_up_na (by omega), lm_up_na (by omega), lm_up_na (by omega), lm_up_na (by omega), lm_up_na (by omega)⟩ ⟨fun k hk a ha => ?_, fun h2 hh2 w2 hw2 => ?_, (lm_up_na (by omega)).trans H.2.2.1, hn⟩ ⟨⟨(lm_up_na (by omega)).trans HR.1.1, fun c hc => (lm_up_na (by omega)).trans (HR.1.2 c hc)⟩, (lm_up_na (by omega)).trans HR.2.1, (lm_up_na (by omega)).trans HR.2.2.1, (lm_up_na (by omega)).trans HR.2.2.2.1, (lm_up_na (by omega)).trans HR.2.2.2.2.1, (lm_up_na (by omega)).trans HR.2.2.2.2.2⟩⟩
  · rw [lm_up_na (by omega), lm_up_na (by omega)]; exact H.1 k hk a ha
  · by_cases e : h2 = h
    · subst e
      by_cases e2 : w2 = (8 + w)
      · subst e2; rw [lm_up_eq, lm_up_eq]
      · rw [lm_up_nk e2, lm_up_nk (by omega)]; exact H.2.1 h2 hh2 w2 hw2
    · rw [lm_up_na (by omega), lm_up_nk (by omega)]; exact H.2.1 h2 hh2 w2 hw2
theorem y_w8F1 {d : Nat} {hi : Nat → Nat → Int32} {hl : Nat → Nat → Int64} {X : lm_X} {hi0 : Nat → Nat → Int32} {T : lm_T} {n : Nat} {R : Nat → Int32} {tl : Nat → Int32} {ts p : Nat} {st : Int32} (P : eP hi0 hi X T n R tl ts p st) (hts : ts ≤ 250) (hp : p ≤ ts) {p1 : Nat} (q1 : tkE tl ts p = p1) (w8 : wdq tl ts p wL8 = true) (nF : nmO tl ts p1 0 1 = false) : lm_w (d + 20) 165 [.ref 123, .ref 20, .int 0, .int (-1)] (hi, hl, X) (eF hi0 hl X (tkF tl ts p1)) := by
  obtain ⟨⟨S, O, H, HR, FQ, K30⟩, HP⟩ := id P
  refine lm_w_in (Nat.le_of_ble_eq_true rfl) ?_
  show lm_wp (d + 20) 165 0 [.ref 123, .ref 20, .int 0, .int (-1)] [] (hi, hl, X) _
  refine w_N 5 5 [.ref 123, .ref 20, .int 0, .int (-1)] [.int 1, .int 0, .int 0, .ref 20, .ref 123] rfl ?_
  refine w_ca (w_vst rfl rfl rfl (Nat.le_of_ble_eq_true rfl) (Nat.le_of_ble_eq_true rfl) (M_kd S)) (m_tellsF8 (d := d + 15) S O.2 hts hp HP w8 (by rw [q1]; exact nF)) ?_
  rintro _ _ ⟨ha44, rfl, rfl, k28, f_ha44, g_ha44⟩
  have P := eQ_tok P.1 (fun a a1 a2 => f_ha44 a a1) g_ha44
  rw [q1] at k28
  obtain ⟨S, O, H, HR, FQ, K30⟩ := id P
  show lm_wp _ 165 8 [.ref 123, .ref 20, .int 0, .int (-1)] [.int 0] (ha44, hl, X) _
  refine w_if_eq_t (t := 50) rfl rfl (by decide) ?_
  refine w_N 1 51 [.ref 123, .ref 20, .int 0, .int (-1)] [.int 0] rfl ?_
  refine w_rz rfl rfl (by decide) ?_
  exact ⟨rfl, _, rfl, FQ, k28⟩
theorem y_w8F2 {d : Nat} {hi : Nat → Nat → Int32} {hl : Nat → Nat → Int64} {X : lm_X} {hi0 : Nat → Nat → Int32} {T : lm_T} {n : Nat} {R : Nat → Int32} {tl : Nat → Int32} {ts p : Nat} {st : Int32} (P : eP hi0 hi X T n R tl ts p st) (hts : ts ≤ 250) (hp : p ≤ ts) {p1 p2 : Nat} (q1 : tkE tl ts p = p1) (q2 : tkE tl ts p1 = p2) (w8 : wdq tl ts p wL8 = true) {h : Nat} (hh : h ≤ 1) (n1 : nmO tl ts p1 0 1 = true) (v1 : fgI tl ts p1 = nI h) (nF : nmO tl ts p2 0 3 = false) : lm_w (d + 20) 165 [.ref 123, .ref 20, .int 0, .int (-1)] (hi, hl, X) (eF hi0 hl X (tkF tl ts p2)) := by
  obtain ⟨⟨S, O, H, HR, FQ, K30⟩, HP⟩ := id P
  refine lm_w_in (Nat.le_of_ble_eq_true rfl) ?_
  show lm_wp (d + 20) 165 0 [.ref 123, .ref 20, .int 0, .int (-1)] [] (hi, hl, X) _
  refine w_N 5 5 [.ref 123, .ref 20, .int 0, .int (-1)] [.int 1, .int 0, .int 0, .ref 20, .ref 123] rfl ?_
  refine w_ca (w_vst rfl rfl rfl (Nat.le_of_ble_eq_true rfl) (Nat.le_of_ble_eq_true rfl) (M_kd S)) (m_tellsT8 (d := d + 15) (j := 0) S O.2 hts hp HP w8 rfl (by decide) (by rw [q1]; exact n1)) ?_
  rintro _ _ ⟨ha45, rfl, rfl, P_ha45, t0, u_ha45, f_ha45, g_ha45⟩
  rw [q1] at P_ha45 t0
  rw [q2] at P_ha45
  rw [v1] at t0
  have hp := (tk_b (tl := tl) (q1 ▸ (tk_b (tl := tl) hp).2.2.2.1 : p1 ≤ ts)).2.2.2.1
  rw [q2] at hp
  have P := (⟨eQ_tok P.1 f_ha45 (fun k a b c d _ => g_ha45 k a b c d), P_ha45⟩ : eP hi0 ha45 X T n R tl ts p2 st)
  obtain ⟨⟨S, O, H, HR, FQ, K30⟩, HP⟩ := id P
  show lm_wp _ 165 8 [.ref 123, .ref 20, .int 0, .int (-1)] [.int 1] (ha45, hl, X) _
  refine w_if_eq_f (t := 50) rfl rfl (by decide) ?_
  refine w_N 4 15 [.ref 123, .ref 20, .int 0, .int (-1)] [.int 0, .int 0, .int 1, .ref 123] rfl ?_
  refine w_if_eq_t (t := 23) rfl rfl (by decide) ?_
  refine w_N 1 24 [.ref 123, .ref 20, .int 0, .int (-1)] [.int 3, .int 0, .int 1, .ref 123] rfl ?_
  refine w_cc (w_vst rfl rfl rfl (Nat.le_of_ble_eq_true rfl) (Nat.le_of_ble_eq_true rfl) (M_kd S)) (m_numF (d := d + 17) S O.2 hts hp HP nF) ?_
  show lm_wp _ 165 27 [.ref 123, .ref 20, .int 0, .int (-1)] [.int 0] (lm_up ha45 123 28 (nI (tkF tl ts p2)), hl, X) _
  refine w_if_eq_t (t := 50) rfl rfl (by decide) ?_
  refine w_N 1 51 [.ref 123, .ref 20, .int 0, .int (-1)] [.int 0] rfl ?_
  refine w_rz rfl rfl (by decide) ?_
  exact ⟨rfl, _, rfl, rQ_u (by decide) (FQ), lm_up_eq⟩
theorem y_w8F3 {d : Nat} {hi : Nat → Nat → Int32} {hl : Nat → Nat → Int64} {X : lm_X} {hi0 : Nat → Nat → Int32} {T : lm_T} {n : Nat} {R : Nat → Int32} {tl : Nat → Int32} {ts p : Nat} {st : Int32} (P : eP hi0 hi X T n R tl ts p st) (hts : ts ≤ 250) (hp : p ≤ ts) {p1 p2 p3 : Nat} (q1 : tkE tl ts p = p1) (q2 : tkE tl ts p1 = p2) (q3 : tkE tl ts p2 = p3) (w8 : wdq tl ts p wL8 = true) {h : Nat} (hh : h ≤ 1) (n1 : nmO tl ts p1 0 1 = true) (v1 : fgI tl ts p1 = nI h) {w : Nat} (hw : w ≤ 3) (n2 : nmO tl ts p2 0 3 = true) (v2 : fgI tl ts p2 = nI w) (nF : nmO tl ts p3 0 9 = false) : lm_w (d + 20) 165 [.ref 123, .ref 20, .int 0, .int (-1)] (hi, hl, X) (eF hi0 hl X (tkF tl ts p3)) := by
  obtain ⟨⟨S, O, H, HR, FQ, K30⟩, HP⟩ := id P
  refine lm_w_in (Nat.le_of_ble_eq_true rfl) ?_
  show lm_wp (d + 20) 165 0 [.ref 123, .ref 20, .int 0, .int (-1)] [] (hi, hl, X) _
  refine w_N 5 5 [.ref 123, .ref 20, .int 0, .int (-1)] [.int 1, .int 0, .int 0, .ref 20, .ref 123] rfl ?_
  refine w_ca (w_vst rfl rfl rfl (Nat.le_of_ble_eq_true rfl) (Nat.le_of_ble_eq_true rfl) (M_kd S)) (m_tellsT8 (d := d + 15) (j := 0) S O.2 hts hp HP w8 rfl (by decide) (by rw [q1]; exact n1)) ?_
  rintro _ _ ⟨ha47, rfl, rfl, P_ha47, t0, u_ha47, f_ha47, g_ha47⟩
  rw [q1] at P_ha47 t0
  rw [q2] at P_ha47
  rw [v1] at t0
  have hp := (tk_b (tl := tl) (q1 ▸ (tk_b (tl := tl) hp).2.2.2.1 : p1 ≤ ts)).2.2.2.1
  rw [q2] at hp
  have P := (⟨eQ_tok P.1 f_ha47 (fun k a b c d _ => g_ha47 k a b c d), P_ha47⟩ : eP hi0 ha47 X T n R tl ts p2 st)
  obtain ⟨⟨S, O, H, HR, FQ, K30⟩, HP⟩ := id P
  show lm_wp _ 165 8 [.ref 123, .ref 20, .int 0, .int (-1)] [.int 1] (ha47, hl, X) _
  refine w_if_eq_f (t := 50) rfl rfl (by decide) ?_
  refine w_N 4 15 [.ref 123, .ref 20, .int 0, .int (-1)] [.int 0, .int 0, .int 1, .ref 123] rfl ?_
  refine w_if_eq_t (t := 23) rfl rfl (by decide) ?_
  refine w_N 1 24 [.ref 123, .ref 20, .int 0, .int (-1)] [.int 3, .int 0, .int 1, .ref 123] rfl ?_
  refine w_ca (w_vst rfl rfl rfl (Nat.le_of_ble_eq_true rfl) (Nat.le_of_ble_eq_true rfl) (M_kd S)) (m_numT (d := d + 17) (i := 1) S O.2 hts hp HP rfl (by decide) n2) ?_
  rintro _ _ ⟨hb48, rfl, rfl, P_hb48, t1, u_hb48, f_hb48, g_hb48⟩
  have t0 := (u_hb48 0 (by decide)).trans t0
  rw [v2] at t1
  rw [q3] at P_hb48
  have hp := (tk_b (tl := tl) hp).2.2.2.1
  rw [q3] at hp
  have P := (⟨eQ_tok P.1 f_hb48 (fun k a b c d _ => g_hb48 k a b c d), P_hb48⟩ : eP hi0 hb48 X T n R tl ts p3 st)
  obtain ⟨⟨S, O, H, HR, FQ, K30⟩, HP⟩ := id P
  show lm_wp _ 165 27 [.ref 123, .ref 20, .int 0, .int (-1)] [.int 1] (hb48, hl, X) _
  refine w_if_eq_f (t := 50) rfl rfl (by decide) ?_
  refine w_N 4 34 [.ref 123, .ref 20, .int 0, .int (-1)] [.int 0, .int 0, .int 2, .ref 123] rfl ?_
  refine w_if_eq_t (t := 42) rfl rfl (by decide) ?_
  refine w_N 1 44 [.ref 123, .ref 20, .int 0, .int (-1)] [.int 9, .int 0, .int 2, .ref 123] rfl ?_
  refine w_cc (w_vst rfl rfl rfl (Nat.le_of_ble_eq_true rfl) (Nat.le_of_ble_eq_true rfl) (M_kd S)) (m_numF (d := d + 17) S O.2 hts hp HP nF) ?_
  show lm_wp _ 165 47 [.ref 123, .ref 20, .int 0, .int (-1)] [.int 0] (lm_up hb48 123 28 (nI (tkF tl ts p3)), hl, X) _
  refine w_if_ne_f (t := 52) rfl rfl (by decide) ?_
  refine w_N 1 51 [.ref 123, .ref 20, .int 0, .int (-1)] [.int 0] rfl ?_
  refine w_rz rfl rfl (by decide) ?_
  exact ⟨rfl, _, rfl, rQ_u (by decide) (FQ), lm_up_eq⟩
theorem y_w8T {d : Nat} {hi : Nat → Nat → Int32} {hl : Nat → Nat → Int64} {X : lm_X} {hi0 : Nat → Nat → Int32} {T : lm_T} {n : Nat} {R : Nat → Int32} {tl : Nat → Int32} {ts p : Nat} {st : Int32} (P : eP hi0 hi X T n R tl ts p st) (hts : ts ≤ 250) (hp : p ≤ ts) {p1 p2 p3 p4 : Nat} (q1 : tkE tl ts p = p1) (q2 : tkE tl ts p1 = p2) (q3 : tkE tl ts p2 = p3) (q4 : tkE tl ts p3 = p4) (w8 : wdq tl ts p wL8 = true) {h : Nat} (hh : h ≤ 1) (n1 : nmO tl ts p1 0 1 = true) (v1 : fgI tl ts p1 = nI h) {w : Nat} (hw : w ≤ 3) (n2 : nmO tl ts p2 0 3 = true) (v2 : fgI tl ts p2 = nI w) {v : Nat} (hv : v ≤ 9) (n3 : nmO tl ts p3 0 9 = true) (v3 : fgI tl ts p3 = nI v) : lm_w (d + 20) 165 [.ref 123, .ref 20, .int 0, .int (-1)] (hi, hl, X) (eT hi0 hl X (lm_up T 7 (12 * h + (8 + w)) ((-1) * nI v)) n R tl ts p4 st) := by
  obtain ⟨⟨S, O, H, HR, FQ, K30⟩, HP⟩ := id P
  refine lm_w_in (Nat.le_of_ble_eq_true rfl) ?_
  show lm_wp (d + 20) 165 0 [.ref 123, .ref 20, .int 0, .int (-1)] [] (hi, hl, X) _
  refine w_N 5 5 [.ref 123, .ref 20, .int 0, .int (-1)] [.int 1, .int 0, .int 0, .ref 20, .ref 123] rfl ?_
  refine w_ca (w_vst rfl rfl rfl (Nat.le_of_ble_eq_true rfl) (Nat.le_of_ble_eq_true rfl) (M_kd S)) (m_tellsT8 (d := d + 15) (j := 0) S O.2 hts hp HP w8 rfl (by decide) (by rw [q1]; exact n1)) ?_
  rintro _ _ ⟨ha50, rfl, rfl, P_ha50, t0, u_ha50, f_ha50, g_ha50⟩
  rw [q1] at P_ha50 t0
  rw [q2] at P_ha50
  rw [v1] at t0
  have hp := (tk_b (tl := tl) (q1 ▸ (tk_b (tl := tl) hp).2.2.2.1 : p1 ≤ ts)).2.2.2.1
  rw [q2] at hp
  have P := (⟨eQ_tok P.1 f_ha50 (fun k a b c d _ => g_ha50 k a b c d), P_ha50⟩ : eP hi0 ha50 X T n R tl ts p2 st)
  obtain ⟨⟨S, O, H, HR, FQ, K30⟩, HP⟩ := id P
  show lm_wp _ 165 8 [.ref 123, .ref 20, .int 0, .int (-1)] [.int 1] (ha50, hl, X) _
  refine w_if_eq_f (t := 50) rfl rfl (by decide) ?_
  refine w_N 4 15 [.ref 123, .ref 20, .int 0, .int (-1)] [.int 0, .int 0, .int 1, .ref 123] rfl ?_
  refine w_if_eq_t (t := 23) rfl rfl (by decide) ?_
  refine w_N 1 24 [.ref 123, .ref 20, .int 0, .int (-1)] [.int 3, .int 0, .int 1, .ref 123] rfl ?_
  refine w_ca (w_vst rfl rfl rfl (Nat.le_of_ble_eq_true rfl) (Nat.le_of_ble_eq_true rfl) (M_kd S)) (m_numT (d := d + 17) (i := 1) S O.2 hts hp HP rfl (by decide) n2) ?_
  rintro _ _ ⟨hb51, rfl, rfl, P_hb51, t1, u_hb51, f_hb51, g_hb51⟩
  have t0 := (u_hb51 0 (by decide)).trans t0
  rw [v2] at t1
  rw [q3] at P_hb51
  have hp := (tk_b (tl := tl) hp).2.2.2.1
  rw [q3] at hp
  have P := (⟨eQ_tok P.1 f_hb51 (fun k a b c d _ => g_hb51 k a b c d), P_hb51⟩ : eP hi0 hb51 X T n R tl ts p3 st)
  obtain ⟨⟨S, O, H, HR, FQ, K30⟩, HP⟩ := id P
  show lm_wp _ 165 27 [.ref 123, .ref 20, .int 0, .int (-1)] [.int 1] (hb51, hl, X) _
  refine w_if_eq_f (t := 50) rfl rfl (by decide) ?_
  refine w_N 4 34 [.ref 123, .ref 20, .int 0, .int (-1)] [.int 0, .int 0, .int 2, .ref 123] rfl ?_
  refine w_if_eq_t (t := 42) rfl rfl (by decide) ?_
  refine w_N 1 44 [.ref 123, .ref 20, .int 0, .int (-1)] [.int 9, .int 0, .int 2, .ref 123] rfl ?_
  refine w_ca (w_vst rfl rfl rfl (Nat.le_of_ble_eq_true rfl) (Nat.le_of_ble_eq_true rfl) (M_kd S)) (m_numT (d := d + 17) (i := 2) S O.2 hts hp HP rfl (by decide) n3) ?_
  rintro _ _ ⟨hb52, rfl, rfl, P_hb52, t2, u_hb52, f_hb52, g_hb52⟩
  have t0 := (u_hb52 0 (by decide)).trans t0
  have t1 := (u_hb52 1 (by decide)).trans t1
  rw [v3] at t2
  rw [q4] at P_hb52
  have hp := (tk_b (tl := tl) hp).2.2.2.1
  rw [q4] at hp
  have P := (⟨eQ_tok P.1 f_hb52 (fun k a b c d _ => g_hb52 k a b c d), P_hb52⟩ : eP hi0 hb52 X T n R tl ts p4 st)
  obtain ⟨⟨S, O, H, HR, FQ, K30⟩, HP⟩ := id P
  show lm_wp _ 165 47 [.ref 123, .ref 20, .int 0, .int (-1)] [.int 1] (hb52, hl, X) _
  refine w_if_ne_t (t := 52) rfl rfl (by decide) ?_
  refine w_N 1 53 [.ref 123, .ref 20, .int 0, .int (-1)] [.ref 123] rfl ?_
  refine w_gr 153 rfl rfl rfl (M_kd S) (M_r S (k := 16) (o := 30) rfl) ?_
  refine w_N 1 57 [.ref 123, .ref 20, .int 0, .int (-1)] [.ref 123, .ref 153] rfl ?_
  refine w_gr 158 rfl rfl rfl (M_kd S) (M_r S (k := 29) (o := 35) rfl) ?_
  refine w_N 1 61 [.ref 123, .ref 20, .int 0, .int (-1)] [.int 0, .ref 158, .ref 153] rfl ?_
  refine w_ia 0 (v := nI h) rfl (show X.2.1 (158) = 1 from M_k S 35 (by decide)) (show X.2.2.1 (158) = 4 from M_l S 35 (by decide)) rfl (by decide) (by decide) (t0) ?_
  refine w_aa h (123 + (31 + h)) rfl (M_kk S (o := 30) (by decide)) (show X.2.2.1 (153) = 2 from M_l S 30 (by decide)) rfl (by omega) (by decide) (M_wor S (by omega)) ?_
  refine w_N 1 64 [.ref 123, .ref 20, .int 0, .int (-1)] [.int 0, .ref (123 + (31 + h))] rfl ?_
  refine w_if_eq_t (t := 76) rfl rfl (by decide) ?_
  refine w_N 2 79 [.ref 123, .ref 20, .int 0, .int (-1)] [.ref 123, .int 8, .ref (123 + (31 + h))] rfl ?_
  refine w_gr 158 rfl rfl rfl (M_kd S) (M_r S (k := 29) (o := 35) rfl) ?_
  refine w_N 1 83 [.ref 123, .ref 20, .int 0, .int (-1)] [.int 1, .ref 158, .int 8, .ref (123 + (31 + h))] rfl ?_
  refine w_ia 1 (v := nI w) rfl (show X.2.1 (158) = 1 from M_k S 35 (by decide)) (show X.2.2.1 (158) = 4 from M_l S 35 (by decide)) rfl (by decide) (by decide) (t1) ?_
  refine w_N 3 87 [.ref 123, .ref 20, .int 0, .int (-1)] [.ref 123, .int (-1), .int (8 + (nI w)), .ref (123 + (31 + h))] rfl ?_
  refine w_gr 158 rfl rfl rfl (M_kd S) (M_r S (k := 29) (o := 35) rfl) ?_
  refine w_N 1 91 [.ref 123, .ref 20, .int 0, .int (-1)] [.int 2, .ref 158, .int (-1), .int (8 + (nI w)), .ref (123 + (31 + h))] rfl ?_
  refine w_ia 2 (v := nI v) rfl (show X.2.1 (158) = 1 from M_k S 35 (by decide)) (show X.2.2.1 (158) = 4 from M_l S 35 (by decide)) rfl (by decide) (by decide) (t2) ?_
  refine w_N 1 93 [.ref 123, .ref 20, .int 0, .int (-1)] [.int ((-1) * (nI v)), .int (8 + (nI w)), .ref (123 + (31 + h))] rfl ?_
  refine w_is (8 + w) rfl (M_wok S (by omega)) (Nat.le_trans (M_64 S) (Nat.le_add_right _ _)) (M_wol S (by omega)) (nI_add' 8 w) (by omega) (by decide) ?_
  refine w_N 1 95 [.ref 123, .ref 20, .int 0, .int (-1)] [.int 1] rfl ?_
  refine w_rz rfl rfl (by decide) ?_
  have hn := rTle H
  refine ⟨rfl, _, rfl, eP_town P (fun a2 ha2 => lm_up_rw (by omega)) ⟨lm_up_na (by omega), lm_up_na (by omega), lm_up_na (by omega), lm_up_na (by omega), lm_up_na (by omega), lm_up_na (by omega)⟩ ⟨fun k hk a ha => ?_, fun h2 hh2 w2 hw2 => ?_, (lm_up_na (by omega)).trans H.2.2.1, hn⟩ ⟨⟨(lm_up_na (by omega)).trans HR.1.1, fun c hc => (lm_up_na (by omega)).trans (HR.1.2 c hc)⟩, (lm_up_na (by omega)).trans HR.2.1, (lm_up_na (by omega)).trans HR.2.2.1, (lm_up_na (by omega)).trans HR.2.2.2.1, (lm_up_na (by omega)).trans HR.2.2.2.2.1, (lm_up_na (by omega)).trans HR.2.2.2.2.2⟩⟩
  · rw [lm_up_na (by omega), lm_up_na (by omega)]; exact H.1 k hk a ha
  · by_cases e : h2 = h
    · subst e
      by_cases e2 : w2 = (8 + w)
      · subst e2; rw [lm_up_eq, lm_up_eq]
      · rw [lm_up_nk e2, lm_up_nk (by omega)]; exact H.2.1 h2 hh2 w2 hw2
    · rw [lm_up_na (by omega), lm_up_nk (by omega)]; exact H.2.1 h2 hh2 w2 hw2
