set_option maxRecDepth 16384
/-! act, read by the reference; which statement it is; both together -/
theorem m_act0 {d : Nat} {hi : Nat → Nat → Int32} {hl : Nat → Nat → Int64} {X : lm_X} {hi0 : Nat → Nat → Int32} {T : lm_T} {n : Nat} {R : Nat → Int32} {tl : Nat → Int32} {ts p : Nat} {st : Int32} (P : eP hi0 hi X T n R tl ts p st) (hts : ts ≤ 250) (hp : p ≤ ts)   {a0 : Nat} (g0 : a0 ≤ 5)  {a1 : Nat} (g1 : a1 ≤ 7)  {a2 : Nat} (g2 : a2 ≤ 3)  {a3 : Nat} (g3 : 1 ≤ a3) (g3b : a3 ≤ 9) (hn : n < 10) : lm_w (d + 10) 149 [.ref 123, .int (nI a0), .int (nI a1), .int (nI a2), .int (nI a3), .int 0, .int 0] (hi, hl, X) (fun v h1 => ∃ hi', v = some (.int (nI n)) ∧ h1 = (hi', hl, X) ∧ eP hi0 hi' X (adT T n (nI a0) (nI a1) (nI a2) (nI a3) 0 0) (n + 1) R tl ts p st ∧ hi' 158 = hi 158) := by
  obtain ⟨⟨S, O, H, HR, FQ, K30⟩, HP⟩ := id P
  refine lm_w_in (Nat.le_of_ble_eq_true rfl) ?_
  show lm_wp (d + 10) 149 0 [.ref 123, .int (nI a0), .int (nI a1), .int (nI a2), .int (nI a3), .int 0, .int 0, lm_jk, lm_jk] [] (hi, hl, X) _
  refine w_N 4 6 [.ref 123, .int (nI a0), .int (nI a1), .int (nI a2), .int (nI a3), .int 0, .int 0, lm_jk, lm_jk] [.long 5, .long 0, .long ((nI a0).toInt64)] rfl ?_
  refine w_cc rfl (lm_c_1 (m_in (x := nI a0) (lo := 0) (up := 5) rfl (by decide) (by decide)) (wi_t (n := 5) g0 (by decide))) ?_
  show lm_wp _ 149 9 [.ref 123, .int (nI a0), .int (nI a1), .int (nI a2), .int (nI a3), .int 0, .int 0, lm_jk, lm_jk] [.int 1] (hi, hl, X) _
  refine w_if_eq_f (t := 53) rfl rfl (by decide) ?_
  refine w_N 4 18 [.ref 123, .int (nI a0), .int (nI a1), .int (nI a2), .int (nI a3), .int 0, .int 0, lm_jk, lm_jk] [.long 7, .long 0, .long ((nI a1).toInt64)] rfl ?_
  refine w_cc rfl (lm_c_1 (m_in (x := nI a1) (lo := 0) (up := 7) rfl (by decide) (by decide)) (wi_t (n := 7) g1 (by decide))) ?_
  show lm_wp _ 149 21 [.ref 123, .int (nI a0), .int (nI a1), .int (nI a2), .int (nI a3), .int 0, .int 0, lm_jk, lm_jk] [.int 1] (hi, hl, X) _
  refine w_if_eq_f (t := 53) rfl rfl (by decide) ?_
  refine w_N 4 30 [.ref 123, .int (nI a0), .int (nI a1), .int (nI a2), .int (nI a3), .int 0, .int 0, lm_jk, lm_jk] [.long 3, .long 0, .long ((nI a2).toInt64)] rfl ?_
  refine w_cc rfl (lm_c_1 (m_in (x := nI a2) (lo := 0) (up := 3) rfl (by decide) (by decide)) (wi_t (n := 3) g2 (by decide))) ?_
  show lm_wp _ 149 33 [.ref 123, .int (nI a0), .int (nI a1), .int (nI a2), .int (nI a3), .int 0, .int 0, lm_jk, lm_jk] [.int 1] (hi, hl, X) _
  refine w_if_eq_f (t := 53) rfl rfl (by decide) ?_
  refine w_N 4 43 [.ref 123, .int (nI a0), .int (nI a1), .int (nI a2), .int (nI a3), .int 0, .int 0, lm_jk, lm_jk] [.long 9, .long 1, .long ((nI a3).toInt64)] rfl ?_
  refine w_cc rfl (lm_c_1 (m_in (x := nI a3) (lo := 1) (up := 9) rfl (by decide) (by decide)) (wi_t1 (n := 9) g3 g3b (by decide))) ?_
  show lm_wp _ 149 46 [.ref 123, .int (nI a0), .int (nI a1), .int (nI a2), .int (nI a3), .int 0, .int 0, lm_jk, lm_jk] [.int 1] (hi, hl, X) _
  refine w_if_eq_f (t := 53) rfl rfl (by decide) ?_
  refine w_N 4 58 [.ref 123, .int (nI a0), .int (nI a1), .int (nI a2), .int (nI a3), .int 0, .int 0, .int 1, lm_jk] [.int 1] rfl ?_
  refine w_if_eq_f (t := 87) rfl rfl (by decide) ?_
  refine w_N 4 68 [.ref 123, .int (nI a0), .int (nI a1), .int (nI a2), .int (nI a3), .int 0, .int 0, .int 1, lm_jk] [.long 255, .long 0, .long 0] rfl ?_
  refine w_cc rfl (lm_c_1 (m_in (x := 0) (lo := 0) (up := 255) (by decide) (by decide) (by decide)) (by decide)) ?_
  show lm_wp _ 149 71 [.ref 123, .int (nI a0), .int (nI a1), .int (nI a2), .int (nI a3), .int 0, .int 0, .int 1, lm_jk] [.int 1] (hi, hl, X) _
  refine w_if_eq_f (t := 87) rfl rfl (by decide) ?_
  refine w_N 4 81 [.ref 123, .int (nI a0), .int (nI a1), .int (nI a2), .int (nI a3), .int 0, .int 0, .int 1, lm_jk] [.long 255, .long 0, .long 0] rfl ?_
  refine w_cc rfl (lm_c_1 (m_in (x := 0) (lo := 0) (up := 255) (by decide) (by decide) (by decide)) (by decide)) ?_
  show lm_wp _ 149 84 [.ref 123, .int (nI a0), .int (nI a1), .int (nI a2), .int (nI a3), .int 0, .int 0, .int 1, lm_jk] [.int 1] (hi, hl, X) _
  refine w_if_ne_t (t := 94) rfl rfl (by decide) ?_
  refine w_N 1 95 [.ref 123, .int (nI a0), .int (nI a1), .int (nI a2), .int (nI a3), .int 0, .int 0, .int 1, lm_jk] [.ref 123] rfl ?_
  refine w_gi (v := nI n) rfl rfl rfl (M_kd S) (rTn H) ?_
  refine w_N 1 100 [.ref 123, .int (nI a0), .int (nI a1), .int (nI a2), .int (nI a3), .int 0, .int 0, .int 1, lm_jk] [.int 10, .int (nI n)] rfl ?_
  refine w_icmp_ne_t (t := 110) rfl rfl (fun z => by have := (nI_inj (a := n) (b := 10) (by omega) (by decide)).mp z; omega) ?_
  refine w_N 1 111 [.ref 123, .int (nI a0), .int (nI a1), .int (nI a2), .int (nI a3), .int 0, .int 0, .int 1, lm_jk] [.ref 123] rfl ?_
  refine w_gr 141 rfl rfl rfl (M_kd S) (M_r S (k := 11) (o := 18) rfl) ?_
  refine w_N 1 115 [.ref 123, .int (nI a0), .int (nI a1), .int (nI a2), .int (nI a3), .int 0, .int 0, .int 1, lm_jk] [.ref 123, .ref 141] rfl ?_
  refine w_gi (v := nI n) rfl rfl rfl (M_kd S) (rTn H) ?_
  refine w_aa n (123 + (19 + n)) rfl (M_kk S (o := 18) (by decide)) (show X.2.2.1 (141) = 10 from M_l S 18 (by decide)) rfl hn (by decide) (M_acr S hn) ?_
  refine w_N 4 125 [.ref 123, .int (nI a0), .int (nI a1), .int (nI a2), .int (nI a3), .int 0, .int 0, .int 1, .ref (123 + (19 + n))] [.int (nI a0), .int 0, .ref (123 + (19 + n))] rfl ?_
  refine w_is 0 rfl (M_ack S hn) (Nat.le_trans (M_64 S) (Nat.le_add_right _ _)) (M_acl S hn) rfl (by decide) (by decide) ?_
  refine w_N 3 130 [.ref 123, .int (nI a0), .int (nI a1), .int (nI a2), .int (nI a3), .int 0, .int 0, .int 1, .ref (123 + (19 + n))] [.int (nI a1), .int 1, .ref (123 + (19 + n))] rfl ?_
  refine w_is 1 rfl (M_ack S hn) (Nat.le_trans (M_64 S) (Nat.le_add_right _ _)) (M_acl S hn) rfl (by decide) (by decide) ?_
  refine w_N 3 135 [.ref 123, .int (nI a0), .int (nI a1), .int (nI a2), .int (nI a3), .int 0, .int 0, .int 1, .ref (123 + (19 + n))] [.int (nI a2), .int 2, .ref (123 + (19 + n))] rfl ?_
  refine w_is 2 rfl (M_ack S hn) (Nat.le_trans (M_64 S) (Nat.le_add_right _ _)) (M_acl S hn) rfl (by decide) (by decide) ?_
  refine w_N 3 141 [.ref 123, .int (nI a0), .int (nI a1), .int (nI a2), .int (nI a3), .int 0, .int 0, .int 1, .ref (123 + (19 + n))] [.int (nI a3), .int 3, .ref (123 + (19 + n))] rfl ?_
  refine w_is 3 rfl (M_ack S hn) (Nat.le_trans (M_64 S) (Nat.le_add_right _ _)) (M_acl S hn) rfl (by decide) (by decide) ?_
  refine w_N 3 147 [.ref 123, .int (nI a0), .int (nI a1), .int (nI a2), .int (nI a3), .int 0, .int 0, .int 1, .ref (123 + (19 + n))] [.int 0, .int 4, .ref (123 + (19 + n))] rfl ?_
  refine w_is 4 rfl (M_ack S hn) (Nat.le_trans (M_64 S) (Nat.le_add_right _ _)) (M_acl S hn) rfl (by decide) (by decide) ?_
  refine w_N 3 153 [.ref 123, .int (nI a0), .int (nI a1), .int (nI a2), .int (nI a3), .int 0, .int 0, .int 1, .ref (123 + (19 + n))] [.int 0, .int 5, .ref (123 + (19 + n))] rfl ?_
  refine w_is 5 rfl (M_ack S hn) (Nat.le_trans (M_64 S) (Nat.le_add_right _ _)) (M_acl S hn) rfl (by decide) (by decide) ?_
  refine w_N 3 159 [.ref 123, .int (nI a0), .int (nI a1), .int (nI a2), .int (nI a3), .int 0, .int 0, .int 1, .ref (123 + (19 + n))] [.int 0, .int 6, .ref (123 + (19 + n))] rfl ?_
  refine w_is 6 rfl (M_ack S hn) (Nat.le_trans (M_64 S) (Nat.le_add_right _ _)) (M_acl S hn) rfl (by decide) (by decide) ?_
  refine w_N 2 162 [.ref 123, .int (nI a0), .int (nI a1), .int (nI a2), .int (nI a3), .int 0, .int 0, .int 1, .ref (123 + (19 + n))] [.int 0, .ref 123] rfl ?_
  refine w_pb rfl rfl rfl rfl (M_kd S) (M_64 S) (by decide) ?_
  refine w_N 2 167 [.ref 123, .int (nI a0), .int (nI a1), .int (nI a2), .int (nI a3), .int 0, .int 0, .int 1, .ref (123 + (19 + n))] [.ref 123, .ref 123] rfl ?_
  refine w_gi (v := nI n) rfl rfl rfl (M_kd S) ((lm_up_nk (by decide)).trans ((lm_up_na (by omega)).trans ((lm_up_na (by omega)).trans ((lm_up_na (by omega)).trans ((lm_up_na (by omega)).trans ((lm_up_na (by omega)).trans ((lm_up_na (by omega)).trans ((lm_up_na (by omega)).trans (rTn H))))))))) ?_
  refine w_N 3 173 [.ref 123, .int (nI a0), .int (nI a1), .int (nI a2), .int (nI a3), .int 0, .int 0, .int 1, .ref (123 + (19 + n))] [.int ((nI n) + 1), .ref 123, .int (nI n)] rfl ?_
  refine w_pi rfl rfl rfl rfl (M_kd S) (M_64 S) ?_
  refine w_ri rfl rfl ?_
  refine ⟨_, rfl, rfl, eP_town P (fun a ha => ?_) ⟨(lm_up_nk (by decide)).trans ((lm_up_nk (by decide)).trans ((lm_up_na (by omega)).trans ((lm_up_na (by omega)).trans ((lm_up_na (by omega)).trans ((lm_up_na (by omega)).trans ((lm_up_na (by omega)).trans ((lm_up_na (by omega)).trans ((lm_up_na (by omega)).trans (rfl))))))))), (lm_up_nk (by decide)).trans ((lm_up_nk (by decide)).trans ((lm_up_na (by omega)).trans ((lm_up_na (by omega)).trans ((lm_up_na (by omega)).trans ((lm_up_na (by omega)).trans ((lm_up_na (by omega)).trans ((lm_up_na (by omega)).trans ((lm_up_na (by omega)).trans (rfl))))))))), (lm_up_nk (by decide)).trans ((lm_up_nk (by decide)).trans ((lm_up_na (by omega)).trans ((lm_up_na (by omega)).trans ((lm_up_na (by omega)).trans ((lm_up_na (by omega)).trans ((lm_up_na (by omega)).trans ((lm_up_na (by omega)).trans ((lm_up_na (by omega)).trans (rfl))))))))), (lm_up_nk (by decide)).trans ((lm_up_nk (by decide)).trans ((lm_up_na (by omega)).trans ((lm_up_na (by omega)).trans ((lm_up_na (by omega)).trans ((lm_up_na (by omega)).trans ((lm_up_na (by omega)).trans ((lm_up_na (by omega)).trans ((lm_up_na (by omega)).trans (rfl))))))))), (lm_up_nk (by decide)).trans ((lm_up_nk (by decide)).trans ((lm_up_na (by omega)).trans ((lm_up_na (by omega)).trans ((lm_up_na (by omega)).trans ((lm_up_na (by omega)).trans ((lm_up_na (by omega)).trans ((lm_up_na (by omega)).trans ((lm_up_na (by omega)).trans (rfl))))))))), (lm_up_nk (by decide)).trans ((lm_up_nk (by decide)).trans ((lm_up_na (by omega)).trans ((lm_up_na (by omega)).trans ((lm_up_na (by omega)).trans ((lm_up_na (by omega)).trans ((lm_up_na (by omega)).trans ((lm_up_na (by omega)).trans ((lm_up_na (by omega)).trans (rfl)))))))))⟩ (rT_add hn H (fun a h1 h2 => ?_) ?_ ⟨(lm_up_na (by omega)).trans ((lm_up_na (by omega)).trans ((lm_up_nk (by decide)).trans ((lm_up_nk (by decide)).trans ((lm_up_nk (by decide)).trans ((lm_up_nk (by decide)).trans ((lm_up_nk (by decide)).trans ((lm_up_nk (by decide)).trans (lm_up_eq)))))))), (lm_up_na (by omega)).trans ((lm_up_na (by omega)).trans ((lm_up_nk (by decide)).trans ((lm_up_nk (by decide)).trans ((lm_up_nk (by decide)).trans ((lm_up_nk (by decide)).trans ((lm_up_nk (by decide)).trans (lm_up_eq))))))), (lm_up_na (by omega)).trans ((lm_up_na (by omega)).trans ((lm_up_nk (by decide)).trans ((lm_up_nk (by decide)).trans ((lm_up_nk (by decide)).trans ((lm_up_nk (by decide)).trans (lm_up_eq)))))), (lm_up_na (by omega)).trans ((lm_up_na (by omega)).trans ((lm_up_nk (by decide)).trans ((lm_up_nk (by decide)).trans ((lm_up_nk (by decide)).trans (lm_up_eq))))), (lm_up_na (by omega)).trans ((lm_up_na (by omega)).trans ((lm_up_nk (by decide)).trans ((lm_up_nk (by decide)).trans (lm_up_eq)))), (lm_up_na (by omega)).trans ((lm_up_na (by omega)).trans ((lm_up_nk (by decide)).trans (lm_up_eq))), (lm_up_na (by omega)).trans ((lm_up_na (by omega)).trans (lm_up_eq))⟩) ⟨⟨(lm_up_nk (by decide)).trans ((lm_up_nk (by decide)).trans ((lm_up_na (by omega)).trans ((lm_up_na (by omega)).trans ((lm_up_na (by omega)).trans ((lm_up_na (by omega)).trans ((lm_up_na (by omega)).trans ((lm_up_na (by omega)).trans ((lm_up_na (by omega)).trans (HR.1.1))))))))), fun c hc => ?_⟩, (lm_up_nk (by decide)).trans ((lm_up_nk (by decide)).trans ((lm_up_na (by omega)).trans ((lm_up_na (by omega)).trans ((lm_up_na (by omega)).trans ((lm_up_na (by omega)).trans ((lm_up_na (by omega)).trans ((lm_up_na (by omega)).trans ((lm_up_na (by omega)).trans (HR.2.1))))))))), (lm_up_nk (by decide)).trans ((lm_up_nk (by decide)).trans ((lm_up_na (by omega)).trans ((lm_up_na (by omega)).trans ((lm_up_na (by omega)).trans ((lm_up_na (by omega)).trans ((lm_up_na (by omega)).trans ((lm_up_na (by omega)).trans ((lm_up_na (by omega)).trans (HR.2.2.1))))))))), (lm_up_nk (by decide)).trans ((lm_up_nk (by decide)).trans ((lm_up_na (by omega)).trans ((lm_up_na (by omega)).trans ((lm_up_na (by omega)).trans ((lm_up_na (by omega)).trans ((lm_up_na (by omega)).trans ((lm_up_na (by omega)).trans ((lm_up_na (by omega)).trans (HR.2.2.2.1))))))))), ?_, ?_⟩, ?_⟩
  · rw [lm_up_rw (by omega), lm_up_rw (by omega), lm_up_rw (by omega), lm_up_rw (by omega), lm_up_rw (by omega), lm_up_rw (by omega), lm_up_rw (by omega), lm_up_rw (by omega), lm_up_rw (by omega)]
  · rw [lm_up_rw h1, lm_up_rw h1, lm_up_rw h2, lm_up_rw h2, lm_up_rw h2, lm_up_rw h2, lm_up_rw h2, lm_up_rw h2, lm_up_rw h2]
  · exact (lm_up_eq).trans (nI_succ n).symm
  · rw [lm_up_na (by omega), lm_up_na (by omega), lm_up_na (by omega), lm_up_na (by omega), lm_up_na (by omega), lm_up_na (by omega), lm_up_na (by omega), lm_up_na (by omega), lm_up_na (by omega)]; exact HR.1.2 c hc
  · rw [lm_up_na (by omega), lm_up_na (by omega), lm_up_na (by omega), lm_up_na (by omega), lm_up_na (by omega), lm_up_na (by omega), lm_up_na (by omega), lm_up_na (by omega), lm_up_na (by omega)]; exact HR.2.2.2.2.1
  · rw [lm_up_na (by omega), lm_up_na (by omega), lm_up_na (by omega), lm_up_na (by omega), lm_up_na (by omega), lm_up_na (by omega), lm_up_na (by omega), lm_up_na (by omega), lm_up_na (by omega)]; exact HR.2.2.2.2.2
  · rw [lm_up_rw (by omega), lm_up_rw (by omega), lm_up_rw (by omega), lm_up_rw (by omega), lm_up_rw (by omega), lm_up_rw (by omega), lm_up_rw (by omega), lm_up_rw (by omega), lm_up_rw (by omega)]
theorem y_mb1 {d : Nat} {hl : Nat → Nat → Int64} {X : lm_X} {hi0 : Nat → Nat → Int32} {T : lm_T} {n : Nat} {R : Nat → Int32} {tl : Nat → Int32} {ts : Nat} {st x0 x1 x2 x3 x5 : Int32} (hts : ts ≤ 250) (hn : n < 10) {Po : Option Value → lm_H → Prop} : ∀ (r p : Nat) (hi : Nat → Nat → Int32) (sm : Int32), ts - p ≤ r → p ≤ ts → eP hi0 hi X (adT T n x0 x1 x2 x3 sm x5) (n + 1) R tl ts p st → ((mbS tl ts wL1 r p sm).1 = true → ∀ hi2, eP hi0 hi2 X (adT T n x0 x1 x2 x3 (mbS tl ts wL1 r p sm).2.1 x5) (n + 1) R tl ts (mbS tl ts wL1 r p sm).2.2 st → lm_wp (d + 20) 164 123 [.ref 123, .int (nI n)] [] (hi2, hl, X) Po) → ((mbS tl ts wL1 r p sm).1 = false → ∀ hi2, rQ hi0 hi2 123 → hi2 123 28 = nI (tkF tl ts (mbS tl ts wL1 r p sm).2.2) → Po (some (.int 0)) (hi2, hl, X)) → lm_wp (d + 20) 164 77 [.ref 123, .int (nI n)] [] (hi, hl, X) Po := by
  intro r
  induction r with
  | zero =>
    intro p hi sm hr hp P kO kF
    obtain ⟨⟨S, O, H, HR, FQ, K30⟩, HP⟩ := id P
    have hw : wdq tl ts p wL1 = false := by
      cases h : wdq tl ts p wL1 with
      | false => rfl
      | true => have q1 := wd_F h; have q2 := tk_b (tl := tl) hp; omega
    refine w_N 2 80 [.ref 123, .int (nI n)] [.ref 13, .ref 123] rfl ?_
    refine w_cc (w_vst rfl rfl rfl (Nat.le_of_ble_eq_true rfl) (Nat.le_of_ble_eq_true rfl) (M_kd S)) (lm_c_v (m_isWord1 (d := d + 17) S O.2 hts hp HP) (c_eqz hw)) ?_
    show lm_wp _ 164 83 [.ref 123, .int (nI n)] [.int 0] (hi, hl, X) _
    refine w_if_eq_t (t := 123) rfl rfl (by decide) ?_
    exact kO rfl _ P
  | succ r ih =>
    intro p hi sm hr hp P kO kF
    obtain ⟨⟨S, O, H, HR, FQ, K30⟩, HP⟩ := id P
    cases hw : wdq tl ts p wL1 with
    | false =>
      have eb : mbS tl ts wL1 (r + 1) p sm = (true, sm, p) := if_neg (by rw [hw]; decide)
      rw [eb] at kO kF
      refine w_N 2 80 [.ref 123, .int (nI n)] [.ref 13, .ref 123] rfl ?_
      refine w_cc (w_vst rfl rfl rfl (Nat.le_of_ble_eq_true rfl) (Nat.le_of_ble_eq_true rfl) (M_kd S)) (lm_c_v (m_isWord1 (d := d + 17) S O.2 hts hp HP) (c_eqz hw)) ?_
      show lm_wp _ 164 83 [.ref 123, .int (nI n)] [.int 0] (hi, hl, X) _
      refine w_if_eq_t (t := 123) rfl rfl (by decide) ?_
      exact kO rfl _ P
    | true =>
      have hF := wd_F hw
      have hb := tk_b (tl := tl) hp
      cases n1 : nmO tl ts (tkE tl ts p) 0 7 with
      | false =>
        have eb : mbS tl ts wL1 (r + 1) p sm = (false, sm, tkE tl ts p) := by
          show (if wdq tl ts p wL1 = true then (if nmO tl ts (tkE tl ts p) 0 7 = true then _ else _) else _) = _
          rw [if_pos hw, if_neg (by rw [n1]; decide)]
        rw [eb] at kO kF
        refine w_N 2 80 [.ref 123, .int (nI n)] [.ref 13, .ref 123] rfl ?_
        refine w_cc (w_vst rfl rfl rfl (Nat.le_of_ble_eq_true rfl) (Nat.le_of_ble_eq_true rfl) (M_kd S)) (lm_c_1 (m_isWord1 (d := d + 17) S O.2 hts hp HP) hw) ?_
        show lm_wp _ 164 83 [.ref 123, .int (nI n)] [.int 1] (hi, hl, X) _
        refine w_if_eq_f (t := 123) rfl rfl (by decide) ?_
        refine w_N 5 93 [.ref 123, .int (nI n)] [.int 7, .int 0, .int 0, .ref 13, .ref 123] rfl ?_
        refine w_ca (w_vst rfl rfl rfl (Nat.le_of_ble_eq_true rfl) (Nat.le_of_ble_eq_true rfl) (M_kd S)) (m_tellsF1 (d := d + 15) S O.2 hts hp HP hw n1) ?_
        rintro _ _ ⟨h1x, rfl, rfl, k28, f1, g1⟩
        have P1 := eQ_tok P.1 (fun a a1 a2 => f1 a a1) g1
        show lm_wp _ 164 96 [.ref 123, .int (nI n)] [.int 0] (h1x, hl, X) _
        refine w_if_ne_f (t := 101) rfl rfl (by decide) ?_
        refine w_N 1 100 [.ref 123, .int (nI n)] [.int 0] rfl ?_
        refine w_rz rfl rfl (by decide) ?_
        exact kF rfl _ P1.2.2.2.2.1 k28
      | true =>
        have hb1 := tk_b (tl := tl) hb.2.2.2.1
        obtain ⟨m, em, hm⟩ := wi_e (n := 7) (nm_t n1).2 (by decide)
        have eb : mbS tl ts wL1 (r + 1) p sm = mbS tl ts wL1 r (tkE tl ts (tkE tl ts p)) (sm ||| (1 <<< (nI m &&& 31))) := by
          show (if wdq tl ts p wL1 = true then (if nmO tl ts (tkE tl ts p) 0 7 = true then _ else _) else _) = _
          rw [if_pos hw, if_pos n1, em]
        rw [eb] at kO kF
        refine w_N 2 80 [.ref 123, .int (nI n)] [.ref 13, .ref 123] rfl ?_
        refine w_cc (w_vst rfl rfl rfl (Nat.le_of_ble_eq_true rfl) (Nat.le_of_ble_eq_true rfl) (M_kd S)) (lm_c_1 (m_isWord1 (d := d + 17) S O.2 hts hp HP) hw) ?_
        show lm_wp _ 164 83 [.ref 123, .int (nI n)] [.int 1] (hi, hl, X) _
        refine w_if_eq_f (t := 123) rfl rfl (by decide) ?_
        refine w_N 5 93 [.ref 123, .int (nI n)] [.int 7, .int 0, .int 0, .ref 13, .ref 123] rfl ?_
        refine w_ca (w_vst rfl rfl rfl (Nat.le_of_ble_eq_true rfl) (Nat.le_of_ble_eq_true rfl) (M_kd S)) (m_tellsT1 (d := d + 15) (j := 0) S O.2 hts hp HP hw rfl (by decide) n1) ?_
        rintro _ _ ⟨h1x, rfl, rfl, P1, t0, u1, f1, g1⟩
        rw [em] at t0
        have P : eP hi0 h1x X (adT T n x0 x1 x2 x3 sm x5) (n + 1) R tl ts (tkE tl ts (tkE tl ts p)) st := ⟨eQ_tok P.1 f1 (fun k a b c d _ => g1 k a b c d), P1⟩
        obtain ⟨⟨S, O, H, HR, FQ, K30⟩, HP⟩ := id P
        show lm_wp _ 164 96 [.ref 123, .int (nI n)] [.int 1] (h1x, hl, X) _
        refine w_if_ne_t (t := 101) rfl rfl (by decide) ?_
        refine w_N 1 102 [.ref 123, .int (nI n)] [.ref 123] rfl ?_
        refine w_gr 141 rfl rfl rfl (M_kd S) (M_r S (k := 11) (o := 18) rfl) ?_
        refine w_N 1 106 [.ref 123, .int (nI n)] [.int (nI n), .ref 141] rfl ?_
        refine w_aa n (123 + (19 + n)) rfl (M_kk S (o := 18) (by decide)) (show X.2.2.1 (141) = 10 from M_l S 18 (by decide)) rfl (by omega) (by decide) (M_acr S (by omega)) ?_
        refine w_N 2 109 [.ref 123, .int (nI n)] [.int 4, .ref (123 + (19 + n)), .int 4, .ref (123 + (19 + n))] rfl ?_
        refine w_ia 4 (v := sm) rfl (M_ack S (by omega)) (M_acl S (by omega)) rfl (by decide) (by decide) ((rTa H (by decide) (by omega)).trans ad_4) ?_
        refine w_N 2 112 [.ref 123, .int (nI n)] [.ref 123, .int 1, .int sm, .int 4, .ref (123 + (19 + n))] rfl ?_
        refine w_gr 158 rfl rfl rfl (M_kd S) (M_r S (k := 29) (o := 35) rfl) ?_
        refine w_N 1 116 [.ref 123, .int (nI n)] [.int 0, .ref 158, .int 1, .int sm, .int 4, .ref (123 + (19 + n))] rfl ?_
        refine w_ia 0 (v := nI m) rfl (show X.2.1 (158) = 1 from M_k S 35 (by decide)) (show X.2.2.1 (158) = 4 from M_l S 35 (by decide)) rfl (by decide) (by decide) (t0) ?_
        refine w_N 2 119 [.ref 123, .int (nI n)] [.int (sm ||| (1 <<< ((nI m) &&& 31))), .int 4, .ref (123 + (19 + n))] rfl ?_
        refine w_is 4 rfl (M_ack S (by omega)) (Nat.le_trans (M_64 S) (Nat.le_add_right _ _)) (M_acl S (by omega)) rfl (by decide) (by decide) ?_
        refine w_N 1 77 [.ref 123, .int (nI n)] [] rfl ?_
        have P2 : eP hi0 (lm_up h1x (123 + (19 + n)) 4 (sm ||| (1 <<< ((nI m) &&& 31)))) X (adT T n x0 x1 x2 x3 (sm ||| (1 <<< (nI m &&& 31))) x5) (n + 1) R tl ts (tkE tl ts (tkE tl ts p)) st := eP_town P (fun a2 ha2 => lm_up_rw (by omega)) ⟨lm_up_na (by omega), lm_up_na (by omega), lm_up_na (by omega), lm_up_na (by omega), lm_up_na (by omega), lm_up_na (by omega)⟩ (rT_a4 H) ⟨⟨(lm_up_na (by omega)).trans HR.1.1, fun c hc => (lm_up_na (by omega)).trans (HR.1.2 c hc)⟩, (lm_up_na (by omega)).trans HR.2.1, (lm_up_na (by omega)).trans HR.2.2.1, (lm_up_na (by omega)).trans HR.2.2.2.1, (lm_up_na (by omega)).trans HR.2.2.2.2.1, (lm_up_na (by omega)).trans HR.2.2.2.2.2⟩
        exact ih _ _ _ (by omega) hb1.2.2.2.1 P2 kO kF
theorem y_mb2 {d : Nat} {hl : Nat → Nat → Int64} {X : lm_X} {hi0 : Nat → Nat → Int32} {T : lm_T} {n : Nat} {R : Nat → Int32} {tl : Nat → Int32} {ts : Nat} {st x0 x1 x2 x3 x4 : Int32} (hts : ts ≤ 250) (hn : n < 10) {Po : Option Value → lm_H → Prop} : ∀ (r p : Nat) (hi : Nat → Nat → Int32) (sm : Int32), ts - p ≤ r → p ≤ ts → eP hi0 hi X (adT T n x0 x1 x2 x3 x4 sm) (n + 1) R tl ts p st → ((mbS tl ts wL2 r p sm).1 = true → ∀ hi2, eP hi0 hi2 X (adT T n x0 x1 x2 x3 x4 (mbS tl ts wL2 r p sm).2.1) (n + 1) R tl ts (mbS tl ts wL2 r p sm).2.2 st → lm_wp (d + 20) 164 169 [.ref 123, .int (nI n)] [] (hi2, hl, X) Po) → ((mbS tl ts wL2 r p sm).1 = false → ∀ hi2, rQ hi0 hi2 123 → hi2 123 28 = nI (tkF tl ts (mbS tl ts wL2 r p sm).2.2) → Po (some (.int 0)) (hi2, hl, X)) → lm_wp (d + 20) 164 123 [.ref 123, .int (nI n)] [] (hi, hl, X) Po := by
  intro r
  induction r with
  | zero =>
    intro p hi sm hr hp P kO kF
    obtain ⟨⟨S, O, H, HR, FQ, K30⟩, HP⟩ := id P
    have hw : wdq tl ts p wL2 = false := by
      cases h : wdq tl ts p wL2 with
      | false => rfl
      | true => have q1 := wd_F h; have q2 := tk_b (tl := tl) hp; omega
    refine w_N 2 126 [.ref 123, .int (nI n)] [.ref 14, .ref 123] rfl ?_
    refine w_cc (w_vst rfl rfl rfl (Nat.le_of_ble_eq_true rfl) (Nat.le_of_ble_eq_true rfl) (M_kd S)) (lm_c_v (m_isWord2 (d := d + 17) S O.2 hts hp HP) (c_eqz hw)) ?_
    show lm_wp _ 164 129 [.ref 123, .int (nI n)] [.int 0] (hi, hl, X) _
    refine w_if_eq_t (t := 169) rfl rfl (by decide) ?_
    exact kO rfl _ P
  | succ r ih =>
    intro p hi sm hr hp P kO kF
    obtain ⟨⟨S, O, H, HR, FQ, K30⟩, HP⟩ := id P
    cases hw : wdq tl ts p wL2 with
    | false =>
      have eb : mbS tl ts wL2 (r + 1) p sm = (true, sm, p) := if_neg (by rw [hw]; decide)
      rw [eb] at kO kF
      refine w_N 2 126 [.ref 123, .int (nI n)] [.ref 14, .ref 123] rfl ?_
      refine w_cc (w_vst rfl rfl rfl (Nat.le_of_ble_eq_true rfl) (Nat.le_of_ble_eq_true rfl) (M_kd S)) (lm_c_v (m_isWord2 (d := d + 17) S O.2 hts hp HP) (c_eqz hw)) ?_
      show lm_wp _ 164 129 [.ref 123, .int (nI n)] [.int 0] (hi, hl, X) _
      refine w_if_eq_t (t := 169) rfl rfl (by decide) ?_
      exact kO rfl _ P
    | true =>
      have hF := wd_F hw
      have hb := tk_b (tl := tl) hp
      cases n1 : nmO tl ts (tkE tl ts p) 0 7 with
      | false =>
        have eb : mbS tl ts wL2 (r + 1) p sm = (false, sm, tkE tl ts p) := by
          show (if wdq tl ts p wL2 = true then (if nmO tl ts (tkE tl ts p) 0 7 = true then _ else _) else _) = _
          rw [if_pos hw, if_neg (by rw [n1]; decide)]
        rw [eb] at kO kF
        refine w_N 2 126 [.ref 123, .int (nI n)] [.ref 14, .ref 123] rfl ?_
        refine w_cc (w_vst rfl rfl rfl (Nat.le_of_ble_eq_true rfl) (Nat.le_of_ble_eq_true rfl) (M_kd S)) (lm_c_1 (m_isWord2 (d := d + 17) S O.2 hts hp HP) hw) ?_
        show lm_wp _ 164 129 [.ref 123, .int (nI n)] [.int 1] (hi, hl, X) _
        refine w_if_eq_f (t := 169) rfl rfl (by decide) ?_
        refine w_N 5 139 [.ref 123, .int (nI n)] [.int 7, .int 0, .int 0, .ref 14, .ref 123] rfl ?_
        refine w_ca (w_vst rfl rfl rfl (Nat.le_of_ble_eq_true rfl) (Nat.le_of_ble_eq_true rfl) (M_kd S)) (m_tellsF2 (d := d + 15) S O.2 hts hp HP hw n1) ?_
        rintro _ _ ⟨h1x, rfl, rfl, k28, f1, g1⟩
        have P1 := eQ_tok P.1 (fun a a1 a2 => f1 a a1) g1
        show lm_wp _ 164 142 [.ref 123, .int (nI n)] [.int 0] (h1x, hl, X) _
        refine w_if_ne_f (t := 147) rfl rfl (by decide) ?_
        refine w_N 1 146 [.ref 123, .int (nI n)] [.int 0] rfl ?_
        refine w_rz rfl rfl (by decide) ?_
        exact kF rfl _ P1.2.2.2.2.1 k28
      | true =>
        have hb1 := tk_b (tl := tl) hb.2.2.2.1
        obtain ⟨m, em, hm⟩ := wi_e (n := 7) (nm_t n1).2 (by decide)
        have eb : mbS tl ts wL2 (r + 1) p sm = mbS tl ts wL2 r (tkE tl ts (tkE tl ts p)) (sm ||| (1 <<< (nI m &&& 31))) := by
          show (if wdq tl ts p wL2 = true then (if nmO tl ts (tkE tl ts p) 0 7 = true then _ else _) else _) = _
          rw [if_pos hw, if_pos n1, em]
        rw [eb] at kO kF
        refine w_N 2 126 [.ref 123, .int (nI n)] [.ref 14, .ref 123] rfl ?_
        refine w_cc (w_vst rfl rfl rfl (Nat.le_of_ble_eq_true rfl) (Nat.le_of_ble_eq_true rfl) (M_kd S)) (lm_c_1 (m_isWord2 (d := d + 17) S O.2 hts hp HP) hw) ?_
        show lm_wp _ 164 129 [.ref 123, .int (nI n)] [.int 1] (hi, hl, X) _
        refine w_if_eq_f (t := 169) rfl rfl (by decide) ?_
        refine w_N 5 139 [.ref 123, .int (nI n)] [.int 7, .int 0, .int 0, .ref 14, .ref 123] rfl ?_
        refine w_ca (w_vst rfl rfl rfl (Nat.le_of_ble_eq_true rfl) (Nat.le_of_ble_eq_true rfl) (M_kd S)) (m_tellsT2 (d := d + 15) (j := 0) S O.2 hts hp HP hw rfl (by decide) n1) ?_
        rintro _ _ ⟨h1x, rfl, rfl, P1, t0, u1, f1, g1⟩
        rw [em] at t0
        have P : eP hi0 h1x X (adT T n x0 x1 x2 x3 x4 sm) (n + 1) R tl ts (tkE tl ts (tkE tl ts p)) st := ⟨eQ_tok P.1 f1 (fun k a b c d _ => g1 k a b c d), P1⟩
        obtain ⟨⟨S, O, H, HR, FQ, K30⟩, HP⟩ := id P
        show lm_wp _ 164 142 [.ref 123, .int (nI n)] [.int 1] (h1x, hl, X) _
        refine w_if_ne_t (t := 147) rfl rfl (by decide) ?_
        refine w_N 1 148 [.ref 123, .int (nI n)] [.ref 123] rfl ?_
        refine w_gr 141 rfl rfl rfl (M_kd S) (M_r S (k := 11) (o := 18) rfl) ?_
        refine w_N 1 152 [.ref 123, .int (nI n)] [.int (nI n), .ref 141] rfl ?_
        refine w_aa n (123 + (19 + n)) rfl (M_kk S (o := 18) (by decide)) (show X.2.2.1 (141) = 10 from M_l S 18 (by decide)) rfl (by omega) (by decide) (M_acr S (by omega)) ?_
        refine w_N 2 155 [.ref 123, .int (nI n)] [.int 5, .ref (123 + (19 + n)), .int 5, .ref (123 + (19 + n))] rfl ?_
        refine w_ia 5 (v := sm) rfl (M_ack S (by omega)) (M_acl S (by omega)) rfl (by decide) (by decide) ((rTa H (by decide) (by omega)).trans ad_5) ?_
        refine w_N 2 158 [.ref 123, .int (nI n)] [.ref 123, .int 1, .int sm, .int 5, .ref (123 + (19 + n))] rfl ?_
        refine w_gr 158 rfl rfl rfl (M_kd S) (M_r S (k := 29) (o := 35) rfl) ?_
        refine w_N 1 162 [.ref 123, .int (nI n)] [.int 0, .ref 158, .int 1, .int sm, .int 5, .ref (123 + (19 + n))] rfl ?_
        refine w_ia 0 (v := nI m) rfl (show X.2.1 (158) = 1 from M_k S 35 (by decide)) (show X.2.2.1 (158) = 4 from M_l S 35 (by decide)) rfl (by decide) (by decide) (t0) ?_
        refine w_N 2 165 [.ref 123, .int (nI n)] [.int (sm ||| (1 <<< ((nI m) &&& 31))), .int 5, .ref (123 + (19 + n))] rfl ?_
        refine w_is 5 rfl (M_ack S (by omega)) (Nat.le_trans (M_64 S) (Nat.le_add_right _ _)) (M_acl S (by omega)) rfl (by decide) (by decide) ?_
        refine w_N 1 123 [.ref 123, .int (nI n)] [] rfl ?_
        have P2 : eP hi0 (lm_up h1x (123 + (19 + n)) 5 (sm ||| (1 <<< ((nI m) &&& 31)))) X (adT T n x0 x1 x2 x3 x4 (sm ||| (1 <<< (nI m &&& 31)))) (n + 1) R tl ts (tkE tl ts (tkE tl ts p)) st := eP_town P (fun a2 ha2 => lm_up_rw (by omega)) ⟨lm_up_na (by omega), lm_up_na (by omega), lm_up_na (by omega), lm_up_na (by omega), lm_up_na (by omega), lm_up_na (by omega)⟩ (rT_a5 H) ⟨⟨(lm_up_na (by omega)).trans HR.1.1, fun c hc => (lm_up_na (by omega)).trans (HR.1.2 c hc)⟩, (lm_up_na (by omega)).trans HR.2.1, (lm_up_na (by omega)).trans HR.2.2.1, (lm_up_na (by omega)).trans HR.2.2.2.1, (lm_up_na (by omega)).trans HR.2.2.2.2.1, (lm_up_na (by omega)).trans HR.2.2.2.2.2⟩
        exact ih _ _ _ (by omega) hb1.2.2.2.1 P2 kO kF
theorem y_aF1 {d : Nat} {hi : Nat → Nat → Int32} {hl : Nat → Nat → Int64} {X : lm_X} {hi0 : Nat → Nat → Int32} {T : lm_T} {n : Nat} {R : Nat → Int32} {tl : Nat → Int32} {ts p : Nat} {st : Int32} (P : eP hi0 hi X T n R tl ts p st) (hts : ts ≤ 250) (hp : p ≤ ts) {p1 : Nat} (q1 : tkE tl ts p = p1) (w0 : wdq tl ts p wL0 = true) (hn : n < 10)  (nF : nmO tl ts p1 0 5 = false) : lm_w (d + 30) 164 [.ref 123] (hi, hl, X) (eF hi0 hl X (tkF tl ts p1)) := by
  obtain ⟨⟨S, O, H, HR, FQ, K30⟩, HP⟩ := id P
  refine lm_w_in (Nat.le_of_ble_eq_true rfl) ?_
  show lm_wp (d + 30) 164 0 [.ref 123, lm_jk] [] (hi, hl, X) _
  refine w_N 5 6 [.ref 123, lm_jk] [.int 5, .int 0, .int 0, .ref 12, .ref 123] rfl ?_
  refine w_ca (w_vst rfl rfl rfl (Nat.le_of_ble_eq_true rfl) (Nat.le_of_ble_eq_true rfl) (M_kd S)) (m_tellsF0 (d := d + 25) S O.2 hts hp HP w0 (by rw [q1]; exact nF)) ?_
  rintro _ _ ⟨ha1, rfl, rfl, k28, f_ha1, g_ha1⟩
  have P := eQ_tok P.1 (fun a a1 a2 => f_ha1 a a1) g_ha1
  rw [q1] at k28
  obtain ⟨S, O, H, HR, FQ, K30⟩ := id P
  show lm_wp _ 164 9 [.ref 123, lm_jk] [.int 0] (ha1, hl, X) _
  refine w_if_eq_t (t := 44) rfl rfl (by decide) ?_
  refine w_N 1 45 [.ref 123, lm_jk] [.int 0] rfl ?_
  refine w_rz rfl rfl (by decide) ?_
  exact ⟨rfl, _, rfl, FQ, k28⟩
theorem y_aF2 {d : Nat} {hi : Nat → Nat → Int32} {hl : Nat → Nat → Int64} {X : lm_X} {hi0 : Nat → Nat → Int32} {T : lm_T} {n : Nat} {R : Nat → Int32} {tl : Nat → Int32} {ts p : Nat} {st : Int32} (P : eP hi0 hi X T n R tl ts p st) (hts : ts ≤ 250) (hp : p ≤ ts) {p1 p2 : Nat} (q1 : tkE tl ts p = p1) (q2 : tkE tl ts p1 = p2) (w0 : wdq tl ts p wL0 = true) (hn : n < 10) {a0 : Nat} (g0 : a0 ≤ 5) (n1 : nmO tl ts p1 0 5 = true) (v1 : fgI tl ts p1 = nI a0) (nF : nmO tl ts p2 0 7 = false) : lm_w (d + 30) 164 [.ref 123] (hi, hl, X) (eF hi0 hl X (tkF tl ts p2)) := by
  obtain ⟨⟨S, O, H, HR, FQ, K30⟩, HP⟩ := id P
  refine lm_w_in (Nat.le_of_ble_eq_true rfl) ?_
  show lm_wp (d + 30) 164 0 [.ref 123, lm_jk] [] (hi, hl, X) _
  refine w_N 5 6 [.ref 123, lm_jk] [.int 5, .int 0, .int 0, .ref 12, .ref 123] rfl ?_
  refine w_ca (w_vst rfl rfl rfl (Nat.le_of_ble_eq_true rfl) (Nat.le_of_ble_eq_true rfl) (M_kd S)) (m_tellsT0 (d := d + 25) (j := 0) S O.2 hts hp HP w0 rfl (by decide) (by rw [q1]; exact n1)) ?_
  rintro _ _ ⟨ha2, rfl, rfl, P_ha2, t0, u_ha2, f_ha2, g_ha2⟩
  rw [q1] at P_ha2 t0
  rw [q2] at P_ha2
  rw [v1] at t0
  have hp := (tk_b (tl := tl) (q1 ▸ (tk_b (tl := tl) hp).2.2.2.1 : p1 ≤ ts)).2.2.2.1
  rw [q2] at hp
  have P := (⟨eQ_tok P.1 f_ha2 (fun k a b c d _ => g_ha2 k a b c d), P_ha2⟩ : eP hi0 ha2 X T n R tl ts p2 st)
  obtain ⟨⟨S, O, H, HR, FQ, K30⟩, HP⟩ := id P
  show lm_wp _ 164 9 [.ref 123, lm_jk] [.int 1] (ha2, hl, X) _
  refine w_if_eq_f (t := 44) rfl rfl (by decide) ?_
  refine w_N 4 17 [.ref 123, lm_jk] [.int 7, .int 0, .int 1, .ref 123] rfl ?_
  refine w_cc (w_vst rfl rfl rfl (Nat.le_of_ble_eq_true rfl) (Nat.le_of_ble_eq_true rfl) (M_kd S)) (m_numF (d := d + 27) S O.2 hts hp HP nF) ?_
  show lm_wp _ 164 20 [.ref 123, lm_jk] [.int 0] (lm_up ha2 123 28 (nI (tkF tl ts p2)), hl, X) _
  refine w_if_eq_t (t := 44) rfl rfl (by decide) ?_
  refine w_N 1 45 [.ref 123, lm_jk] [.int 0] rfl ?_
  refine w_rz rfl rfl (by decide) ?_
  exact ⟨rfl, _, rfl, rQ_u (by decide) (FQ), lm_up_eq⟩
theorem y_aF3 {d : Nat} {hi : Nat → Nat → Int32} {hl : Nat → Nat → Int64} {X : lm_X} {hi0 : Nat → Nat → Int32} {T : lm_T} {n : Nat} {R : Nat → Int32} {tl : Nat → Int32} {ts p : Nat} {st : Int32} (P : eP hi0 hi X T n R tl ts p st) (hts : ts ≤ 250) (hp : p ≤ ts) {p1 p2 p3 : Nat} (q1 : tkE tl ts p = p1) (q2 : tkE tl ts p1 = p2) (q3 : tkE tl ts p2 = p3) (w0 : wdq tl ts p wL0 = true) (hn : n < 10) {a0 : Nat} (g0 : a0 ≤ 5) (n1 : nmO tl ts p1 0 5 = true) (v1 : fgI tl ts p1 = nI a0) {a1 : Nat} (g1 : a1 ≤ 7) (n2 : nmO tl ts p2 0 7 = true) (v2 : fgI tl ts p2 = nI a1) (nF : nmO tl ts p3 0 3 = false) : lm_w (d + 30) 164 [.ref 123] (hi, hl, X) (eF hi0 hl X (tkF tl ts p3)) := by
  obtain ⟨⟨S, O, H, HR, FQ, K30⟩, HP⟩ := id P
  refine lm_w_in (Nat.le_of_ble_eq_true rfl) ?_
  show lm_wp (d + 30) 164 0 [.ref 123, lm_jk] [] (hi, hl, X) _
  refine w_N 5 6 [.ref 123, lm_jk] [.int 5, .int 0, .int 0, .ref 12, .ref 123] rfl ?_
  refine w_ca (w_vst rfl rfl rfl (Nat.le_of_ble_eq_true rfl) (Nat.le_of_ble_eq_true rfl) (M_kd S)) (m_tellsT0 (d := d + 25) (j := 0) S O.2 hts hp HP w0 rfl (by decide) (by rw [q1]; exact n1)) ?_
  rintro _ _ ⟨ha4, rfl, rfl, P_ha4, t0, u_ha4, f_ha4, g_ha4⟩
  rw [q1] at P_ha4 t0
  rw [q2] at P_ha4
  rw [v1] at t0
  have hp := (tk_b (tl := tl) (q1 ▸ (tk_b (tl := tl) hp).2.2.2.1 : p1 ≤ ts)).2.2.2.1
  rw [q2] at hp
  have P := (⟨eQ_tok P.1 f_ha4 (fun k a b c d _ => g_ha4 k a b c d), P_ha4⟩ : eP hi0 ha4 X T n R tl ts p2 st)
  obtain ⟨⟨S, O, H, HR, FQ, K30⟩, HP⟩ := id P
  show lm_wp _ 164 9 [.ref 123, lm_jk] [.int 1] (ha4, hl, X) _
  refine w_if_eq_f (t := 44) rfl rfl (by decide) ?_
  refine w_N 4 17 [.ref 123, lm_jk] [.int 7, .int 0, .int 1, .ref 123] rfl ?_
  refine w_ca (w_vst rfl rfl rfl (Nat.le_of_ble_eq_true rfl) (Nat.le_of_ble_eq_true rfl) (M_kd S)) (m_numT (d := d + 27) (i := 1) S O.2 hts hp HP rfl (by decide) n2) ?_
  rintro _ _ ⟨hb5, rfl, rfl, P_hb5, t1, u_hb5, f_hb5, g_hb5⟩
  have t0 := (u_hb5 0 (by decide)).trans t0
  rw [v2] at t1
  rw [q3] at P_hb5
  have hp := (tk_b (tl := tl) hp).2.2.2.1
  rw [q3] at hp
  have P := (⟨eQ_tok P.1 f_hb5 (fun k a b c d _ => g_hb5 k a b c d), P_hb5⟩ : eP hi0 hb5 X T n R tl ts p3 st)
  obtain ⟨⟨S, O, H, HR, FQ, K30⟩, HP⟩ := id P
  show lm_wp _ 164 20 [.ref 123, lm_jk] [.int 1] (hb5, hl, X) _
  refine w_if_eq_f (t := 44) rfl rfl (by decide) ?_
  refine w_N 4 27 [.ref 123, lm_jk] [.int 3, .int 0, .int 2, .ref 123] rfl ?_
  refine w_cc (w_vst rfl rfl rfl (Nat.le_of_ble_eq_true rfl) (Nat.le_of_ble_eq_true rfl) (M_kd S)) (m_numF (d := d + 27) S O.2 hts hp HP nF) ?_
  show lm_wp _ 164 30 [.ref 123, lm_jk] [.int 0] (lm_up hb5 123 28 (nI (tkF tl ts p3)), hl, X) _
  refine w_if_eq_t (t := 44) rfl rfl (by decide) ?_
  refine w_N 1 45 [.ref 123, lm_jk] [.int 0] rfl ?_
  refine w_rz rfl rfl (by decide) ?_
  exact ⟨rfl, _, rfl, rQ_u (by decide) (FQ), lm_up_eq⟩
theorem y_aF4 {d : Nat} {hi : Nat → Nat → Int32} {hl : Nat → Nat → Int64} {X : lm_X} {hi0 : Nat → Nat → Int32} {T : lm_T} {n : Nat} {R : Nat → Int32} {tl : Nat → Int32} {ts p : Nat} {st : Int32} (P : eP hi0 hi X T n R tl ts p st) (hts : ts ≤ 250) (hp : p ≤ ts) {p1 p2 p3 p4 : Nat} (q1 : tkE tl ts p = p1) (q2 : tkE tl ts p1 = p2) (q3 : tkE tl ts p2 = p3) (q4 : tkE tl ts p3 = p4) (w0 : wdq tl ts p wL0 = true) (hn : n < 10) {a0 : Nat} (g0 : a0 ≤ 5) (n1 : nmO tl ts p1 0 5 = true) (v1 : fgI tl ts p1 = nI a0) {a1 : Nat} (g1 : a1 ≤ 7) (n2 : nmO tl ts p2 0 7 = true) (v2 : fgI tl ts p2 = nI a1) {a2 : Nat} (g2 : a2 ≤ 3) (n3 : nmO tl ts p3 0 3 = true) (v3 : fgI tl ts p3 = nI a2) (nF : nmO tl ts p4 1 9 = false) : lm_w (d + 30) 164 [.ref 123] (hi, hl, X) (eF hi0 hl X (tkF tl ts p4)) := by
  obtain ⟨⟨S, O, H, HR, FQ, K30⟩, HP⟩ := id P
  refine lm_w_in (Nat.le_of_ble_eq_true rfl) ?_
  show lm_wp (d + 30) 164 0 [.ref 123, lm_jk] [] (hi, hl, X) _
  refine w_N 5 6 [.ref 123, lm_jk] [.int 5, .int 0, .int 0, .ref 12, .ref 123] rfl ?_
  refine w_ca (w_vst rfl rfl rfl (Nat.le_of_ble_eq_true rfl) (Nat.le_of_ble_eq_true rfl) (M_kd S)) (m_tellsT0 (d := d + 25) (j := 0) S O.2 hts hp HP w0 rfl (by decide) (by rw [q1]; exact n1)) ?_
  rintro _ _ ⟨ha7, rfl, rfl, P_ha7, t0, u_ha7, f_ha7, g_ha7⟩
  rw [q1] at P_ha7 t0
  rw [q2] at P_ha7
  rw [v1] at t0
  have hp := (tk_b (tl := tl) (q1 ▸ (tk_b (tl := tl) hp).2.2.2.1 : p1 ≤ ts)).2.2.2.1
  rw [q2] at hp
  have P := (⟨eQ_tok P.1 f_ha7 (fun k a b c d _ => g_ha7 k a b c d), P_ha7⟩ : eP hi0 ha7 X T n R tl ts p2 st)
  obtain ⟨⟨S, O, H, HR, FQ, K30⟩, HP⟩ := id P
  show lm_wp _ 164 9 [.ref 123, lm_jk] [.int 1] (ha7, hl, X) _
  refine w_if_eq_f (t := 44) rfl rfl (by decide) ?_
  refine w_N 4 17 [.ref 123, lm_jk] [.int 7, .int 0, .int 1, .ref 123] rfl ?_
  refine w_ca (w_vst rfl rfl rfl (Nat.le_of_ble_eq_true rfl) (Nat.le_of_ble_eq_true rfl) (M_kd S)) (m_numT (d := d + 27) (i := 1) S O.2 hts hp HP rfl (by decide) n2) ?_
  rintro _ _ ⟨hb8, rfl, rfl, P_hb8, t1, u_hb8, f_hb8, g_hb8⟩
  have t0 := (u_hb8 0 (by decide)).trans t0
  rw [v2] at t1
  rw [q3] at P_hb8
  have hp := (tk_b (tl := tl) hp).2.2.2.1
  rw [q3] at hp
  have P := (⟨eQ_tok P.1 f_hb8 (fun k a b c d _ => g_hb8 k a b c d), P_hb8⟩ : eP hi0 hb8 X T n R tl ts p3 st)
  obtain ⟨⟨S, O, H, HR, FQ, K30⟩, HP⟩ := id P
  show lm_wp _ 164 20 [.ref 123, lm_jk] [.int 1] (hb8, hl, X) _
  refine w_if_eq_f (t := 44) rfl rfl (by decide) ?_
  refine w_N 4 27 [.ref 123, lm_jk] [.int 3, .int 0, .int 2, .ref 123] rfl ?_
  refine w_ca (w_vst rfl rfl rfl (Nat.le_of_ble_eq_true rfl) (Nat.le_of_ble_eq_true rfl) (M_kd S)) (m_numT (d := d + 27) (i := 2) S O.2 hts hp HP rfl (by decide) n3) ?_
  rintro _ _ ⟨hb9, rfl, rfl, P_hb9, t2, u_hb9, f_hb9, g_hb9⟩
  have t0 := (u_hb9 0 (by decide)).trans t0
  have t1 := (u_hb9 1 (by decide)).trans t1
  rw [v3] at t2
  rw [q4] at P_hb9
  have hp := (tk_b (tl := tl) hp).2.2.2.1
  rw [q4] at hp
  have P := (⟨eQ_tok P.1 f_hb9 (fun k a b c d _ => g_hb9 k a b c d), P_hb9⟩ : eP hi0 hb9 X T n R tl ts p4 st)
  obtain ⟨⟨S, O, H, HR, FQ, K30⟩, HP⟩ := id P
  show lm_wp _ 164 30 [.ref 123, lm_jk] [.int 1] (hb9, hl, X) _
  refine w_if_eq_f (t := 44) rfl rfl (by decide) ?_
  refine w_N 4 38 [.ref 123, lm_jk] [.int 9, .int 1, .int 3, .ref 123] rfl ?_
  refine w_cc (w_vst rfl rfl rfl (Nat.le_of_ble_eq_true rfl) (Nat.le_of_ble_eq_true rfl) (M_kd S)) (m_numF (d := d + 27) S O.2 hts hp HP nF) ?_
  show lm_wp _ 164 41 [.ref 123, lm_jk] [.int 0] (lm_up hb9 123 28 (nI (tkF tl ts p4)), hl, X) _
  refine w_if_ne_f (t := 46) rfl rfl (by decide) ?_
  refine w_N 1 45 [.ref 123, lm_jk] [.int 0] rfl ?_
  refine w_rz rfl rfl (by decide) ?_
  exact ⟨rfl, _, rfl, rQ_u (by decide) (FQ), lm_up_eq⟩
theorem y_aF5 {d : Nat} {hi : Nat → Nat → Int32} {hl : Nat → Nat → Int64} {X : lm_X} {hi0 : Nat → Nat → Int32} {T : lm_T} {n : Nat} {R : Nat → Int32} {tl : Nat → Int32} {ts p : Nat} {st : Int32} (P : eP hi0 hi X T n R tl ts p st) (hts : ts ≤ 250) (hp : p ≤ ts) {p1 p2 p3 p4 p5 : Nat} (q1 : tkE tl ts p = p1) (q2 : tkE tl ts p1 = p2) (q3 : tkE tl ts p2 = p3) (q4 : tkE tl ts p3 = p4) (q5 : tkE tl ts p4 = p5) (w0 : wdq tl ts p wL0 = true) (hn : n < 10) {a0 : Nat} (g0 : a0 ≤ 5) (n1 : nmO tl ts p1 0 5 = true) (v1 : fgI tl ts p1 = nI a0) {a1 : Nat} (g1 : a1 ≤ 7) (n2 : nmO tl ts p2 0 7 = true) (v2 : fgI tl ts p2 = nI a1) {a2 : Nat} (g2 : a2 ≤ 3) (n3 : nmO tl ts p3 0 3 = true) (v3 : fgI tl ts p3 = nI a2) {a3 : Nat} (g3 : 1 ≤ a3) (g3b : a3 ≤ 9) (n4 : nmO tl ts p4 1 9 = true) (v4 : fgI tl ts p4 = nI a3) (b1 : (mbS tl ts wL1 ts p5 0).1 = false) : lm_w (d + 30) 164 [.ref 123] (hi, hl, X) (eF hi0 hl X (tkF tl ts (mbS tl ts wL1 ts p5 0).2.2)) := by
  obtain ⟨⟨S, O, H, HR, FQ, K30⟩, HP⟩ := id P
  refine lm_w_in (Nat.le_of_ble_eq_true rfl) ?_
  show lm_wp (d + 30) 164 0 [.ref 123, lm_jk] [] (hi, hl, X) _
  refine w_N 5 6 [.ref 123, lm_jk] [.int 5, .int 0, .int 0, .ref 12, .ref 123] rfl ?_
  refine w_ca (w_vst rfl rfl rfl (Nat.le_of_ble_eq_true rfl) (Nat.le_of_ble_eq_true rfl) (M_kd S)) (m_tellsT0 (d := d + 25) (j := 0) S O.2 hts hp HP w0 rfl (by decide) (by rw [q1]; exact n1)) ?_
  rintro _ _ ⟨ha11, rfl, rfl, P_ha11, t0, u_ha11, f_ha11, g_ha11⟩
  rw [q1] at P_ha11 t0
  rw [q2] at P_ha11
  rw [v1] at t0
  have hp := (tk_b (tl := tl) (q1 ▸ (tk_b (tl := tl) hp).2.2.2.1 : p1 ≤ ts)).2.2.2.1
  rw [q2] at hp
  have P := (⟨eQ_tok P.1 f_ha11 (fun k a b c d _ => g_ha11 k a b c d), P_ha11⟩ : eP hi0 ha11 X T n R tl ts p2 st)
  obtain ⟨⟨S, O, H, HR, FQ, K30⟩, HP⟩ := id P
  show lm_wp _ 164 9 [.ref 123, lm_jk] [.int 1] (ha11, hl, X) _
  refine w_if_eq_f (t := 44) rfl rfl (by decide) ?_
  refine w_N 4 17 [.ref 123, lm_jk] [.int 7, .int 0, .int 1, .ref 123] rfl ?_
  refine w_ca (w_vst rfl rfl rfl (Nat.le_of_ble_eq_true rfl) (Nat.le_of_ble_eq_true rfl) (M_kd S)) (m_numT (d := d + 27) (i := 1) S O.2 hts hp HP rfl (by decide) n2) ?_
  rintro _ _ ⟨hb12, rfl, rfl, P_hb12, t1, u_hb12, f_hb12, g_hb12⟩
  have t0 := (u_hb12 0 (by decide)).trans t0
  rw [v2] at t1
  rw [q3] at P_hb12
  have hp := (tk_b (tl := tl) hp).2.2.2.1
  rw [q3] at hp
  have P := (⟨eQ_tok P.1 f_hb12 (fun k a b c d _ => g_hb12 k a b c d), P_hb12⟩ : eP hi0 hb12 X T n R tl ts p3 st)
  obtain ⟨⟨S, O, H, HR, FQ, K30⟩, HP⟩ := id P
  show lm_wp _ 164 20 [.ref 123, lm_jk] [.int 1] (hb12, hl, X) _
  refine w_if_eq_f (t := 44) rfl rfl (by decide) ?_
  refine w_N 4 27 [.ref 123, lm_jk] [.int 3, .int 0, .int 2, .ref 123] rfl ?_
  refine w_ca (w_vst rfl rfl rfl (Nat.le_of_ble_eq_true rfl) (Nat.le_of_ble_eq_true rfl) (M_kd S)) (m_numT (d := d + 27) (i := 2) S O.2 hts hp HP rfl (by decide) n3) ?_
  rintro _ _ ⟨hb13, rfl, rfl, P_hb13, t2, u_hb13, f_hb13, g_hb13⟩
  have t0 := (u_hb13 0 (by decide)).trans t0
  have t1 := (u_hb13 1 (by decide)).trans t1
  rw [v3] at t2
  rw [q4] at P_hb13
  have hp := (tk_b (tl := tl) hp).2.2.2.1
  rw [q4] at hp
  have P := (⟨eQ_tok P.1 f_hb13 (fun k a b c d _ => g_hb13 k a b c d), P_hb13⟩ : eP hi0 hb13 X T n R tl ts p4 st)
  obtain ⟨⟨S, O, H, HR, FQ, K30⟩, HP⟩ := id P
  show lm_wp _ 164 30 [.ref 123, lm_jk] [.int 1] (hb13, hl, X) _
  refine w_if_eq_f (t := 44) rfl rfl (by decide) ?_
  refine w_N 4 38 [.ref 123, lm_jk] [.int 9, .int 1, .int 3, .ref 123] rfl ?_
  refine w_ca (w_vst rfl rfl rfl (Nat.le_of_ble_eq_true rfl) (Nat.le_of_ble_eq_true rfl) (M_kd S)) (m_numT (d := d + 27) (i := 3) S O.2 hts hp HP rfl (by decide) n4) ?_
  rintro _ _ ⟨hb14, rfl, rfl, P_hb14, t3, u_hb14, f_hb14, g_hb14⟩
  have t0 := (u_hb14 0 (by decide)).trans t0
  have t1 := (u_hb14 1 (by decide)).trans t1
  have t2 := (u_hb14 2 (by decide)).trans t2
  rw [v4] at t3
  rw [q5] at P_hb14
  have hp := (tk_b (tl := tl) hp).2.2.2.1
  rw [q5] at hp
  have P := (⟨eQ_tok P.1 f_hb14 (fun k a b c d _ => g_hb14 k a b c d), P_hb14⟩ : eP hi0 hb14 X T n R tl ts p5 st)
  obtain ⟨⟨S, O, H, HR, FQ, K30⟩, HP⟩ := id P
  show lm_wp _ 164 41 [.ref 123, lm_jk] [.int 1] (hb14, hl, X) _
  refine w_if_ne_t (t := 46) rfl rfl (by decide) ?_
  refine w_N 2 48 [.ref 123, lm_jk] [.ref 123, .ref 123] rfl ?_
  refine w_gr 158 rfl rfl rfl (M_kd S) (M_r S (k := 29) (o := 35) rfl) ?_
  refine w_N 1 52 [.ref 123, lm_jk] [.int 0, .ref 158, .ref 123] rfl ?_
  refine w_ia 0 (v := nI a0) rfl (show X.2.1 (158) = 1 from M_k S 35 (by decide)) (show X.2.2.1 (158) = 4 from M_l S 35 (by decide)) rfl (by decide) (by decide) (t0) ?_
  refine w_N 1 54 [.ref 123, lm_jk] [.ref 123, .int (nI a0), .ref 123] rfl ?_
  refine w_gr 158 rfl rfl rfl (M_kd S) (M_r S (k := 29) (o := 35) rfl) ?_
  refine w_N 1 58 [.ref 123, lm_jk] [.int 1, .ref 158, .int (nI a0), .ref 123] rfl ?_
  refine w_ia 1 (v := nI a1) rfl (show X.2.1 (158) = 1 from M_k S 35 (by decide)) (show X.2.2.1 (158) = 4 from M_l S 35 (by decide)) rfl (by decide) (by decide) (t1) ?_
  refine w_N 1 60 [.ref 123, lm_jk] [.ref 123, .int (nI a1), .int (nI a0), .ref 123] rfl ?_
  refine w_gr 158 rfl rfl rfl (M_kd S) (M_r S (k := 29) (o := 35) rfl) ?_
  refine w_N 1 64 [.ref 123, lm_jk] [.int 2, .ref 158, .int (nI a1), .int (nI a0), .ref 123] rfl ?_
  refine w_ia 2 (v := nI a2) rfl (show X.2.1 (158) = 1 from M_k S 35 (by decide)) (show X.2.2.1 (158) = 4 from M_l S 35 (by decide)) rfl (by decide) (by decide) (t2) ?_
  refine w_N 1 66 [.ref 123, lm_jk] [.ref 123, .int (nI a2), .int (nI a1), .int (nI a0), .ref 123] rfl ?_
  refine w_gr 158 rfl rfl rfl (M_kd S) (M_r S (k := 29) (o := 35) rfl) ?_
  refine w_N 1 70 [.ref 123, lm_jk] [.int 3, .ref 158, .int (nI a2), .int (nI a1), .int (nI a0), .ref 123] rfl ?_
  refine w_ia 3 (v := nI a3) rfl (show X.2.1 (158) = 1 from M_k S 35 (by decide)) (show X.2.2.1 (158) = 4 from M_l S 35 (by decide)) rfl (by decide) (by decide) (t3) ?_
  refine w_N 2 73 [.ref 123, lm_jk] [.int 0, .int 0, .int (nI a3), .int (nI a2), .int (nI a1), .int (nI a0), .ref 123] rfl ?_
  refine w_ca (w_vst rfl rfl rfl (Nat.le_of_ble_eq_true rfl) (Nat.le_of_ble_eq_true rfl) (M_kd S)) (m_act0 (d := d + 19) P hts hp g0 g1 g2 g3 g3b hn) ?_
  rintro _ _ ⟨h9x, rfl, rfl, P, -⟩
  show lm_wp _ 164 76 [.ref 123, lm_jk] [.int (nI n)] (h9x, hl, X) _
  refine w_N 1 77 [.ref 123, .int (nI n)] [] rfl ?_
  refine y_mb1 (d := d + 10) hts hn ts p5 _ 0 (by omega) hp P (fun b1_ h2x P => ?_) (fun b1_ h2x Q2 k28 => ?_)
  · exact absurd b1_ (by rw [b1]; decide)
  · exact ⟨rfl, _, rfl, Q2, k28⟩
theorem y_aF6 {d : Nat} {hi : Nat → Nat → Int32} {hl : Nat → Nat → Int64} {X : lm_X} {hi0 : Nat → Nat → Int32} {T : lm_T} {n : Nat} {R : Nat → Int32} {tl : Nat → Int32} {ts p : Nat} {st : Int32} (P : eP hi0 hi X T n R tl ts p st) (hts : ts ≤ 250) (hp : p ≤ ts) {p1 p2 p3 p4 p5 : Nat} (q1 : tkE tl ts p = p1) (q2 : tkE tl ts p1 = p2) (q3 : tkE tl ts p2 = p3) (q4 : tkE tl ts p3 = p4) (q5 : tkE tl ts p4 = p5) (w0 : wdq tl ts p wL0 = true) (hn : n < 10) {a0 : Nat} (g0 : a0 ≤ 5) (n1 : nmO tl ts p1 0 5 = true) (v1 : fgI tl ts p1 = nI a0) {a1 : Nat} (g1 : a1 ≤ 7) (n2 : nmO tl ts p2 0 7 = true) (v2 : fgI tl ts p2 = nI a1) {a2 : Nat} (g2 : a2 ≤ 3) (n3 : nmO tl ts p3 0 3 = true) (v3 : fgI tl ts p3 = nI a2) {a3 : Nat} (g3 : 1 ≤ a3) (g3b : a3 ≤ 9) (n4 : nmO tl ts p4 1 9 = true) (v4 : fgI tl ts p4 = nI a3) {p6 e1 : Nat} (w1_ : e1 < 256) (b1 : (mbS tl ts wL1 ts p5 0).1 = true) (d1 : (mbS tl ts wL1 ts p5 0).2.1 = nI e1) (q6 : (mbS tl ts wL1 ts p5 0).2.2 = p6) (b2 : (mbS tl ts wL2 ts p6 0).1 = false) : lm_w (d + 30) 164 [.ref 123] (hi, hl, X) (eF hi0 hl X (tkF tl ts (mbS tl ts wL2 ts p6 0).2.2)) := by
  obtain ⟨⟨S, O, H, HR, FQ, K30⟩, HP⟩ := id P
  refine lm_w_in (Nat.le_of_ble_eq_true rfl) ?_
  show lm_wp (d + 30) 164 0 [.ref 123, lm_jk] [] (hi, hl, X) _
  refine w_N 5 6 [.ref 123, lm_jk] [.int 5, .int 0, .int 0, .ref 12, .ref 123] rfl ?_
  refine w_ca (w_vst rfl rfl rfl (Nat.le_of_ble_eq_true rfl) (Nat.le_of_ble_eq_true rfl) (M_kd S)) (m_tellsT0 (d := d + 25) (j := 0) S O.2 hts hp HP w0 rfl (by decide) (by rw [q1]; exact n1)) ?_
  rintro _ _ ⟨ha15, rfl, rfl, P_ha15, t0, u_ha15, f_ha15, g_ha15⟩
  rw [q1] at P_ha15 t0
  rw [q2] at P_ha15
  rw [v1] at t0
  have hp := (tk_b (tl := tl) (q1 ▸ (tk_b (tl := tl) hp).2.2.2.1 : p1 ≤ ts)).2.2.2.1
  rw [q2] at hp
  have P := (⟨eQ_tok P.1 f_ha15 (fun k a b c d _ => g_ha15 k a b c d), P_ha15⟩ : eP hi0 ha15 X T n R tl ts p2 st)
  obtain ⟨⟨S, O, H, HR, FQ, K30⟩, HP⟩ := id P
  show lm_wp _ 164 9 [.ref 123, lm_jk] [.int 1] (ha15, hl, X) _
  refine w_if_eq_f (t := 44) rfl rfl (by decide) ?_
  refine w_N 4 17 [.ref 123, lm_jk] [.int 7, .int 0, .int 1, .ref 123] rfl ?_
  refine w_ca (w_vst rfl rfl rfl (Nat.le_of_ble_eq_true rfl) (Nat.le_of_ble_eq_true rfl) (M_kd S)) (m_numT (d := d + 27) (i := 1) S O.2 hts hp HP rfl (by decide) n2) ?_
  rintro _ _ ⟨hb16, rfl, rfl, P_hb16, t1, u_hb16, f_hb16, g_hb16⟩
  have t0 := (u_hb16 0 (by decide)).trans t0
  rw [v2] at t1
  rw [q3] at P_hb16
  have hp := (tk_b (tl := tl) hp).2.2.2.1
  rw [q3] at hp
  have P := (⟨eQ_tok P.1 f_hb16 (fun k a b c d _ => g_hb16 k a b c d), P_hb16⟩ : eP hi0 hb16 X T n R tl ts p3 st)
  obtain ⟨⟨S, O, H, HR, FQ, K30⟩, HP⟩ := id P
  show lm_wp _ 164 20 [.ref 123, lm_jk] [.int 1] (hb16, hl, X) _
  refine w_if_eq_f (t := 44) rfl rfl (by decide) ?_
  refine w_N 4 27 [.ref 123, lm_jk] [.int 3, .int 0, .int 2, .ref 123] rfl ?_
  refine w_ca (w_vst rfl rfl rfl (Nat.le_of_ble_eq_true rfl) (Nat.le_of_ble_eq_true rfl) (M_kd S)) (m_numT (d := d + 27) (i := 2) S O.2 hts hp HP rfl (by decide) n3) ?_
  rintro _ _ ⟨hb17, rfl, rfl, P_hb17, t2, u_hb17, f_hb17, g_hb17⟩
  have t0 := (u_hb17 0 (by decide)).trans t0
  have t1 := (u_hb17 1 (by decide)).trans t1
  rw [v3] at t2
  rw [q4] at P_hb17
  have hp := (tk_b (tl := tl) hp).2.2.2.1
  rw [q4] at hp
  have P := (⟨eQ_tok P.1 f_hb17 (fun k a b c d _ => g_hb17 k a b c d), P_hb17⟩ : eP hi0 hb17 X T n R tl ts p4 st)
  obtain ⟨⟨S, O, H, HR, FQ, K30⟩, HP⟩ := id P
  show lm_wp _ 164 30 [.ref 123, lm_jk] [.int 1] (hb17, hl, X) _
  refine w_if_eq_f (t := 44) rfl rfl (by decide) ?_
  refine w_N 4 38 [.ref 123, lm_jk] [.int 9, .int 1, .int 3, .ref 123] rfl ?_
  refine w_ca (w_vst rfl rfl rfl (Nat.le_of_ble_eq_true rfl) (Nat.le_of_ble_eq_true rfl) (M_kd S)) (m_numT (d := d + 27) (i := 3) S O.2 hts hp HP rfl (by decide) n4) ?_
  rintro _ _ ⟨hb18, rfl, rfl, P_hb18, t3, u_hb18, f_hb18, g_hb18⟩
  have t0 := (u_hb18 0 (by decide)).trans t0
  have t1 := (u_hb18 1 (by decide)).trans t1
  have t2 := (u_hb18 2 (by decide)).trans t2
  rw [v4] at t3
  rw [q5] at P_hb18
  have hp := (tk_b (tl := tl) hp).2.2.2.1
  rw [q5] at hp
  have P := (⟨eQ_tok P.1 f_hb18 (fun k a b c d _ => g_hb18 k a b c d), P_hb18⟩ : eP hi0 hb18 X T n R tl ts p5 st)
  obtain ⟨⟨S, O, H, HR, FQ, K30⟩, HP⟩ := id P
  show lm_wp _ 164 41 [.ref 123, lm_jk] [.int 1] (hb18, hl, X) _
  refine w_if_ne_t (t := 46) rfl rfl (by decide) ?_
  refine w_N 2 48 [.ref 123, lm_jk] [.ref 123, .ref 123] rfl ?_
  refine w_gr 158 rfl rfl rfl (M_kd S) (M_r S (k := 29) (o := 35) rfl) ?_
  refine w_N 1 52 [.ref 123, lm_jk] [.int 0, .ref 158, .ref 123] rfl ?_
  refine w_ia 0 (v := nI a0) rfl (show X.2.1 (158) = 1 from M_k S 35 (by decide)) (show X.2.2.1 (158) = 4 from M_l S 35 (by decide)) rfl (by decide) (by decide) (t0) ?_
  refine w_N 1 54 [.ref 123, lm_jk] [.ref 123, .int (nI a0), .ref 123] rfl ?_
  refine w_gr 158 rfl rfl rfl (M_kd S) (M_r S (k := 29) (o := 35) rfl) ?_
  refine w_N 1 58 [.ref 123, lm_jk] [.int 1, .ref 158, .int (nI a0), .ref 123] rfl ?_
  refine w_ia 1 (v := nI a1) rfl (show X.2.1 (158) = 1 from M_k S 35 (by decide)) (show X.2.2.1 (158) = 4 from M_l S 35 (by decide)) rfl (by decide) (by decide) (t1) ?_
  refine w_N 1 60 [.ref 123, lm_jk] [.ref 123, .int (nI a1), .int (nI a0), .ref 123] rfl ?_
  refine w_gr 158 rfl rfl rfl (M_kd S) (M_r S (k := 29) (o := 35) rfl) ?_
  refine w_N 1 64 [.ref 123, lm_jk] [.int 2, .ref 158, .int (nI a1), .int (nI a0), .ref 123] rfl ?_
  refine w_ia 2 (v := nI a2) rfl (show X.2.1 (158) = 1 from M_k S 35 (by decide)) (show X.2.2.1 (158) = 4 from M_l S 35 (by decide)) rfl (by decide) (by decide) (t2) ?_
  refine w_N 1 66 [.ref 123, lm_jk] [.ref 123, .int (nI a2), .int (nI a1), .int (nI a0), .ref 123] rfl ?_
  refine w_gr 158 rfl rfl rfl (M_kd S) (M_r S (k := 29) (o := 35) rfl) ?_
  refine w_N 1 70 [.ref 123, lm_jk] [.int 3, .ref 158, .int (nI a2), .int (nI a1), .int (nI a0), .ref 123] rfl ?_
  refine w_ia 3 (v := nI a3) rfl (show X.2.1 (158) = 1 from M_k S 35 (by decide)) (show X.2.2.1 (158) = 4 from M_l S 35 (by decide)) rfl (by decide) (by decide) (t3) ?_
  refine w_N 2 73 [.ref 123, lm_jk] [.int 0, .int 0, .int (nI a3), .int (nI a2), .int (nI a1), .int (nI a0), .ref 123] rfl ?_
  refine w_ca (w_vst rfl rfl rfl (Nat.le_of_ble_eq_true rfl) (Nat.le_of_ble_eq_true rfl) (M_kd S)) (m_act0 (d := d + 19) P hts hp g0 g1 g2 g3 g3b hn) ?_
  rintro _ _ ⟨h9x, rfl, rfl, P, -⟩
  show lm_wp _ 164 76 [.ref 123, lm_jk] [.int (nI n)] (h9x, hl, X) _
  refine w_N 1 77 [.ref 123, .int (nI n)] [] rfl ?_
  refine y_mb1 (d := d + 10) hts hn ts p5 _ 0 (by omega) hp P (fun b1_ h2x P => ?_) (fun b1_ h2x Q2 k28 => ?_)
  · have hp := mb_le (tl := tl) (wL := wL1) p5 hp
    rw [d1, q6] at P
    rw [q6] at hp
    refine y_mb2 (d := d + 10) hts hn ts p6 _ 0 (by omega) hp P (fun b2_ h3x P => ?_) (fun b2_ h3x Q3 k28 => ?_)
    · exact absurd b2_ (by rw [b2]; decide)
    · exact ⟨rfl, _, rfl, Q3, k28⟩
  · exact absurd b1_ (by rw [b1]; decide)
theorem y_aT {d : Nat} {hi : Nat → Nat → Int32} {hl : Nat → Nat → Int64} {X : lm_X} {hi0 : Nat → Nat → Int32} {T : lm_T} {n : Nat} {R : Nat → Int32} {tl : Nat → Int32} {ts p : Nat} {st : Int32} (P : eP hi0 hi X T n R tl ts p st) (hts : ts ≤ 250) (hp : p ≤ ts) {p1 p2 p3 p4 p5 : Nat} (q1 : tkE tl ts p = p1) (q2 : tkE tl ts p1 = p2) (q3 : tkE tl ts p2 = p3) (q4 : tkE tl ts p3 = p4) (q5 : tkE tl ts p4 = p5) (w0 : wdq tl ts p wL0 = true) (hn : n < 10) {a0 : Nat} (g0 : a0 ≤ 5) (n1 : nmO tl ts p1 0 5 = true) (v1 : fgI tl ts p1 = nI a0) {a1 : Nat} (g1 : a1 ≤ 7) (n2 : nmO tl ts p2 0 7 = true) (v2 : fgI tl ts p2 = nI a1) {a2 : Nat} (g2 : a2 ≤ 3) (n3 : nmO tl ts p3 0 3 = true) (v3 : fgI tl ts p3 = nI a2) {a3 : Nat} (g3 : 1 ≤ a3) (g3b : a3 ≤ 9) (n4 : nmO tl ts p4 1 9 = true) (v4 : fgI tl ts p4 = nI a3) {p6 e1 : Nat} (w1_ : e1 < 256) (b1 : (mbS tl ts wL1 ts p5 0).1 = true) (d1 : (mbS tl ts wL1 ts p5 0).2.1 = nI e1) (q6 : (mbS tl ts wL1 ts p5 0).2.2 = p6) {p7 e2 : Nat} (w2_ : e2 < 256) (b2 : (mbS tl ts wL2 ts p6 0).1 = true) (d2 : (mbS tl ts wL2 ts p6 0).2.1 = nI e2) (q7 : (mbS tl ts wL2 ts p6 0).2.2 = p7) : lm_w (d + 30) 164 [.ref 123] (hi, hl, X) (eT hi0 hl X (adT T n (nI a0) (nI a1) (nI a2) (nI a3) (nI e1) (nI e2)) (n + 1) R tl ts p7 st) := by
  obtain ⟨⟨S, O, H, HR, FQ, K30⟩, HP⟩ := id P
  refine lm_w_in (Nat.le_of_ble_eq_true rfl) ?_
  show lm_wp (d + 30) 164 0 [.ref 123, lm_jk] [] (hi, hl, X) _
  refine w_N 5 6 [.ref 123, lm_jk] [.int 5, .int 0, .int 0, .ref 12, .ref 123] rfl ?_
  refine w_ca (w_vst rfl rfl rfl (Nat.le_of_ble_eq_true rfl) (Nat.le_of_ble_eq_true rfl) (M_kd S)) (m_tellsT0 (d := d + 25) (j := 0) S O.2 hts hp HP w0 rfl (by decide) (by rw [q1]; exact n1)) ?_
  rintro _ _ ⟨ha19, rfl, rfl, P_ha19, t0, u_ha19, f_ha19, g_ha19⟩
  rw [q1] at P_ha19 t0
  rw [q2] at P_ha19
  rw [v1] at t0
  have hp := (tk_b (tl := tl) (q1 ▸ (tk_b (tl := tl) hp).2.2.2.1 : p1 ≤ ts)).2.2.2.1
  rw [q2] at hp
  have P := (⟨eQ_tok P.1 f_ha19 (fun k a b c d _ => g_ha19 k a b c d), P_ha19⟩ : eP hi0 ha19 X T n R tl ts p2 st)
  obtain ⟨⟨S, O, H, HR, FQ, K30⟩, HP⟩ := id P
  show lm_wp _ 164 9 [.ref 123, lm_jk] [.int 1] (ha19, hl, X) _
  refine w_if_eq_f (t := 44) rfl rfl (by decide) ?_
  refine w_N 4 17 [.ref 123, lm_jk] [.int 7, .int 0, .int 1, .ref 123] rfl ?_
  refine w_ca (w_vst rfl rfl rfl (Nat.le_of_ble_eq_true rfl) (Nat.le_of_ble_eq_true rfl) (M_kd S)) (m_numT (d := d + 27) (i := 1) S O.2 hts hp HP rfl (by decide) n2) ?_
  rintro _ _ ⟨hb20, rfl, rfl, P_hb20, t1, u_hb20, f_hb20, g_hb20⟩
  have t0 := (u_hb20 0 (by decide)).trans t0
  rw [v2] at t1
  rw [q3] at P_hb20
  have hp := (tk_b (tl := tl) hp).2.2.2.1
  rw [q3] at hp
  have P := (⟨eQ_tok P.1 f_hb20 (fun k a b c d _ => g_hb20 k a b c d), P_hb20⟩ : eP hi0 hb20 X T n R tl ts p3 st)
  obtain ⟨⟨S, O, H, HR, FQ, K30⟩, HP⟩ := id P
  show lm_wp _ 164 20 [.ref 123, lm_jk] [.int 1] (hb20, hl, X) _
  refine w_if_eq_f (t := 44) rfl rfl (by decide) ?_
  refine w_N 4 27 [.ref 123, lm_jk] [.int 3, .int 0, .int 2, .ref 123] rfl ?_
  refine w_ca (w_vst rfl rfl rfl (Nat.le_of_ble_eq_true rfl) (Nat.le_of_ble_eq_true rfl) (M_kd S)) (m_numT (d := d + 27) (i := 2) S O.2 hts hp HP rfl (by decide) n3) ?_
  rintro _ _ ⟨hb21, rfl, rfl, P_hb21, t2, u_hb21, f_hb21, g_hb21⟩
  have t0 := (u_hb21 0 (by decide)).trans t0
  have t1 := (u_hb21 1 (by decide)).trans t1
  rw [v3] at t2
  rw [q4] at P_hb21
  have hp := (tk_b (tl := tl) hp).2.2.2.1
  rw [q4] at hp
  have P := (⟨eQ_tok P.1 f_hb21 (fun k a b c d _ => g_hb21 k a b c d), P_hb21⟩ : eP hi0 hb21 X T n R tl ts p4 st)
  obtain ⟨⟨S, O, H, HR, FQ, K30⟩, HP⟩ := id P
  show lm_wp _ 164 30 [.ref 123, lm_jk] [.int 1] (hb21, hl, X) _
  refine w_if_eq_f (t := 44) rfl rfl (by decide) ?_
  refine w_N 4 38 [.ref 123, lm_jk] [.int 9, .int 1, .int 3, .ref 123] rfl ?_
  refine w_ca (w_vst rfl rfl rfl (Nat.le_of_ble_eq_true rfl) (Nat.le_of_ble_eq_true rfl) (M_kd S)) (m_numT (d := d + 27) (i := 3) S O.2 hts hp HP rfl (by decide) n4) ?_
  rintro _ _ ⟨hb22, rfl, rfl, P_hb22, t3, u_hb22, f_hb22, g_hb22⟩
  have t0 := (u_hb22 0 (by decide)).trans t0
  have t1 := (u_hb22 1 (by decide)).trans t1
  have t2 := (u_hb22 2 (by decide)).trans t2
  rw [v4] at t3
  rw [q5] at P_hb22
  have hp := (tk_b (tl := tl) hp).2.2.2.1
  rw [q5] at hp
  have P := (⟨eQ_tok P.1 f_hb22 (fun k a b c d _ => g_hb22 k a b c d), P_hb22⟩ : eP hi0 hb22 X T n R tl ts p5 st)
  obtain ⟨⟨S, O, H, HR, FQ, K30⟩, HP⟩ := id P
  show lm_wp _ 164 41 [.ref 123, lm_jk] [.int 1] (hb22, hl, X) _
  refine w_if_ne_t (t := 46) rfl rfl (by decide) ?_
  refine w_N 2 48 [.ref 123, lm_jk] [.ref 123, .ref 123] rfl ?_
  refine w_gr 158 rfl rfl rfl (M_kd S) (M_r S (k := 29) (o := 35) rfl) ?_
  refine w_N 1 52 [.ref 123, lm_jk] [.int 0, .ref 158, .ref 123] rfl ?_
  refine w_ia 0 (v := nI a0) rfl (show X.2.1 (158) = 1 from M_k S 35 (by decide)) (show X.2.2.1 (158) = 4 from M_l S 35 (by decide)) rfl (by decide) (by decide) (t0) ?_
  refine w_N 1 54 [.ref 123, lm_jk] [.ref 123, .int (nI a0), .ref 123] rfl ?_
  refine w_gr 158 rfl rfl rfl (M_kd S) (M_r S (k := 29) (o := 35) rfl) ?_
  refine w_N 1 58 [.ref 123, lm_jk] [.int 1, .ref 158, .int (nI a0), .ref 123] rfl ?_
  refine w_ia 1 (v := nI a1) rfl (show X.2.1 (158) = 1 from M_k S 35 (by decide)) (show X.2.2.1 (158) = 4 from M_l S 35 (by decide)) rfl (by decide) (by decide) (t1) ?_
  refine w_N 1 60 [.ref 123, lm_jk] [.ref 123, .int (nI a1), .int (nI a0), .ref 123] rfl ?_
  refine w_gr 158 rfl rfl rfl (M_kd S) (M_r S (k := 29) (o := 35) rfl) ?_
  refine w_N 1 64 [.ref 123, lm_jk] [.int 2, .ref 158, .int (nI a1), .int (nI a0), .ref 123] rfl ?_
  refine w_ia 2 (v := nI a2) rfl (show X.2.1 (158) = 1 from M_k S 35 (by decide)) (show X.2.2.1 (158) = 4 from M_l S 35 (by decide)) rfl (by decide) (by decide) (t2) ?_
  refine w_N 1 66 [.ref 123, lm_jk] [.ref 123, .int (nI a2), .int (nI a1), .int (nI a0), .ref 123] rfl ?_
  refine w_gr 158 rfl rfl rfl (M_kd S) (M_r S (k := 29) (o := 35) rfl) ?_
  refine w_N 1 70 [.ref 123, lm_jk] [.int 3, .ref 158, .int (nI a2), .int (nI a1), .int (nI a0), .ref 123] rfl ?_
  refine w_ia 3 (v := nI a3) rfl (show X.2.1 (158) = 1 from M_k S 35 (by decide)) (show X.2.2.1 (158) = 4 from M_l S 35 (by decide)) rfl (by decide) (by decide) (t3) ?_
  refine w_N 2 73 [.ref 123, lm_jk] [.int 0, .int 0, .int (nI a3), .int (nI a2), .int (nI a1), .int (nI a0), .ref 123] rfl ?_
  refine w_ca (w_vst rfl rfl rfl (Nat.le_of_ble_eq_true rfl) (Nat.le_of_ble_eq_true rfl) (M_kd S)) (m_act0 (d := d + 19) P hts hp g0 g1 g2 g3 g3b hn) ?_
  rintro _ _ ⟨h9x, rfl, rfl, P, -⟩
  show lm_wp _ 164 76 [.ref 123, lm_jk] [.int (nI n)] (h9x, hl, X) _
  refine w_N 1 77 [.ref 123, .int (nI n)] [] rfl ?_
  refine y_mb1 (d := d + 10) hts hn ts p5 _ 0 (by omega) hp P (fun b1_ h2x P => ?_) (fun b1_ h2x Q2 k28 => ?_)
  · have hp := mb_le (tl := tl) (wL := wL1) p5 hp
    rw [d1, q6] at P
    rw [q6] at hp
    refine y_mb2 (d := d + 10) hts hn ts p6 _ 0 (by omega) hp P (fun b2_ h3x P => ?_) (fun b2_ h3x Q3 k28 => ?_)
    · rw [d2, q7] at P
      refine w_N 1 170 _ [.int 1] rfl ?_
      refine w_rz rfl rfl (by decide) ?_
      exact ⟨rfl, _, rfl, P⟩
    · exact absurd b2_ (by rw [b2]; decide)
  · exact absurd b1_ (by rw [b1]; decide)
theorem y_rs0 {d : Nat} {hi : Nat → Nat → Int32} {hl : Nat → Nat → Int64} {X : lm_X} {hi0 : Nat → Nat → Int32} {T : lm_T} {n : Nat} {R : Nat → Int32} {tl : Nat → Int32} {ts p : Nat} {st : Int32} (P : eP hi0 hi X T n R tl ts p st) (hts : ts ≤ 250) (hp : p ≤ ts) (w0 : wdq tl ts p wL0 = true) (hn : n < 10) {Po : Bool → lm_H → Prop} (hs : lm_w (d + 39) 164 [.ref 123] (hi, hl, X) (fun v h1 => ∃ b, v = some (.int (bz b)) ∧ Po b h1)) : lm_w (d + 40) 166 [.ref 123] (hi, hl, X) (fun v h1 => ∃ b, v = some (.int (bz b)) ∧ Po b h1) := by
  obtain ⟨⟨S, O, H, HR, FQ, K30⟩, HP⟩ := id P
  refine lm_w_in (Nat.le_of_ble_eq_true rfl) ?_
  show lm_wp (d + 40) 166 0 [.ref 123, lm_jk] [] (hi, hl, X) _
  refine w_N 2 3 [.ref 123, lm_jk] [.ref 12, .ref 123] rfl ?_
  refine w_cc (w_vst rfl rfl rfl (Nat.le_of_ble_eq_true rfl) (Nat.le_of_ble_eq_true rfl) (M_kd S)) (lm_c_1 (m_isWord0 (d := d + 37) S O.2 hts hp HP) w0) ?_
  show lm_wp _ 166 6 [.ref 123, lm_jk] [.int 1] (hi, hl, X) _
  refine w_if_eq_f (t := 23) rfl rfl (by decide) ?_
  refine w_N 1 10 [.ref 123, lm_jk] [.ref 123] rfl ?_
  refine w_gi (v := nI n) rfl rfl rfl (M_kd S) (rTn H) ?_
  refine w_N 1 15 [.ref 123, lm_jk] [.int 10, .int (nI n)] rfl ?_
  refine w_icmp_ge_f (t := 23) rfl rfl (nI_lt (b := 10) hn (by decide)) ?_
  refine w_N 1 19 [.ref 123, lm_jk] [.ref 123] rfl ?_
  refine w_ca (w_vst rfl rfl rfl (Nat.le_of_ble_eq_true rfl) (Nat.le_of_ble_eq_true rfl) (M_kd S)) hs ?_
  rintro _ h1 ⟨b, rfl, q⟩
  show lm_wp _ 166 22 [.ref 123, lm_jk] [.int (bz b)] h1 _
  refine w_rz rfl rfl (bz_or _) ?_
  exact ⟨b, rfl, q⟩
theorem y_rs5 {d : Nat} {hi : Nat → Nat → Int32} {hl : Nat → Nat → Int64} {X : lm_X} {hi0 : Nat → Nat → Int32} {T : lm_T} {n : Nat} {R : Nat → Int32} {tl : Nat → Int32} {ts p : Nat} {st : Int32} (P : eP hi0 hi X T n R tl ts p st) (hts : ts ≤ 250) (hp : p ≤ ts) (w0 : wdq tl ts p wL0 = false) (w3 : wdq tl ts p wL3 = false) (w4 : wdq tl ts p wL4 = false) (w5 : wdq tl ts p wL5 = true) {Po : Bool → lm_H → Prop} (hs : lm_w (d + 39) 165 [.ref 123, .ref 17, .int 1, .int 1] (hi, hl, X) (fun v h1 => ∃ b, v = some (.int (bz b)) ∧ Po b h1)) : lm_w (d + 40) 166 [.ref 123] (hi, hl, X) (fun v h1 => ∃ b, v = some (.int (bz b)) ∧ Po b h1) := by
  obtain ⟨⟨S, O, H, HR, FQ, K30⟩, HP⟩ := id P
  refine lm_w_in (Nat.le_of_ble_eq_true rfl) ?_
  show lm_wp (d + 40) 166 0 [.ref 123, lm_jk] [] (hi, hl, X) _
  refine w_N 2 3 [.ref 123, lm_jk] [.ref 12, .ref 123] rfl ?_
  refine w_cc (w_vst rfl rfl rfl (Nat.le_of_ble_eq_true rfl) (Nat.le_of_ble_eq_true rfl) (M_kd S)) (lm_c_v (m_isWord0 (d := d + 37) S O.2 hts hp HP) (c_eqz w0)) ?_
  show lm_wp _ 166 6 [.ref 123, lm_jk] [.int 0] (hi, hl, X) _
  refine w_if_eq_t (t := 23) rfl rfl (by decide) ?_
  refine w_N 2 26 [.ref 123, lm_jk] [.ref 15, .ref 123] rfl ?_
  refine w_cc (w_vst rfl rfl rfl (Nat.le_of_ble_eq_true rfl) (Nat.le_of_ble_eq_true rfl) (M_kd S)) (lm_c_v (m_isWord3 (d := d + 37) S O.2 hts hp HP) (c_eqz w3)) ?_
  show lm_wp _ 166 29 [.ref 123, lm_jk] [.int 0] (hi, hl, X) _
  refine w_if_eq_t (t := 70) rfl rfl (by decide) ?_
  refine w_N 2 73 [.ref 123, lm_jk] [.ref 16, .ref 123] rfl ?_
  refine w_cc (w_vst rfl rfl rfl (Nat.le_of_ble_eq_true rfl) (Nat.le_of_ble_eq_true rfl) (M_kd S)) (lm_c_v (m_isWord4 (d := d + 37) S O.2 hts hp HP) (c_eqz w4)) ?_
  show lm_wp _ 166 76 [.ref 123, lm_jk] [.int 0] (hi, hl, X) _
  refine w_if_eq_t (t := 123) rfl rfl (by decide) ?_
  refine w_N 2 126 [.ref 123, lm_jk] [.ref 17, .ref 123] rfl ?_
  refine w_cc (w_vst rfl rfl rfl (Nat.le_of_ble_eq_true rfl) (Nat.le_of_ble_eq_true rfl) (M_kd S)) (lm_c_1 (m_isWord5 (d := d + 37) S O.2 hts hp HP) w5) ?_
  show lm_wp _ 166 129 [.ref 123, lm_jk] [.int 1] (hi, hl, X) _
  refine w_if_eq_f (t := 141) rfl rfl (by decide) ?_
  refine w_N 4 137 [.ref 123, lm_jk] [.int 1, .int 1, .ref 17, .ref 123] rfl ?_
  refine w_ca (w_vst rfl rfl rfl (Nat.le_of_ble_eq_true rfl) (Nat.le_of_ble_eq_true rfl) (M_kd S)) hs ?_
  rintro _ h1 ⟨b, rfl, q⟩
  show lm_wp _ 166 140 [.ref 123, lm_jk] [.int (bz b)] h1 _
  refine w_rz rfl rfl (bz_or _) ?_
  exact ⟨b, rfl, q⟩
theorem y_rs6 {d : Nat} {hi : Nat → Nat → Int32} {hl : Nat → Nat → Int64} {X : lm_X} {hi0 : Nat → Nat → Int32} {T : lm_T} {n : Nat} {R : Nat → Int32} {tl : Nat → Int32} {ts p : Nat} {st : Int32} (P : eP hi0 hi X T n R tl ts p st) (hts : ts ≤ 250) (hp : p ≤ ts) (w0 : wdq tl ts p wL0 = false) (w3 : wdq tl ts p wL3 = false) (w4 : wdq tl ts p wL4 = false) (w5 : wdq tl ts p wL5 = false) (w6 : wdq tl ts p wL6 = true) {Po : Bool → lm_H → Prop} (hs : lm_w (d + 39) 165 [.ref 123, .ref 18, .int 1, .int (-1)] (hi, hl, X) (fun v h1 => ∃ b, v = some (.int (bz b)) ∧ Po b h1)) : lm_w (d + 40) 166 [.ref 123] (hi, hl, X) (fun v h1 => ∃ b, v = some (.int (bz b)) ∧ Po b h1) := by
  obtain ⟨⟨S, O, H, HR, FQ, K30⟩, HP⟩ := id P
  refine lm_w_in (Nat.le_of_ble_eq_true rfl) ?_
  show lm_wp (d + 40) 166 0 [.ref 123, lm_jk] [] (hi, hl, X) _
  refine w_N 2 3 [.ref 123, lm_jk] [.ref 12, .ref 123] rfl ?_
  refine w_cc (w_vst rfl rfl rfl (Nat.le_of_ble_eq_true rfl) (Nat.le_of_ble_eq_true rfl) (M_kd S)) (lm_c_v (m_isWord0 (d := d + 37) S O.2 hts hp HP) (c_eqz w0)) ?_
  show lm_wp _ 166 6 [.ref 123, lm_jk] [.int 0] (hi, hl, X) _
  refine w_if_eq_t (t := 23) rfl rfl (by decide) ?_
  refine w_N 2 26 [.ref 123, lm_jk] [.ref 15, .ref 123] rfl ?_
  refine w_cc (w_vst rfl rfl rfl (Nat.le_of_ble_eq_true rfl) (Nat.le_of_ble_eq_true rfl) (M_kd S)) (lm_c_v (m_isWord3 (d := d + 37) S O.2 hts hp HP) (c_eqz w3)) ?_
  show lm_wp _ 166 29 [.ref 123, lm_jk] [.int 0] (hi, hl, X) _
  refine w_if_eq_t (t := 70) rfl rfl (by decide) ?_
  refine w_N 2 73 [.ref 123, lm_jk] [.ref 16, .ref 123] rfl ?_
  refine w_cc (w_vst rfl rfl rfl (Nat.le_of_ble_eq_true rfl) (Nat.le_of_ble_eq_true rfl) (M_kd S)) (lm_c_v (m_isWord4 (d := d + 37) S O.2 hts hp HP) (c_eqz w4)) ?_
  show lm_wp _ 166 76 [.ref 123, lm_jk] [.int 0] (hi, hl, X) _
  refine w_if_eq_t (t := 123) rfl rfl (by decide) ?_
  refine w_N 2 126 [.ref 123, lm_jk] [.ref 17, .ref 123] rfl ?_
  refine w_cc (w_vst rfl rfl rfl (Nat.le_of_ble_eq_true rfl) (Nat.le_of_ble_eq_true rfl) (M_kd S)) (lm_c_v (m_isWord5 (d := d + 37) S O.2 hts hp HP) (c_eqz w5)) ?_
  show lm_wp _ 166 129 [.ref 123, lm_jk] [.int 0] (hi, hl, X) _
  refine w_if_eq_t (t := 141) rfl rfl (by decide) ?_
  refine w_N 2 144 [.ref 123, lm_jk] [.ref 18, .ref 123] rfl ?_
  refine w_cc (w_vst rfl rfl rfl (Nat.le_of_ble_eq_true rfl) (Nat.le_of_ble_eq_true rfl) (M_kd S)) (lm_c_1 (m_isWord6 (d := d + 37) S O.2 hts hp HP) w6) ?_
  show lm_wp _ 166 147 [.ref 123, lm_jk] [.int 1] (hi, hl, X) _
  refine w_if_eq_f (t := 159) rfl rfl (by decide) ?_
  refine w_N 4 155 [.ref 123, lm_jk] [.int (-1), .int 1, .ref 18, .ref 123] rfl ?_
  refine w_ca (w_vst rfl rfl rfl (Nat.le_of_ble_eq_true rfl) (Nat.le_of_ble_eq_true rfl) (M_kd S)) hs ?_
  rintro _ h1 ⟨b, rfl, q⟩
  show lm_wp _ 166 158 [.ref 123, lm_jk] [.int (bz b)] h1 _
  refine w_rz rfl rfl (bz_or _) ?_
  exact ⟨b, rfl, q⟩
theorem y_rs7 {d : Nat} {hi : Nat → Nat → Int32} {hl : Nat → Nat → Int64} {X : lm_X} {hi0 : Nat → Nat → Int32} {T : lm_T} {n : Nat} {R : Nat → Int32} {tl : Nat → Int32} {ts p : Nat} {st : Int32} (P : eP hi0 hi X T n R tl ts p st) (hts : ts ≤ 250) (hp : p ≤ ts) (w0 : wdq tl ts p wL0 = false) (w3 : wdq tl ts p wL3 = false) (w4 : wdq tl ts p wL4 = false) (w5 : wdq tl ts p wL5 = false) (w6 : wdq tl ts p wL6 = false) (w7 : wdq tl ts p wL7 = true) {Po : Bool → lm_H → Prop} (hs : lm_w (d + 39) 165 [.ref 123, .ref 19, .int 0, .int 1] (hi, hl, X) (fun v h1 => ∃ b, v = some (.int (bz b)) ∧ Po b h1)) : lm_w (d + 40) 166 [.ref 123] (hi, hl, X) (fun v h1 => ∃ b, v = some (.int (bz b)) ∧ Po b h1) := by
  obtain ⟨⟨S, O, H, HR, FQ, K30⟩, HP⟩ := id P
  refine lm_w_in (Nat.le_of_ble_eq_true rfl) ?_
  show lm_wp (d + 40) 166 0 [.ref 123, lm_jk] [] (hi, hl, X) _
  refine w_N 2 3 [.ref 123, lm_jk] [.ref 12, .ref 123] rfl ?_
  refine w_cc (w_vst rfl rfl rfl (Nat.le_of_ble_eq_true rfl) (Nat.le_of_ble_eq_true rfl) (M_kd S)) (lm_c_v (m_isWord0 (d := d + 37) S O.2 hts hp HP) (c_eqz w0)) ?_
  show lm_wp _ 166 6 [.ref 123, lm_jk] [.int 0] (hi, hl, X) _
  refine w_if_eq_t (t := 23) rfl rfl (by decide) ?_
  refine w_N 2 26 [.ref 123, lm_jk] [.ref 15, .ref 123] rfl ?_
  refine w_cc (w_vst rfl rfl rfl (Nat.le_of_ble_eq_true rfl) (Nat.le_of_ble_eq_true rfl) (M_kd S)) (lm_c_v (m_isWord3 (d := d + 37) S O.2 hts hp HP) (c_eqz w3)) ?_
  show lm_wp _ 166 29 [.ref 123, lm_jk] [.int 0] (hi, hl, X) _
  refine w_if_eq_t (t := 70) rfl rfl (by decide) ?_
  refine w_N 2 73 [.ref 123, lm_jk] [.ref 16, .ref 123] rfl ?_
  refine w_cc (w_vst rfl rfl rfl (Nat.le_of_ble_eq_true rfl) (Nat.le_of_ble_eq_true rfl) (M_kd S)) (lm_c_v (m_isWord4 (d := d + 37) S O.2 hts hp HP) (c_eqz w4)) ?_
  show lm_wp _ 166 76 [.ref 123, lm_jk] [.int 0] (hi, hl, X) _
  refine w_if_eq_t (t := 123) rfl rfl (by decide) ?_
  refine w_N 2 126 [.ref 123, lm_jk] [.ref 17, .ref 123] rfl ?_
  refine w_cc (w_vst rfl rfl rfl (Nat.le_of_ble_eq_true rfl) (Nat.le_of_ble_eq_true rfl) (M_kd S)) (lm_c_v (m_isWord5 (d := d + 37) S O.2 hts hp HP) (c_eqz w5)) ?_
  show lm_wp _ 166 129 [.ref 123, lm_jk] [.int 0] (hi, hl, X) _
  refine w_if_eq_t (t := 141) rfl rfl (by decide) ?_
  refine w_N 2 144 [.ref 123, lm_jk] [.ref 18, .ref 123] rfl ?_
  refine w_cc (w_vst rfl rfl rfl (Nat.le_of_ble_eq_true rfl) (Nat.le_of_ble_eq_true rfl) (M_kd S)) (lm_c_v (m_isWord6 (d := d + 37) S O.2 hts hp HP) (c_eqz w6)) ?_
  show lm_wp _ 166 147 [.ref 123, lm_jk] [.int 0] (hi, hl, X) _
  refine w_if_eq_t (t := 159) rfl rfl (by decide) ?_
  refine w_N 2 162 [.ref 123, lm_jk] [.ref 19, .ref 123] rfl ?_
  refine w_cc (w_vst rfl rfl rfl (Nat.le_of_ble_eq_true rfl) (Nat.le_of_ble_eq_true rfl) (M_kd S)) (lm_c_1 (m_isWord7 (d := d + 37) S O.2 hts hp HP) w7) ?_
  show lm_wp _ 166 165 [.ref 123, lm_jk] [.int 1] (hi, hl, X) _
  refine w_if_eq_f (t := 177) rfl rfl (by decide) ?_
  refine w_N 4 173 [.ref 123, lm_jk] [.int 1, .int 0, .ref 19, .ref 123] rfl ?_
  refine w_ca (w_vst rfl rfl rfl (Nat.le_of_ble_eq_true rfl) (Nat.le_of_ble_eq_true rfl) (M_kd S)) hs ?_
  rintro _ h1 ⟨b, rfl, q⟩
  show lm_wp _ 166 176 [.ref 123, lm_jk] [.int (bz b)] h1 _
  refine w_rz rfl rfl (bz_or _) ?_
  exact ⟨b, rfl, q⟩
theorem y_rs8 {d : Nat} {hi : Nat → Nat → Int32} {hl : Nat → Nat → Int64} {X : lm_X} {hi0 : Nat → Nat → Int32} {T : lm_T} {n : Nat} {R : Nat → Int32} {tl : Nat → Int32} {ts p : Nat} {st : Int32} (P : eP hi0 hi X T n R tl ts p st) (hts : ts ≤ 250) (hp : p ≤ ts) (w0 : wdq tl ts p wL0 = false) (w3 : wdq tl ts p wL3 = false) (w4 : wdq tl ts p wL4 = false) (w5 : wdq tl ts p wL5 = false) (w6 : wdq tl ts p wL6 = false) (w7 : wdq tl ts p wL7 = false) (w8 : wdq tl ts p wL8 = true) {Po : Bool → lm_H → Prop} (hs : lm_w (d + 39) 165 [.ref 123, .ref 20, .int 0, .int (-1)] (hi, hl, X) (fun v h1 => ∃ b, v = some (.int (bz b)) ∧ Po b h1)) : lm_w (d + 40) 166 [.ref 123] (hi, hl, X) (fun v h1 => ∃ b, v = some (.int (bz b)) ∧ Po b h1) := by
  obtain ⟨⟨S, O, H, HR, FQ, K30⟩, HP⟩ := id P
  refine lm_w_in (Nat.le_of_ble_eq_true rfl) ?_
  show lm_wp (d + 40) 166 0 [.ref 123, lm_jk] [] (hi, hl, X) _
  refine w_N 2 3 [.ref 123, lm_jk] [.ref 12, .ref 123] rfl ?_
  refine w_cc (w_vst rfl rfl rfl (Nat.le_of_ble_eq_true rfl) (Nat.le_of_ble_eq_true rfl) (M_kd S)) (lm_c_v (m_isWord0 (d := d + 37) S O.2 hts hp HP) (c_eqz w0)) ?_
  show lm_wp _ 166 6 [.ref 123, lm_jk] [.int 0] (hi, hl, X) _
  refine w_if_eq_t (t := 23) rfl rfl (by decide) ?_
  refine w_N 2 26 [.ref 123, lm_jk] [.ref 15, .ref 123] rfl ?_
  refine w_cc (w_vst rfl rfl rfl (Nat.le_of_ble_eq_true rfl) (Nat.le_of_ble_eq_true rfl) (M_kd S)) (lm_c_v (m_isWord3 (d := d + 37) S O.2 hts hp HP) (c_eqz w3)) ?_
  show lm_wp _ 166 29 [.ref 123, lm_jk] [.int 0] (hi, hl, X) _
  refine w_if_eq_t (t := 70) rfl rfl (by decide) ?_
  refine w_N 2 73 [.ref 123, lm_jk] [.ref 16, .ref 123] rfl ?_
  refine w_cc (w_vst rfl rfl rfl (Nat.le_of_ble_eq_true rfl) (Nat.le_of_ble_eq_true rfl) (M_kd S)) (lm_c_v (m_isWord4 (d := d + 37) S O.2 hts hp HP) (c_eqz w4)) ?_
  show lm_wp _ 166 76 [.ref 123, lm_jk] [.int 0] (hi, hl, X) _
  refine w_if_eq_t (t := 123) rfl rfl (by decide) ?_
  refine w_N 2 126 [.ref 123, lm_jk] [.ref 17, .ref 123] rfl ?_
  refine w_cc (w_vst rfl rfl rfl (Nat.le_of_ble_eq_true rfl) (Nat.le_of_ble_eq_true rfl) (M_kd S)) (lm_c_v (m_isWord5 (d := d + 37) S O.2 hts hp HP) (c_eqz w5)) ?_
  show lm_wp _ 166 129 [.ref 123, lm_jk] [.int 0] (hi, hl, X) _
  refine w_if_eq_t (t := 141) rfl rfl (by decide) ?_
  refine w_N 2 144 [.ref 123, lm_jk] [.ref 18, .ref 123] rfl ?_
  refine w_cc (w_vst rfl rfl rfl (Nat.le_of_ble_eq_true rfl) (Nat.le_of_ble_eq_true rfl) (M_kd S)) (lm_c_v (m_isWord6 (d := d + 37) S O.2 hts hp HP) (c_eqz w6)) ?_
  show lm_wp _ 166 147 [.ref 123, lm_jk] [.int 0] (hi, hl, X) _
  refine w_if_eq_t (t := 159) rfl rfl (by decide) ?_
  refine w_N 2 162 [.ref 123, lm_jk] [.ref 19, .ref 123] rfl ?_
  refine w_cc (w_vst rfl rfl rfl (Nat.le_of_ble_eq_true rfl) (Nat.le_of_ble_eq_true rfl) (M_kd S)) (lm_c_v (m_isWord7 (d := d + 37) S O.2 hts hp HP) (c_eqz w7)) ?_
  show lm_wp _ 166 165 [.ref 123, lm_jk] [.int 0] (hi, hl, X) _
  refine w_if_eq_t (t := 177) rfl rfl (by decide) ?_
  refine w_N 2 180 [.ref 123, lm_jk] [.ref 20, .ref 123] rfl ?_
  refine w_cc (w_vst rfl rfl rfl (Nat.le_of_ble_eq_true rfl) (Nat.le_of_ble_eq_true rfl) (M_kd S)) (lm_c_1 (m_isWord8 (d := d + 37) S O.2 hts hp HP) w8) ?_
  show lm_wp _ 166 183 [.ref 123, lm_jk] [.int 1] (hi, hl, X) _
  refine w_if_eq_f (t := 195) rfl rfl (by decide) ?_
  refine w_N 4 191 [.ref 123, lm_jk] [.int (-1), .int 0, .ref 20, .ref 123] rfl ?_
  refine w_ca (w_vst rfl rfl rfl (Nat.le_of_ble_eq_true rfl) (Nat.le_of_ble_eq_true rfl) (M_kd S)) hs ?_
  rintro _ h1 ⟨b, rfl, q⟩
  show lm_wp _ 166 194 [.ref 123, lm_jk] [.int (bz b)] h1 _
  refine w_rz rfl rfl (bz_or _) ?_
  exact ⟨b, rfl, q⟩
