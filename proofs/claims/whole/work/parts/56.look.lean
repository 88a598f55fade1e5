set_option maxRecDepth 16384
/-! the tape: look of the reference; texts; isWord -/
theorem lm_up_4 {α : Type} {f : Nat → Nat → α} {a j k : Nat} {x y x' y' : α} (h : j ≠ k) : lm_up (lm_up (lm_up (lm_up f a j x) a k y) a j x') a k y' = lm_up (lm_up f a j x') a k y' := by
  funext b i
  unfold lm_up
  by_cases h1 : b = a
  · by_cases h2 : i = k
    · simp [h1, h2]
    · by_cases h3 : i = j
      · simp [h1, h3, h]
      · simp [h1, h2, h3]
  · simp [h1]
theorem m_lk1 {d : Nat} {hi : Nat → Nat → Int32} {hl : Nat → Nat → Int64} {X : lm_X} {ts : Nat} {tl : Nat → Int32} (S : sh_M X 123) (hts : ts ≤ 250) (h8 : hi 123 8 = nI ts) (HL : ∀ i, i < ts → hi 139 i = tl i) {Po : Option Value → lm_H → Prop} : ∀ (r m : Nat), m + r = ts → (lm_wp d 159 38 [.ref 123] [] (lm_up hi 123 24 (nI (skS tl r m)), hl, X) Po) → lm_wp d 159 0 [.ref 123] [] (lm_up hi 123 24 (nI m), hl, X) Po := by
  intro r
  induction r with
  | zero =>
    intro m hm kc
    refine w_N 1 1 [.ref 123] [.ref 123] rfl ?_
    refine w_gi (v := nI m) rfl rfl rfl (M_kd S) (lm_up_eq) ?_
    refine w_N 1 5 [.ref 123] [.ref 123, .int (nI m)] rfl ?_
    refine w_gi (v := nI ts) rfl rfl rfl (M_kd S) ((lm_up_nk (by decide)).trans (h8)) ?_
    refine w_icmp_ge_t (t := 38) rfl rfl (by rw [show m = ts by omega]; exact fun z => Int32.lt_irrefl z) ?_
    exact kc
  | succ r ih =>
    intro m hm kc
    refine w_N 1 1 [.ref 123] [.ref 123] rfl ?_
    refine w_gi (v := nI m) rfl rfl rfl (M_kd S) (lm_up_eq) ?_
    refine w_N 1 5 [.ref 123] [.ref 123, .int (nI m)] rfl ?_
    refine w_gi (v := nI ts) rfl rfl rfl (M_kd S) ((lm_up_nk (by decide)).trans (h8)) ?_
    refine w_icmp_ge_f (t := 38) rfl rfl (nI_lt (by omega) (by omega)) ?_
    refine w_N 1 12 [.ref 123] [.ref 123] rfl ?_
    refine w_gr 139 rfl rfl rfl (M_kd S) (M_r S (k := 7) (o := 16) rfl) ?_
    refine w_N 1 16 [.ref 123] [.ref 123, .ref 139] rfl ?_
    refine w_gi (v := nI m) rfl rfl rfl (M_kd S) (lm_up_eq) ?_
    refine w_ia m (v := tl m) rfl (show X.2.1 (139) = 1 from M_k S 16 (by decide)) (show X.2.2.1 (139) = 250 from M_l S 16 (by decide)) rfl (by omega) (by decide) ((lm_up_na (by decide)).trans (HL m (by omega))) ?_
    refine w_N 1 22 [.ref 123] [.int 32, .int (tl m)] rfl ?_
    refine w_icmp_ne (t := 38) rfl rfl (fun c1 => ?_) (fun c1 => ?_)
    · rw [show skS tl (r + 1) m = m from if_neg c1] at kc
      exact kc
    · refine w_N 2 27 [.ref 123] [.ref 123, .ref 123] rfl ?_
      refine w_gi (v := nI m) rfl rfl rfl (M_kd S) (lm_up_eq) ?_
      refine w_N 2 32 [.ref 123] [.int ((nI m) + 1), .ref 123] rfl ?_
      refine w_pi rfl rfl rfl rfl (M_kd S) (M_64 S) ?_
      refine w_N 1 0 [.ref 123] [] rfl ?_
      rw [lm_up_up, show nI m + 1 = nI (m + 1) from (nI_succ m).symm]
      rw [show skS tl (r + 1) m = skS tl r (m + 1) from if_pos c1] at kc
      exact ih (m + 1) (by omega) kc
theorem m_lk2 {d : Nat} {hi : Nat → Nat → Int32} {hl : Nat → Nat → Int64} {X : lm_X} {ts : Nat} {tl : Nat → Int32} (S : sh_M X 123) (hts : ts ≤ 250) (h8 : hi 123 8 = nI ts) (HL : ∀ i, i < ts → hi 139 i = tl i) {Po : Option Value → lm_H → Prop} : ∀ (r m : Nat), m + r = ts → (lm_wp (d + 1) 159 263 [.ref 123] [] (lm_up hi 123 24 (nI (exS tl 1 r m)), hl, X) Po) → lm_wp (d + 1) 159 90 [.ref 123] [] (lm_up hi 123 24 (nI m), hl, X) Po := by
  intro r
  induction r with
  | zero =>
    intro m hm kc
    refine w_N 1 91 [.ref 123] [.ref 123] rfl ?_
    refine w_gi (v := nI m) rfl rfl rfl (M_kd S) (lm_up_eq) ?_
    refine w_N 1 95 [.ref 123] [.ref 123, .int (nI m)] rfl ?_
    refine w_gi (v := nI ts) rfl rfl rfl (M_kd S) ((lm_up_nk (by decide)).trans (h8)) ?_
    refine w_icmp_ge_t (t := 263) rfl rfl (by rw [show m = ts by omega]; exact fun z => Int32.lt_irrefl z) ?_
    exact kc
  | succ r ih =>
    intro m hm kc
    refine w_N 1 91 [.ref 123] [.ref 123] rfl ?_
    refine w_gi (v := nI m) rfl rfl rfl (M_kd S) (lm_up_eq) ?_
    refine w_N 1 95 [.ref 123] [.ref 123, .int (nI m)] rfl ?_
    refine w_gi (v := nI ts) rfl rfl rfl (M_kd S) ((lm_up_nk (by decide)).trans (h8)) ?_
    refine w_icmp_ge_f (t := 263) rfl rfl (nI_lt (by omega) (by omega)) ?_
    refine w_N 1 102 [.ref 123] [.ref 123] rfl ?_
    refine w_gr 139 rfl rfl rfl (M_kd S) (M_r S (k := 7) (o := 16) rfl) ?_
    refine w_N 1 106 [.ref 123] [.ref 123, .ref 139] rfl ?_
    refine w_gi (v := nI m) rfl rfl rfl (M_kd S) (lm_up_eq) ?_
    refine w_ia m (v := tl m) rfl (show X.2.1 (139) = 1 from M_k S 16 (by decide)) (show X.2.2.1 (139) = 250 from M_l S 16 (by decide)) rfl (by omega) (by decide) ((lm_up_na (by decide)).trans (HL m (by omega))) ?_
    refine w_cc rfl m_isLetter ?_
    show lm_wp _ 159 113 [.ref 123] [.int (bz (decide (srt (tl m) = 1)))] (lm_up hi 123 24 (nI m), hl, X) _
    refine w_zeq (t := 263) rfl rfl (fun c1 => ?_) (fun c1 => ?_)
    · rw [show exS tl 1 (r + 1) m = m from if_neg (of_decide_eq_false c1)] at kc
      exact kc
    · refine w_N 2 118 [.ref 123] [.ref 123, .ref 123] rfl ?_
      refine w_gi (v := nI m) rfl rfl rfl (M_kd S) (lm_up_eq) ?_
      refine w_N 2 123 [.ref 123] [.int ((nI m) + 1), .ref 123] rfl ?_
      refine w_pi rfl rfl rfl rfl (M_kd S) (M_64 S) ?_
      refine w_N 1 90 [.ref 123] [] rfl ?_
      rw [lm_up_up, show nI m + 1 = nI (m + 1) from (nI_succ m).symm]
      rw [show exS tl 1 (r + 1) m = exS tl 1 r (m + 1) from if_pos (of_decide_eq_true c1)] at kc
      exact ih (m + 1) (by omega) kc
theorem m_lk3 {d : Nat} {hi : Nat → Nat → Int32} {hl : Nat → Nat → Int64} {X : lm_X} {ts : Nat} {tl : Nat → Int32} (S : sh_M X 123) (hts : ts ≤ 250) (h8 : hi 123 8 = nI ts) (HL : ∀ i, i < ts → hi 139 i = tl i) {F : Nat} (h26 : hi 123 26 = nI F) {Po : Option Value → lm_H → Prop} : ∀ (r m : Nat), m + r = ts → (F ≤ m) → (lm_wp (d + 1) 159 263 [.ref 123] [] (lm_up (lm_up hi 123 27 (fgL tl F (exS tl 2 r m - F))) 123 24 (nI (exS tl 2 r m)), hl, X) Po) → lm_wp (d + 1) 159 149 [.ref 123] [] (lm_up (lm_up hi 123 27 (fgL tl F (m - F))) 123 24 (nI m), hl, X) Po := by
  intro r
  induction r with
  | zero =>
    intro m hm hF kc
    refine w_N 1 150 [.ref 123] [.ref 123] rfl ?_
    refine w_gi (v := nI m) rfl rfl rfl (M_kd S) (lm_up_eq) ?_
    refine w_N 1 154 [.ref 123] [.ref 123, .int (nI m)] rfl ?_
    refine w_gi (v := nI ts) rfl rfl rfl (M_kd S) ((lm_up_nk (by decide)).trans ((lm_up_nk (by decide)).trans (h8))) ?_
    refine w_icmp_ge_t (t := 263) rfl rfl (by rw [show m = ts by omega]; exact fun z => Int32.lt_irrefl z) ?_
    exact kc
  | succ r ih =>
    intro m hm hF kc
    refine w_N 1 150 [.ref 123] [.ref 123] rfl ?_
    refine w_gi (v := nI m) rfl rfl rfl (M_kd S) (lm_up_eq) ?_
    refine w_N 1 154 [.ref 123] [.ref 123, .int (nI m)] rfl ?_
    refine w_gi (v := nI ts) rfl rfl rfl (M_kd S) ((lm_up_nk (by decide)).trans ((lm_up_nk (by decide)).trans (h8))) ?_
    refine w_icmp_ge_f (t := 263) rfl rfl (nI_lt (by omega) (by omega)) ?_
    refine w_N 1 161 [.ref 123] [.ref 123] rfl ?_
    refine w_gr 139 rfl rfl rfl (M_kd S) (M_r S (k := 7) (o := 16) rfl) ?_
    refine w_N 1 165 [.ref 123] [.ref 123, .ref 139] rfl ?_
    refine w_gi (v := nI m) rfl rfl rfl (M_kd S) (lm_up_eq) ?_
    refine w_ia m (v := tl m) rfl (show X.2.1 (139) = 1 from M_k S 16 (by decide)) (show X.2.2.1 (139) = 250 from M_l S 16 (by decide)) rfl (by omega) (by decide) ((lm_up_na (by decide)).trans ((lm_up_na (by decide)).trans (HL m (by omega)))) ?_
    refine w_cc rfl m_isDigit ?_
    show lm_wp _ 159 172 [.ref 123] [.int (bz (decide (srt (tl m) = 2)))] (lm_up (lm_up hi 123 27 (fgL tl F (m - F))) 123 24 (nI m), hl, X) _
    refine w_zeq (t := 263) rfl rfl (fun c1 => ?_) (fun c1 => ?_)
    · rw [show exS tl 2 (r + 1) m = m from if_neg (of_decide_eq_false c1)] at kc
      exact kc
    · refine w_N 2 177 [.ref 123] [.ref 123, .ref 123] rfl ?_
      refine w_gi (v := nI m) rfl rfl rfl (M_kd S) (lm_up_eq) ?_
      refine w_N 1 181 [.ref 123] [.ref 123, .int (nI m), .ref 123] rfl ?_
      refine w_gi (v := nI F) rfl rfl rfl (M_kd S) ((lm_up_nk (by decide)).trans ((lm_up_nk (by decide)).trans (h26))) ?_
      refine w_N 2 186 [.ref 123] [.int 2, .int ((nI m) - (nI F)), .ref 123] rfl ?_
      refine w_icmp_ge (t := 212) rfl rfl (fun c2 => ?_) (fun c2 => ?_)
      · refine w_N 1 214 [.ref 123] [.int 100000, .ref 123] rfl ?_
        refine w_pi rfl rfl rfl rfl (M_kd S) (M_64 S) ?_
        refine w_N 2 219 [.ref 123] [.ref 123, .ref 123] rfl ?_
        refine w_gi (v := nI m) rfl rfl rfl (M_kd S) ((lm_up_nk (by decide)).trans (lm_up_eq)) ?_
        refine w_N 2 224 [.ref 123] [.int ((nI m) + 1), .ref 123] rfl ?_
        refine w_pi rfl rfl rfl rfl (M_kd S) (M_64 S) ?_
        refine w_N 1 149 [.ref 123] [] rfl ?_
        rw [lm_up_4 (by decide), show nI m + 1 = nI (m + 1) from (nI_succ m).symm]
        have ef : 100000 = fgL tl F (m + 1 - F) := by
          rw [show m + 1 - F = (m - F) + 1 by omega]
          show _ = if m - F < 2 then fgL tl F (m - F) * 10 + tl (F + (m - F)) - 48 else 100000
          rw [if_neg (by have q := c2; rw [nI_sub (by omega), show (2 : Int32) = nI 2 from rfl, nI_lt_iff (by omega) (by omega)] at q; exact q)]
        rw [ef]
        rw [show exS tl 2 (r + 1) m = exS tl 2 r (m + 1) from if_pos (of_decide_eq_true c1)] at kc
        exact ih (m + 1) (by omega) (by omega) kc
      · refine w_N 1 190 [.ref 123] [.ref 123, .ref 123] rfl ?_
        refine w_gi (v := fgL tl F (m - F)) rfl rfl rfl (M_kd S) ((lm_up_nk (by decide)).trans (lm_up_eq)) ?_
        refine w_N 3 197 [.ref 123] [.ref 123, .int ((fgL tl F (m - F)) * 10), .ref 123] rfl ?_
        refine w_gr 139 rfl rfl rfl (M_kd S) (M_r S (k := 7) (o := 16) rfl) ?_
        refine w_N 1 201 [.ref 123] [.ref 123, .ref 139, .int ((fgL tl F (m - F)) * 10), .ref 123] rfl ?_
        refine w_gi (v := nI m) rfl rfl rfl (M_kd S) (lm_up_eq) ?_
        refine w_ia m (v := tl m) rfl (show X.2.1 (139) = 1 from M_k S 16 (by decide)) (show X.2.2.1 (139) = 250 from M_l S 16 (by decide)) rfl (by omega) (by decide) ((lm_up_na (by decide)).trans ((lm_up_na (by decide)).trans (HL m (by omega)))) ?_
        refine w_N 4 214 [.ref 123] [.int ((((fgL tl F (m - F)) * 10) + (tl m)) - 48), .ref 123] rfl ?_
        refine w_pi rfl rfl rfl rfl (M_kd S) (M_64 S) ?_
        refine w_N 2 219 [.ref 123] [.ref 123, .ref 123] rfl ?_
        refine w_gi (v := nI m) rfl rfl rfl (M_kd S) ((lm_up_nk (by decide)).trans (lm_up_eq)) ?_
        refine w_N 2 224 [.ref 123] [.int ((nI m) + 1), .ref 123] rfl ?_
        refine w_pi rfl rfl rfl rfl (M_kd S) (M_64 S) ?_
        refine w_N 1 149 [.ref 123] [] rfl ?_
        rw [lm_up_4 (by decide), show nI m + 1 = nI (m + 1) from (nI_succ m).symm]
        have ef : (((fgL tl F (m - F)) * 10) + (tl m)) - 48 = fgL tl F (m + 1 - F) := by
          rw [show m + 1 - F = (m - F) + 1 by omega]
          show _ = if m - F < 2 then fgL tl F (m - F) * 10 + tl (F + (m - F)) - 48 else 100000
          rw [if_pos (by have q := c2; rw [nI_sub (by omega), show (2 : Int32) = nI 2 from rfl, nI_lt_iff (by omega) (by omega)] at q; exact q), show F + (m - F) = m by omega]
        rw [ef]
        rw [show exS tl 2 (r + 1) m = exS tl 2 r (m + 1) from if_pos (of_decide_eq_true c1)] at kc
        exact ih (m + 1) (by omega) (by omega) kc
theorem m_lk38n {d : Nat} {hi : Nat → Nat → Int32} {hl : Nat → Nat → Int64} {X : lm_X} {ts : Nat} {tl : Nat → Int32} (S : sh_M X 123) (hts : ts ≤ 250) (h8 : hi 123 8 = nI ts) (HL : ∀ i, i < ts → hi 139 i = tl i) {e : Nat} (he : e ≤ ts) (hF : ¬ tkF tl ts e < ts) : lm_wp (d + 1) 159 38 [.ref 123] [] (lm_up hi 123 24 (nI (tkF tl ts e)), hl, X) (fun v h1 => ∃ hi', v = none ∧ h1 = (hi', hl, X) ∧ tpM tl ts hi' e ∧ (∀ a, a ≠ 123 → hi' a = hi a) ∧ (∀ k, k ≠ 24 → k ≠ 25 → k ≠ 26 → k ≠ 27 → hi' 123 k = hi 123 k)) := by
  have hb := tk_b (tl := tl) he
  have eF : tkF tl ts e = ts := by omega
  have eS := tk_0.mpr hF
  refine w_N 2 40 [.ref 123] [.ref 123, .ref 123] rfl ?_
  refine w_gi (v := nI (tkF tl ts e)) rfl rfl rfl (M_kd S) (lm_up_eq) ?_
  refine w_pi rfl rfl rfl rfl (M_kd S) (M_64 S) ?_
  refine w_N 2 48 [.ref 123] [.int 0, .ref 123] rfl ?_
  refine w_pi rfl rfl rfl rfl (M_kd S) (M_64 S) ?_
  refine w_N 1 52 [.ref 123] [.ref 123] rfl ?_
  refine w_gi (v := nI (tkF tl ts e)) rfl rfl rfl (M_kd S) ((lm_up_nk (by decide)).trans ((lm_up_nk (by decide)).trans (lm_up_eq))) ?_
  refine w_N 1 56 [.ref 123] [.ref 123, .int (nI (tkF tl ts e))] rfl ?_
  refine w_gi (v := nI ts) rfl rfl rfl (M_kd S) ((lm_up_nk (by decide)).trans ((lm_up_nk (by decide)).trans ((lm_up_nk (by decide)).trans (h8)))) ?_
  refine w_icmp_ne_f (t := 70) rfl rfl (by rw [eF]) ?_
  refine w_N 2 64 [.ref 123] [.int 0, .ref 123] rfl ?_
  refine w_pi rfl rfl rfl rfl (M_kd S) (M_64 S) ?_
  refine w_N 1 263 [.ref 123] [] rfl ?_
  refine w_rv rfl rfl ?_
  refine ⟨_, rfl, rfl, ⟨(lm_up_nk (by decide)).trans ((lm_up_nk (by decide)).trans ((lm_up_nk (by decide)).trans ((lm_up_nk (by decide)).trans (h8)))), fun i hj => ?_, (lm_up_nk (by decide)).trans ((lm_up_nk (by decide)).trans (lm_up_eq)), ((lm_up_nk (by decide)).trans ((lm_up_nk (by decide)).trans ((lm_up_nk (by decide)).trans (lm_up_eq)))).trans (by rw [show tkE tl ts e = ts from if_neg hF, eF]), (lm_up_eq).trans (eS.symm), ((lm_up_nk (by decide)).trans (lm_up_eq)).trans (by unfold fgI; rw [if_neg (by rw [eS]; decide)])⟩, fun a ha => ?_, fun k k1 k2 k3 k4 => ?_⟩
  · rw [lm_up_na (by decide), lm_up_na (by decide), lm_up_na (by decide), lm_up_na (by decide)]; exact HL i hj
  · rw [lm_up_rw ha, lm_up_rw ha, lm_up_rw ha, lm_up_rw ha]
  · rw [lm_up_nk k2, lm_up_nk k4, lm_up_nk k3, lm_up_nk k1]
theorem m_lk38t {d : Nat} {hi : Nat → Nat → Int32} {hl : Nat → Nat → Int64} {X : lm_X} {ts : Nat} {tl : Nat → Int32} (S : sh_M X 123) (hts : ts ≤ 250) (h8 : hi 123 8 = nI ts) (HL : ∀ i, i < ts → hi 139 i = tl i) {e : Nat} (he : e ≤ ts) (hF : tkF tl ts e < ts) : lm_wp (d + 1) 159 38 [.ref 123] [] (lm_up hi 123 24 (nI (tkF tl ts e)), hl, X) (fun v h1 => ∃ hi', v = none ∧ h1 = (hi', hl, X) ∧ tpM tl ts hi' e ∧ (∀ a, a ≠ 123 → hi' a = hi a) ∧ (∀ k, k ≠ 24 → k ≠ 25 → k ≠ 26 → k ≠ 27 → hi' 123 k = hi 123 k)) := by
  have hb := tk_b (tl := tl) he
  have eS : tkS tl ts e = srt (tl (tkF tl ts e)) := if_pos hF
  refine w_N 2 40 [.ref 123] [.ref 123, .ref 123] rfl ?_
  refine w_gi (v := nI (tkF tl ts e)) rfl rfl rfl (M_kd S) (lm_up_eq) ?_
  refine w_pi rfl rfl rfl rfl (M_kd S) (M_64 S) ?_
  refine w_N 2 48 [.ref 123] [.int 0, .ref 123] rfl ?_
  refine w_pi rfl rfl rfl rfl (M_kd S) (M_64 S) ?_
  refine w_N 1 52 [.ref 123] [.ref 123] rfl ?_
  refine w_gi (v := nI (tkF tl ts e)) rfl rfl rfl (M_kd S) ((lm_up_nk (by decide)).trans ((lm_up_nk (by decide)).trans (lm_up_eq))) ?_
  refine w_N 1 56 [.ref 123] [.ref 123, .int (nI (tkF tl ts e))] rfl ?_
  refine w_gi (v := nI ts) rfl rfl rfl (M_kd S) ((lm_up_nk (by decide)).trans ((lm_up_nk (by decide)).trans ((lm_up_nk (by decide)).trans (h8)))) ?_
  refine w_icmp_ne_t (t := 70) rfl rfl (fun z => by have := (nI_inj (by omega) (by omega)).mp z; omega) ?_
  refine w_N 1 71 [.ref 123] [.ref 123] rfl ?_
  refine w_gr 139 rfl rfl rfl (M_kd S) (M_r S (k := 7) (o := 16) rfl) ?_
  refine w_N 1 75 [.ref 123] [.ref 123, .ref 139] rfl ?_
  refine w_gi (v := nI (tkF tl ts e)) rfl rfl rfl (M_kd S) ((lm_up_nk (by decide)).trans ((lm_up_nk (by decide)).trans (lm_up_eq))) ?_
  refine w_ia (tkF tl ts e) (v := tl (tkF tl ts e)) rfl (show X.2.1 (139) = 1 from M_k S 16 (by decide)) (show X.2.2.1 (139) = 250 from M_l S 16 (by decide)) rfl (by omega) (by decide) ((lm_up_na (by decide)).trans ((lm_up_na (by decide)).trans ((lm_up_na (by decide)).trans (HL (tkF tl ts e) hF)))) ?_
  refine w_cc rfl m_isLetter ?_
  show lm_wp _ 159 82 [.ref 123] [.int (bz (decide (srt (tl (tkF tl ts e)) = 1)))] (lm_up (lm_up (lm_up hi 123 24 (nI (tkF tl ts e))) 123 26 (nI (tkF tl ts e))) 123 27 0, hl, X) _
  refine w_zeq (t := 129) rfl rfl (fun c1 => ?_) (fun c1 => ?_)
  · refine w_N 1 130 [.ref 123] [.ref 123] rfl ?_
    refine w_gr 139 rfl rfl rfl (M_kd S) (M_r S (k := 7) (o := 16) rfl) ?_
    refine w_N 1 134 [.ref 123] [.ref 123, .ref 139] rfl ?_
    refine w_gi (v := nI (tkF tl ts e)) rfl rfl rfl (M_kd S) ((lm_up_nk (by decide)).trans ((lm_up_nk (by decide)).trans (lm_up_eq))) ?_
    refine w_ia (tkF tl ts e) (v := tl (tkF tl ts e)) rfl (show X.2.1 (139) = 1 from M_k S 16 (by decide)) (show X.2.2.1 (139) = 250 from M_l S 16 (by decide)) rfl (by omega) (by decide) ((lm_up_na (by decide)).trans ((lm_up_na (by decide)).trans ((lm_up_na (by decide)).trans (HL (tkF tl ts e) hF)))) ?_
    refine w_cc rfl m_isDigit ?_
    show lm_wp _ 159 141 [.ref 123] [.int (bz (decide (srt (tl (tkF tl ts e)) = 2)))] (lm_up (lm_up (lm_up hi 123 24 (nI (tkF tl ts e))) 123 26 (nI (tkF tl ts e))) 123 27 0, hl, X) _
    refine w_zeq (t := 230) rfl rfl (fun c2 => ?_) (fun c2 => ?_)
    · refine w_N 2 232 [.ref 123] [.ref 123, .ref 123] rfl ?_
      refine w_gr 139 rfl rfl rfl (M_kd S) (M_r S (k := 7) (o := 16) rfl) ?_
      refine w_N 1 236 [.ref 123] [.ref 123, .ref 139, .ref 123] rfl ?_
      refine w_gi (v := nI (tkF tl ts e)) rfl rfl rfl (M_kd S) ((lm_up_nk (by decide)).trans ((lm_up_nk (by decide)).trans (lm_up_eq))) ?_
      refine w_ia (tkF tl ts e) (v := tl (tkF tl ts e)) rfl (show X.2.1 (139) = 1 from M_k S 16 (by decide)) (show X.2.2.1 (139) = 250 from M_l S 16 (by decide)) rfl (by omega) (by decide) ((lm_up_na (by decide)).trans ((lm_up_na (by decide)).trans ((lm_up_na (by decide)).trans (HL (tkF tl ts e) hF)))) ?_
      refine w_N 1 242 [.ref 123] [.int 59, .int (tl (tkF tl ts e)), .ref 123] rfl ?_
      refine w_icmp_ne (t := 249) rfl rfl (fun c3 => ?_) (fun c3 => ?_)
      · refine w_N 1 250 [.ref 123] [.int 4, .ref 123] rfl ?_
        refine w_pi rfl rfl rfl rfl (M_kd S) (M_64 S) ?_
        refine w_N 2 255 [.ref 123] [.ref 123, .ref 123] rfl ?_
        refine w_gi (v := nI (tkF tl ts e)) rfl rfl rfl (M_kd S) ((lm_up_nk (by decide)).trans ((lm_up_nk (by decide)).trans ((lm_up_nk (by decide)).trans (lm_up_eq)))) ?_
        refine w_N 2 260 [.ref 123] [.int ((nI (tkF tl ts e)) + 1), .ref 123] rfl ?_
        refine w_pi rfl rfl rfl rfl (M_kd S) (M_64 S) ?_
        refine w_rv rfl rfl ?_
        have e4 : srt (tl (tkF tl ts e)) = 4 := by
          have s1 := (of_decide_eq_false c1)
          have s2 := (of_decide_eq_false c2)
          rw [srt_1] at s1
          rw [srt_2] at s2
          unfold srt
          rw [if_neg s1, if_neg s2, if_neg c3]
        refine ⟨_, rfl, rfl, ⟨(lm_up_nk (by decide)).trans ((lm_up_nk (by decide)).trans ((lm_up_nk (by decide)).trans ((lm_up_nk (by decide)).trans ((lm_up_nk (by decide)).trans (h8))))), fun i hj => ?_, (lm_up_nk (by decide)).trans ((lm_up_nk (by decide)).trans ((lm_up_nk (by decide)).trans (lm_up_eq))), (lm_up_eq).trans (by unfold tkE; rw [if_pos hF, if_neg (by rw [eS, e4]; decide), nI_succ]), ((lm_up_nk (by decide)).trans (lm_up_eq)).trans (by rw [eS, e4]), ((lm_up_nk (by decide)).trans ((lm_up_nk (by decide)).trans (lm_up_eq))).trans (by unfold fgI; rw [if_neg (by rw [eS, e4]; decide)])⟩, fun a ha => ?_, fun k k1 k2 k3 k4 => ?_⟩
        · rw [lm_up_na (by decide), lm_up_na (by decide), lm_up_na (by decide), lm_up_na (by decide), lm_up_na (by decide)]; exact HL i hj
        · rw [lm_up_rw ha, lm_up_rw ha, lm_up_rw ha, lm_up_rw ha, lm_up_rw ha]
        · rw [lm_up_nk k1, lm_up_nk k2, lm_up_nk k4, lm_up_nk k3, lm_up_nk k1]
      · refine w_N 2 250 [.ref 123] [.int 3, .ref 123] rfl ?_
        refine w_pi rfl rfl rfl rfl (M_kd S) (M_64 S) ?_
        refine w_N 2 255 [.ref 123] [.ref 123, .ref 123] rfl ?_
        refine w_gi (v := nI (tkF tl ts e)) rfl rfl rfl (M_kd S) ((lm_up_nk (by decide)).trans ((lm_up_nk (by decide)).trans ((lm_up_nk (by decide)).trans (lm_up_eq)))) ?_
        refine w_N 2 260 [.ref 123] [.int ((nI (tkF tl ts e)) + 1), .ref 123] rfl ?_
        refine w_pi rfl rfl rfl rfl (M_kd S) (M_64 S) ?_
        refine w_rv rfl rfl ?_
        have e4 : srt (tl (tkF tl ts e)) = 3 := by
          have s1 := (of_decide_eq_false c1)
          have s2 := (of_decide_eq_false c2)
          rw [srt_1] at s1
          rw [srt_2] at s2
          unfold srt
          rw [if_neg s1, if_neg s2, if_pos c3]
        refine ⟨_, rfl, rfl, ⟨(lm_up_nk (by decide)).trans ((lm_up_nk (by decide)).trans ((lm_up_nk (by decide)).trans ((lm_up_nk (by decide)).trans ((lm_up_nk (by decide)).trans (h8))))), fun i hj => ?_, (lm_up_nk (by decide)).trans ((lm_up_nk (by decide)).trans ((lm_up_nk (by decide)).trans (lm_up_eq))), (lm_up_eq).trans (by unfold tkE; rw [if_pos hF, if_neg (by rw [eS, e4]; decide), nI_succ]), ((lm_up_nk (by decide)).trans (lm_up_eq)).trans (by rw [eS, e4]), ((lm_up_nk (by decide)).trans ((lm_up_nk (by decide)).trans (lm_up_eq))).trans (by unfold fgI; rw [if_neg (by rw [eS, e4]; decide)])⟩, fun a ha => ?_, fun k k1 k2 k3 k4 => ?_⟩
        · rw [lm_up_na (by decide), lm_up_na (by decide), lm_up_na (by decide), lm_up_na (by decide), lm_up_na (by decide)]; exact HL i hj
        · rw [lm_up_rw ha, lm_up_rw ha, lm_up_rw ha, lm_up_rw ha, lm_up_rw ha]
        · rw [lm_up_nk k1, lm_up_nk k2, lm_up_nk k4, lm_up_nk k3, lm_up_nk k1]
    · refine w_N 2 146 [.ref 123] [.int 2, .ref 123] rfl ?_
      refine w_pi rfl rfl rfl rfl (M_kd S) (M_64 S) ?_
      have e4 : srt (tl (tkF tl ts e)) = 2 := (of_decide_eq_true c2)
      have eE : tkE tl ts e = exS tl 2 (ts - tkF tl ts e) (tkF tl ts e) := by
        unfold tkE
        rw [if_pos hF, if_pos (by rw [eS, e4]; decide), eS, e4, show ts - tkF tl ts e = (ts - (tkF tl ts e + 1)) + 1 by omega]
        exact (if_pos e4).symm
      have h0 : lm_up (lm_up (lm_up (lm_up (lm_up (lm_up hi 123 24 (nI (tkF tl ts e))) 123 26 (nI (tkF tl ts e))) 123 27 0) 123 25 2) 123 27 (fgL tl (tkF tl ts e) (tkF tl ts e - tkF tl ts e))) 123 24 (nI (tkF tl ts e)) = lm_up (lm_up (lm_up (lm_up hi 123 24 (nI (tkF tl ts e))) 123 26 (nI (tkF tl ts e))) 123 27 0) 123 25 2 := by
        rw [Nat.sub_self, show fgL tl (tkF tl ts e) 0 = 0 from rfl, lm_up_id (f := lm_up (lm_up (lm_up (lm_up hi 123 24 (nI (tkF tl ts e))) 123 26 (nI (tkF tl ts e))) 123 27 0) 123 25 2) (a := 123) (k := 27) ((lm_up_nk (by decide)).trans (lm_up_eq)), lm_up_id ((lm_up_nk (by decide)).trans ((lm_up_nk (by decide)).trans ((lm_up_nk (by decide)).trans (lm_up_eq))))]
      rw [← h0]
      refine m_lk3 (tl := tl) (F := tkF tl ts e) (hi := lm_up (lm_up (lm_up (lm_up hi 123 24 (nI (tkF tl ts e))) 123 26 (nI (tkF tl ts e))) 123 27 0) 123 25 2) S hts ((lm_up_nk (by decide)).trans ((lm_up_nk (by decide)).trans ((lm_up_nk (by decide)).trans ((lm_up_nk (by decide)).trans (h8))))) (fun i hj => by rw [lm_up_na (by decide), lm_up_na (by decide), lm_up_na (by decide), lm_up_na (by decide)]; exact HL i hj) ((lm_up_nk (by decide)).trans ((lm_up_nk (by decide)).trans (lm_up_eq))) (ts - tkF tl ts e) (tkF tl ts e) (by omega) (Nat.le_refl _) ?_
      rw [← eE]
      refine w_rv rfl rfl ?_
      refine ⟨_, rfl, rfl, ⟨(lm_up_nk (by decide)).trans ((lm_up_nk (by decide)).trans ((lm_up_nk (by decide)).trans ((lm_up_nk (by decide)).trans ((lm_up_nk (by decide)).trans ((lm_up_nk (by decide)).trans (h8)))))), fun i hj => ?_, (lm_up_nk (by decide)).trans ((lm_up_nk (by decide)).trans ((lm_up_nk (by decide)).trans ((lm_up_nk (by decide)).trans (lm_up_eq)))), (lm_up_eq).trans (rfl), ((lm_up_nk (by decide)).trans ((lm_up_nk (by decide)).trans (lm_up_eq))).trans (by rw [eS, e4]), ((lm_up_nk (by decide)).trans (lm_up_eq)).trans (by unfold fgI; rw [if_pos (by rw [eS, e4])])⟩, fun a ha => ?_, fun k k1 k2 k3 k4 => ?_⟩
      · rw [lm_up_na (by decide), lm_up_na (by decide), lm_up_na (by decide), lm_up_na (by decide), lm_up_na (by decide), lm_up_na (by decide)]; exact HL i hj
      · rw [lm_up_rw ha, lm_up_rw ha, lm_up_rw ha, lm_up_rw ha, lm_up_rw ha, lm_up_rw ha]
      · rw [lm_up_nk k1, lm_up_nk k4, lm_up_nk k2, lm_up_nk k4, lm_up_nk k3, lm_up_nk k1]
  · refine w_N 2 87 [.ref 123] [.int 1, .ref 123] rfl ?_
    refine w_pi rfl rfl rfl rfl (M_kd S) (M_64 S) ?_
    have e4 : srt (tl (tkF tl ts e)) = 1 := (of_decide_eq_true c1)
    have eE : tkE tl ts e = exS tl 1 (ts - tkF tl ts e) (tkF tl ts e) := by
      unfold tkE
      rw [if_pos hF, if_pos (by rw [eS, e4]; decide), eS, e4, show ts - tkF tl ts e = (ts - (tkF tl ts e + 1)) + 1 by omega]
      exact (if_pos e4).symm
    have h0 : lm_up (lm_up (lm_up (lm_up (lm_up hi 123 24 (nI (tkF tl ts e))) 123 26 (nI (tkF tl ts e))) 123 27 0) 123 25 1) 123 24 (nI (tkF tl ts e)) = lm_up (lm_up (lm_up (lm_up hi 123 24 (nI (tkF tl ts e))) 123 26 (nI (tkF tl ts e))) 123 27 0) 123 25 1 := lm_up_id ((lm_up_nk (by decide)).trans ((lm_up_nk (by decide)).trans ((lm_up_nk (by decide)).trans (lm_up_eq))))
    rw [← h0]
    refine m_lk2 (tl := tl) (hi := lm_up (lm_up (lm_up (lm_up hi 123 24 (nI (tkF tl ts e))) 123 26 (nI (tkF tl ts e))) 123 27 0) 123 25 1) S hts ((lm_up_nk (by decide)).trans ((lm_up_nk (by decide)).trans ((lm_up_nk (by decide)).trans ((lm_up_nk (by decide)).trans (h8))))) (fun i hj => by rw [lm_up_na (by decide), lm_up_na (by decide), lm_up_na (by decide), lm_up_na (by decide)]; exact HL i hj) (ts - tkF tl ts e) (tkF tl ts e) (by omega) ?_
    rw [← eE]
    refine w_rv rfl rfl ?_
    refine ⟨_, rfl, rfl, ⟨(lm_up_nk (by decide)).trans ((lm_up_nk (by decide)).trans ((lm_up_nk (by decide)).trans ((lm_up_nk (by decide)).trans ((lm_up_nk (by decide)).trans (h8))))), fun i hj => ?_, (lm_up_nk (by decide)).trans ((lm_up_nk (by decide)).trans ((lm_up_nk (by decide)).trans (lm_up_eq))), (lm_up_eq).trans (rfl), ((lm_up_nk (by decide)).trans (lm_up_eq)).trans (by rw [eS, e4]), ((lm_up_nk (by decide)).trans ((lm_up_nk (by decide)).trans (lm_up_eq))).trans (by unfold fgI; rw [if_neg (by rw [eS, e4]; decide)])⟩, fun a ha => ?_, fun k k1 k2 k3 k4 => ?_⟩
    · rw [lm_up_na (by decide), lm_up_na (by decide), lm_up_na (by decide), lm_up_na (by decide), lm_up_na (by decide)]; exact HL i hj
    · rw [lm_up_rw ha, lm_up_rw ha, lm_up_rw ha, lm_up_rw ha, lm_up_rw ha]
    · rw [lm_up_nk k1, lm_up_nk k2, lm_up_nk k4, lm_up_nk k3, lm_up_nk k1]
theorem m_look {d : Nat} {hi : Nat → Nat → Int32} {hl : Nat → Nat → Int64} {X : lm_X} {ts : Nat} {tl : Nat → Int32} (S : sh_M X 123) (hts : ts ≤ 250) (h8 : hi 123 8 = nI ts) (HL : ∀ i, i < ts → hi 139 i = tl i) {e : Nat} (he : e ≤ ts) (h24 : hi 123 24 = nI e) : lm_w (d + 1) 159 [.ref 123] (hi, hl, X) (fun v h1 => ∃ hi', v = none ∧ h1 = (hi', hl, X) ∧ tpM tl ts hi' e ∧ (∀ a, a ≠ 123 → hi' a = hi a) ∧ (∀ k, k ≠ 24 → k ≠ 25 → k ≠ 26 → k ≠ 27 → hi' 123 k = hi 123 k)) := by
  refine lm_w_in (Nat.le_of_ble_eq_true rfl) ?_
  show lm_wp (d + 1) 159 0 [.ref 123] [] (hi, hl, X) _
  have q := m_lk1 (Po := fun v h1 => ∃ hi', v = none ∧ h1 = (hi', hl, X) ∧ tpM tl ts hi' e ∧ (∀ a, a ≠ 123 → hi' a = hi a) ∧ (∀ k, k ≠ 24 → k ≠ 25 → k ≠ 26 → k ≠ 27 → hi' 123 k = hi 123 k)) (d := d + 1) (hl := hl) S hts h8 HL (ts - e) e (by omega) (by
    by_cases hF : tkF tl ts e < ts
    · exact m_lk38t S hts h8 HL he hF
    · exact m_lk38n S hts h8 HL he hF)
  rw [lm_up_id h24] at q
  exact q
theorem w_ci {d f pc len idx g na z : Nat} {ls r : List Value} {P : Option Value → lm_H → Prop} {h : lm_H} {n i : Int32} (h1 : (lm_m f).2.2.2.2.2.1.lookup pc = some (.invokestatic idx, len)) (h2 : (lm_kM (lm_m f).1).lookup idx = some (7, g, na, z)) (h3 : (r.map Value.category).sum ≤ 8) (h4 : ¬ i < 0) (h5 : i < n) (k : lm_wp d f (pc + 3) ls r h P) : lm_wp d f pc ls (.int n :: .int i :: r) h P := by
  refine w_nx ?_ k
  rw [lm_st_of h1]
  show lm_iv ((lm_kM (lm_m f).1).lookup idx) 1 pc ls _ h = _
  rw [h2]
  simp [lm_iv, h3, h4, h5]
theorem shr_0 : ∀ L, L < 8 → nI L >>> ((0 : Int32) &&& 31) = nI L := by decide
theorem j_coder {d : Nat} {hi : Nat → Nat → Int32} {hl : Nat → Nat → Int64} {X : lm_X} {a : Nat} (k0 : X.2.1 a = 40) (c0 : hi a 1 = 0) : lm_c d 229 [.ref a] (hi, hl, X) (some (.int 0), (hi, hl, X)) := by
  refine lm_c_of (lm_w_in (Nat.le_of_ble_eq_true rfl) ?_)
  show lm_wp d 229 0 [.ref a] [] (hi, hl, X) _
  refine w_N 1 3 [.ref a] [.int 1] rfl ?_
  refine w_if_eq_f (t := 13) rfl rfl (by decide) ?_
  refine w_N 1 7 [.ref a] [.ref a] rfl ?_
  refine w_gi (v := 0) rfl rfl rfl (show X.2.1 a = 10 + 30 from k0) (c0) ?_
  refine w_N 1 14 [.ref a] [.int 0] rfl ?_
  refine w_rc rfl rfl rfl ?_
  rfl
theorem j_latin {d : Nat} {hi : Nat → Nat → Int32} {hl : Nat → Nat → Int64} {X : lm_X} {a : Nat} (k0 : X.2.1 a = 40) (c0 : hi a 1 = 0) : lm_c d 230 [.ref a] (hi, hl, X) (some (.int 1), (hi, hl, X)) := by
  refine lm_c_of (lm_w_in (Nat.le_of_ble_eq_true rfl) ?_)
  show lm_wp d 230 0 [.ref a] [] (hi, hl, X) _
  refine w_N 1 3 [.ref a] [.int 1] rfl ?_
  refine w_if_eq_f (t := 17) rfl rfl (by decide) ?_
  refine w_N 1 7 [.ref a] [.ref a] rfl ?_
  refine w_gi (v := 0) rfl rfl rfl (show X.2.1 a = 10 + 30 from k0) (c0) ?_
  refine w_if_ne_f (t := 17) rfl rfl (by decide) ?_
  refine w_N 2 18 [.ref a] [.int 1] rfl ?_
  refine w_rz rfl rfl (by decide) ?_
  rfl
theorem j_length {d : Nat} {hi : Nat → Nat → Int32} {hl : Nat → Nat → Int64} {X : lm_X} {a b L : Nat} (k0 : X.2.1 a = 40) (c0 : hi a 1 = 0) (r0 : X.1 a 0 = some b) (kb : X.2.1 b = 8) (lb : X.2.2.1 b = L) (hL : L < 8) : lm_c (d + 1) 227 [.ref a] (hi, hl, X) (some (.int (nI L)), (hi, hl, X)) := by
  refine lm_c_of (lm_w_in (Nat.le_of_ble_eq_true rfl) ?_)
  show lm_wp (d + 1) 227 0 [.ref a] [] (hi, hl, X) _
  refine w_N 1 1 [.ref a] [.ref a] rfl ?_
  refine w_gr b rfl rfl rfl (show X.2.1 a = 10 + 30 from k0) r0 ?_
  refine w_al L rfl ⟨by rw [kb]; decide, by rw [kb]; decide⟩ lb ?_
  refine w_N 1 6 [.ref a] [.ref a, .int (nI L)] rfl ?_
  refine w_cc (w_vst rfl rfl rfl (Nat.le_of_ble_eq_true rfl) (Nat.le_of_ble_eq_true rfl) (show X.2.1 a = 10 + 30 from k0)) (j_coder k0 c0) ?_
  show lm_wp _ 227 9 [.ref a] [.int 0, .int (nI L)] (hi, hl, X) _
  refine w_N 1 10 [.ref a] [.int ((nI L) >>> (0 &&& 31))] rfl ?_
  refine w_ri rfl rfl ?_
  rw [shr_0 L hL]
theorem j_char1 {d : Nat} {hi : Nat → Nat → Int32} {hl : Nat → Nat → Int64} {X : lm_X} {b L k : Nat} {ch : Int32} (kb : X.2.1 b = 8) (lb : X.2.2.1 b = L) (hL : L < 8) (hk : k < L) (hc0 : hi b k = ch) (hc : ((ch &&& 255).toUInt32 % 65536).toInt32 = ch) (hn : narrow .char (.int ch) = .int ch) : lm_c d 231 [.ref b, .int (nI k)] (hi, hl, X) (some (.int ch), (hi, hl, X)) := by
  refine lm_c_of (lm_w_in (Nat.le_of_ble_eq_true rfl) ?_)
  show lm_wp d 231 0 [.ref b, .int (nI k)] [] (hi, hl, X) _
  refine w_N 2 2 [.ref b, .int (nI k)] [.ref b, .int (nI k)] rfl ?_
  refine w_al L rfl ⟨by rw [kb]; decide, by rw [kb]; decide⟩ lb ?_
  refine w_ci rfl rfl (Nat.le_of_ble_eq_true rfl) (nI_pos (by omega)) (nI_lt hk (by omega)) ?_
  refine w_N 2 8 [.ref b, .int (nI k)] [.int (nI k), .ref b] rfl ?_
  refine w_ba k (v := ch) rfl kb lb rfl hk (by omega) hc0 ?_
  refine w_N 3 14 [.ref b, .int (nI k)] [.int ((ch &&& 255).toUInt32 % 65536).toInt32] rfl ?_
  rw [hc]
  exact w_rc rfl rfl hn rfl
theorem j_charAt {d : Nat} {hi : Nat → Nat → Int32} {hl : Nat → Nat → Int64} {X : lm_X} {a b L : Nat} (k0 : X.2.1 a = 40) (c0 : hi a 1 = 0) (r0 : X.1 a 0 = some b) (kb : X.2.1 b = 8) (lb : X.2.2.1 b = L) {k : Nat} {ch : Int32} (hL : L < 8) (hk : k < L) (hc0 : hi b k = ch) (hc : ((ch &&& 255).toUInt32 % 65536).toInt32 = ch) (hn : narrow .char (.int ch) = .int ch) : lm_c (d + 1) 228 [.ref a, .int (nI k)] (hi, hl, X) (some (.int ch), (hi, hl, X)) := by
  refine lm_c_of (lm_w_in (Nat.le_of_ble_eq_true rfl) ?_)
  show lm_wp (d + 1) 228 0 [.ref a, .int (nI k)] [] (hi, hl, X) _
  refine w_N 1 1 [.ref a, .int (nI k)] [.ref a] rfl ?_
  refine w_cc (w_vst rfl rfl rfl (Nat.le_of_ble_eq_true rfl) (Nat.le_of_ble_eq_true rfl) (show X.2.1 a = 10 + 30 from k0)) (j_latin k0 c0) ?_
  show lm_wp _ 228 4 [.ref a, .int (nI k)] [.int 1] (hi, hl, X) _
  refine w_if_eq_f (t := 16) rfl rfl (by decide) ?_
  refine w_N 1 8 [.ref a, .int (nI k)] [.ref a] rfl ?_
  refine w_gr b rfl rfl rfl (show X.2.1 a = 10 + 30 from k0) r0 ?_
  refine w_N 1 12 [.ref a, .int (nI k)] [.int (nI k), .ref b] rfl ?_
  refine w_cc rfl (j_char1 kb lb hL hk hc0 hc hn) ?_
  show lm_wp _ 228 15 [.ref a, .int (nI k)] [.int ch] (hi, hl, X) _
  refine w_rc rfl rfl hn ?_
  rfl
theorem so_len : ∀ i, i < 22 → (lm_so i).2.2.2.length < 8 := by decide
theorem so_ch : ∀ i, i < 22 → ∀ k, k < (lm_so i).2.2.2.length → (((lm_so i).2.2.2.getD k 0 &&& 255).toUInt32 % 65536).toInt32 = (lm_so i).2.2.2.getD k 0 := by decide +kernel
theorem nw_e {c : Int32} (h : (c.toUInt32 % 65536).toInt32 = c) : narrow .char (.int c) = .int c := congrArg Value.int h
theorem so_nw : ∀ i, i < 22 → ∀ k, k < (lm_so i).2.2.2.length → (((lm_so i).2.2.2.getD k 0).toUInt32 % 65536).toInt32 = (lm_so i).2.2.2.getD k 0 := by decide +kernel
theorem tx_len {d : Nat} {hi : Nat → Nat → Int32} {hl : Nat → Nat → Int64} {X : lm_X} {i L : Nat} (Q : isTx hi X) (hi2 : i < 22) (hL : (lm_so i).2.2.2.length = L) : lm_c (d + 1) 227 [.ref (1 + i)] (hi, hl, X) (some (.int (nI L)), (hi, hl, X)) := by
  obtain ⟨q1, q2, q3, q4, q5, q6⟩ := Q i hi2
  exact j_length q2 q5 q1 q3 (q4.trans hL) (by have := so_len i hi2; omega)
theorem tx_char {d : Nat} {hi : Nat → Nat → Int32} {hl : Nat → Nat → Int64} {X : lm_X} {i k : Nat} {c : Int32} (Q : isTx hi X) (hi2 : i < 22) (hk : k < (lm_so i).2.2.2.length) (hc : (lm_so i).2.2.2.getD k 0 = c) : lm_c (d + 1) 228 [.ref (1 + i), .int (nI k)] (hi, hl, X) (some (.int c), (hi, hl, X)) := by
  subst hc
  obtain ⟨q1, q2, q3, q4, q5, q6⟩ := Q i hi2
  exact j_charAt q2 q5 q1 q3 q4 (so_len i hi2) hk (q6 k hk) (so_ch i hi2 k hk) (nw_e (so_nw i hi2 k hk))
theorem tx_kd {hi : Nat → Nat → Int32} {X : lm_X} {i : Nat} (Q : isTx hi X) (hi2 : i < 22) : X.2.1 (1 + i) = 10 + 30 := (Q i hi2).2.1
