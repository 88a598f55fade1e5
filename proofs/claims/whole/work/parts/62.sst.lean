set_option maxRecDepth 16384
/-! a statement: class and reference alike -/
theorem rs_i {d f : Nat} {as : List Value} {h0 : lm_H} {Q : Option Value → lm_H → Prop} {b0 : Bool} (hq : ∀ v h1, Q v h1 → v = some (.int (bz b0))) (h : lm_w d f as h0 Q) : lm_w d f as h0 (fun v h1 => ∃ b, v = some (.int (bz b)) ∧ Q (some (.int (bz b))) h1) := lm_w_mono h (fun v h1 q => ⟨b0, hq v h1 q, hq v h1 q ▸ q⟩)
theorem rs_o {d f : Nat} {as : List Value} {h0 : lm_H} {Q : Option Value → lm_H → Prop} (h : lm_w d f as h0 (fun v h1 => ∃ b, v = some (.int (bz b)) ∧ Q (some (.int (bz b))) h1)) : lm_w d f as h0 Q := lm_w_mono h (fun v h1 ⟨_, q, w⟩ => q ▸ w)
theorem okR_10 {R : Nat → Int32} {D : Nat} {s' : Int32} (h : okR R D) (h1 : okS s') (h2 : awk s' = awk (R 10)) : okR (lm_u1 R 10 s') D := ⟨h1, h.2.1, h.2.2.1, h2.trans h.2.2.2.1, h.2.2.2.2.1, h.2.2.2.2.2⟩
theorem okS_or {s : Int32} {m : Nat} (h : okS s) (hm : m < 8) : okS (s ||| (1 <<< (nI m &&& 31))) := okS_of (fun i h1 h2 => by rw [bt_or, okS_bt h h1, bt_lit m hm h2, decide_eq_false (by omega)]; rfl)
theorem awk_or_ {s : Int32} {m : Nat} (hm : m < 8) : awk (s ||| (1 <<< (nI m &&& 31))) = awk s := by
  rw [awk_bt, awk_bt, bt_or, bt_lit m hm (by decide), show decide (m = 28) = false from decide_eq_false (by omega), Bool.or_false]
theorem okR_11 {R : Nat → Int32} {D m : Nat} (h : okR R D) (hm : m < 8) : okR (lm_u1 R 11 (R 11 ||| (1 <<< (nI m &&& 31)))) D := by
  obtain ⟨u, hu, eu⟩ := h.2.1
  refine ⟨h.1, ⟨u ||| 2 ^ m, Nat.or_lt_two_pow (n := 8) hu (p2_lt hm), ?_⟩, h.2.2.1, h.2.2.2.1, h.2.2.2.2.1, h.2.2.2.2.2⟩
  show R 11 ||| (1 <<< (nI m &&& 31)) = _
  rw [eu, sh_p2 hm, or_nI]
theorem sg_b : ∀ v, v < 100 → (-99 ≤ ((1 : Int32) * nI v).toInt ∧ ((1 : Int32) * nI v).toInt ≤ 99) ∧ (-99 ≤ ((-1 : Int32) * nI v).toInt ∧ ((-1 : Int32) * nI v).toInt ≤ 99) := by decide
def sF (tl : Nat → Int32) (ts : Nat) (T : lm_T) (n : Nat) (R : Nat → Int32) (p f : Nat) : Prop := (∀ hi0 hi hl X, dP hi0 hi X T n R tl ts p → lm_w 30 43 [.ref 95, .ref 85] (hi, hl, X) (dF hi0 hl X f)) ∧ (∀ hi0 hi hl X st, eP hi0 hi X T n R tl ts p st → lm_w 40 166 [.ref 123] (hi, hl, X) (eF hi0 hl X f))
def sT (tl : Nat → Int32) (ts : Nat) (T : lm_T) (n : Nat) (R : Nat → Int32) (p : Nat) (T' : lm_T) (n' : Nat) (R' : Nat → Int32) (p' : Nat) : Prop := (∀ hi0 hi hl X, dP hi0 hi X T n R tl ts p → lm_w 30 43 [.ref 95, .ref 85] (hi, hl, X) (dT hi0 hl X T' n' R' tl ts p')) ∧ (∀ hi0 hi hl X st, eP hi0 hi X T n R tl ts p st → lm_w 40 166 [.ref 123] (hi, hl, X) (eT hi0 hl X T' n' R' tl ts p' st))
def SS (tl : Nat → Int32) (ts : Nat) (T : lm_T) (n : Nat) (R : Nat → Int32) (D p : Nat) : Prop := (∃ f, sF tl ts T n R p f) ∨ ∃ T' n' R' p', okT T' n' ∧ okR R' D ∧ n' ≤ 10 ∧ p + 1 ≤ p' ∧ p' ≤ ts ∧ sT tl ts T n R p T' n' R' p'
theorem ss_3 {tl : Nat → Int32} {ts : Nat} {T : lm_T} {n : Nat} {R : Nat → Int32} {D p : Nat} (hT : okT T n) (hO : okR R D) (hn : n ≤ 10) (hts : ts ≤ 250) (hp : p ≤ ts) (w3 : wdq tl ts p wL3 = true) : SS tl ts T n R D p := by
  have w0 := wd_ex (s' := wL0) w3 (by decide) (by decide) (by decide)
  have w4 := wd_ex (s' := wL4) w3 (by decide) (by decide) (by decide)
  have w5 := wd_ex (s' := wL5) w3 (by decide) (by decide) (by decide)
  have w6 := wd_ex (s' := wL6) w3 (by decide) (by decide) (by decide)
  have w7 := wd_ex (s' := wL7) w3 (by decide) (by decide) (by decide)
  have w8 := wd_ex (s' := wL8) w3 (by decide) (by decide) (by decide)
  have w9 := wd_ex (s' := wL9) w3 (by decide) (by decide) (by decide)
  have w10 := wd_ex (s' := wL10) w3 (by decide) (by decide) (by decide)
  have hb := tk_b (tl := tl) hp
  have hF := wd_F w3
  have b1 := tk_b (tl := tl) hb.2.2.2.1
  have b2 := tk_b (tl := tl) b1.2.2.2.1
  have b3 := tk_b (tl := tl) b2.2.2.2.1
  have b4 := tk_b (tl := tl) b3.2.2.2.1
  cases n1 : nmO tl ts (tkE tl ts p) 0 7
  · exact Or.inl ⟨_, fun _ _ _ _ P => rs_o (t_rs3 (d := 0) P hts hp w0 w3 (rs_i (b0 := false) (fun _ _ q => q.1) (t_rMarkF (d := 19) P hts hp rfl n1))), fun _ _ _ _ _ P => y_sMarkF (d := 20) P hts hp rfl w0 w3 n1⟩
  · obtain ⟨m, v1, hm⟩ := wi_e (n := 7) (nm_t n1).2 (by decide)
    exact Or.inr ⟨_, _, _, _, hT, okR_10 hO (okS_or hO.1 (by omega)) (awk_or_ (by omega)), hn, (by omega), b1.2.2.2.1, fun _ _ _ _ P => rs_o (t_rs3 (d := 0) P hts hp w0 w3 (rs_i (b0 := true) (fun _ _ q => q.1) (t_rMarkT (d := 19) P hts hp rfl rfl hm n1 v1))), fun _ _ _ _ _ P => y_sMarkT (d := 20) P hts hp rfl rfl w0 w3 hm n1 v1⟩
theorem ss_4 {tl : Nat → Int32} {ts : Nat} {T : lm_T} {n : Nat} {R : Nat → Int32} {D p : Nat} (hT : okT T n) (hO : okR R D) (hn : n ≤ 10) (hts : ts ≤ 250) (hp : p ≤ ts) (w4 : wdq tl ts p wL4 = true) : SS tl ts T n R D p := by
  have w0 := wd_ex (s' := wL0) w4 (by decide) (by decide) (by decide)
  have w3 := wd_ex (s' := wL3) w4 (by decide) (by decide) (by decide)
  have w5 := wd_ex (s' := wL5) w4 (by decide) (by decide) (by decide)
  have w6 := wd_ex (s' := wL6) w4 (by decide) (by decide) (by decide)
  have w7 := wd_ex (s' := wL7) w4 (by decide) (by decide) (by decide)
  have w8 := wd_ex (s' := wL8) w4 (by decide) (by decide) (by decide)
  have w9 := wd_ex (s' := wL9) w4 (by decide) (by decide) (by decide)
  have w10 := wd_ex (s' := wL10) w4 (by decide) (by decide) (by decide)
  have hb := tk_b (tl := tl) hp
  have hF := wd_F w4
  have b1 := tk_b (tl := tl) hb.2.2.2.1
  have b2 := tk_b (tl := tl) b1.2.2.2.1
  have b3 := tk_b (tl := tl) b2.2.2.2.1
  have b4 := tk_b (tl := tl) b3.2.2.2.1
  cases n1 : nmO tl ts (tkE tl ts p) 0 3
  · exact Or.inl ⟨_, fun _ _ _ _ P => rs_o (t_rs4 (d := 0) P hts hp w0 w3 w4 (rs_i (b0 := false) (fun _ _ q => q.1) (t_rCountF1 (d := 19) P hts hp rfl n1))), fun _ _ _ _ _ P => y_sCountF1 (d := 20) P hts hp rfl w0 w3 w4 n1⟩
  · obtain ⟨c, v1, hc⟩ := wi_e (n := 3) (nm_t n1).2 (by decide)
    cases n2 : nmO tl ts (tkE tl ts (tkE tl ts p)) 0 23
    · exact Or.inl ⟨_, fun _ _ _ _ P => rs_o (t_rs4 (d := 0) P hts hp w0 w3 w4 (rs_i (b0 := false) (fun _ _ q => q.1) (t_rCountF2 (d := 19) P hts hp rfl rfl hc n1 v1 n2))), fun _ _ _ _ _ P => y_sCountF2 (d := 20) P hts hp rfl rfl w0 w3 w4 hc n1 v1 n2⟩
    · obtain ⟨v, v2, hv⟩ := wi_e (n := 23) (nm_t n2).2 (by decide)
      exact Or.inr ⟨_, _, _, _, hT, okR_10 hO (okS_with hO.1 (by omega) (by omega)) (awk_with (by omega) (by omega)), hn, (by omega), b2.2.2.2.1, fun _ _ _ _ P => rs_o (t_rs4 (d := 0) P hts hp w0 w3 w4 (rs_i (b0 := true) (fun _ _ q => q.1) (t_rCountT (d := 19) P hts hp rfl rfl rfl hc hv n1 v1 n2 v2))), fun _ _ _ _ _ P => y_sCountT (d := 20) P hts hp rfl rfl rfl w0 w3 w4 hc hv n1 v1 n2 v2⟩
theorem ss_5 {tl : Nat → Int32} {ts : Nat} {T : lm_T} {n : Nat} {R : Nat → Int32} {D p : Nat} (hT : okT T n) (hO : okR R D) (hn : n ≤ 10) (hts : ts ≤ 250) (hp : p ≤ ts) (w5 : wdq tl ts p wL5 = true) : SS tl ts T n R D p := by
  have w0 := wd_ex (s' := wL0) w5 (by decide) (by decide) (by decide)
  have w3 := wd_ex (s' := wL3) w5 (by decide) (by decide) (by decide)
  have w4 := wd_ex (s' := wL4) w5 (by decide) (by decide) (by decide)
  have w6 := wd_ex (s' := wL6) w5 (by decide) (by decide) (by decide)
  have w7 := wd_ex (s' := wL7) w5 (by decide) (by decide) (by decide)
  have w8 := wd_ex (s' := wL8) w5 (by decide) (by decide) (by decide)
  have w9 := wd_ex (s' := wL9) w5 (by decide) (by decide) (by decide)
  have w10 := wd_ex (s' := wL10) w5 (by decide) (by decide) (by decide)
  have hb := tk_b (tl := tl) hp
  have hF := wd_F w5
  have b1 := tk_b (tl := tl) hb.2.2.2.1
  have b2 := tk_b (tl := tl) b1.2.2.2.1
  have b3 := tk_b (tl := tl) b2.2.2.2.1
  have b4 := tk_b (tl := tl) b3.2.2.2.1
  cases n1 : nmO tl ts (tkE tl ts p) 0 1
  · exact Or.inl ⟨_, fun _ _ _ _ P => rs_o (t_rs5 (d := 0) P hts hp w0 w3 w4 w5 (rs_i (b0 := false) (fun _ _ q => q.1) (t_rMWpF1 (d := 19) P hts hp rfl n1))), fun _ _ _ _ _ P => rs_o (y_rs5 (d := 0) P hts hp w0 w3 w4 w5 (rs_i (b0 := false) (fun _ _ q => q.1) (y_w5F1 (d := 19) P hts hp rfl w5 n1)))⟩
  · obtain ⟨h, v1, hh⟩ := wi_e (n := 1) (nm_t n1).2 (by decide)
    cases n2 : nmO tl ts (tkE tl ts (tkE tl ts p)) 0 7
    · exact Or.inl ⟨_, fun _ _ _ _ P => rs_o (t_rs5 (d := 0) P hts hp w0 w3 w4 w5 (rs_i (b0 := false) (fun _ _ q => q.1) (t_rMWpF2 (d := 19) P hts hp rfl rfl hh n1 v1 n2))), fun _ _ _ _ _ P => rs_o (y_rs5 (d := 0) P hts hp w0 w3 w4 w5 (rs_i (b0 := false) (fun _ _ q => q.1) (y_w5F2 (d := 19) P hts hp rfl rfl w5 hh n1 v1 n2)))⟩
    · obtain ⟨w, v2, hw⟩ := wi_e (n := 7) (nm_t n2).2 (by decide)
      cases n3 : nmO tl ts (tkE tl ts (tkE tl ts (tkE tl ts p))) 0 99
      · exact Or.inl ⟨_, fun _ _ _ _ P => rs_o (t_rs5 (d := 0) P hts hp w0 w3 w4 w5 (rs_i (b0 := false) (fun _ _ q => q.1) (t_rMWpF3 (d := 19) P hts hp rfl rfl rfl hh n1 v1 hw n2 v2 n3))), fun _ _ _ _ _ P => rs_o (y_rs5 (d := 0) P hts hp w0 w3 w4 w5 (rs_i (b0 := false) (fun _ _ q => q.1) (y_w5F3 (d := 19) P hts hp rfl rfl rfl w5 hh n1 v1 hw n2 v2 n3)))⟩
      · obtain ⟨v, v3, hv⟩ := wi_e (n := 99) (nm_t n3).2 (by decide)
        have sb := (sg_b v (by omega)).1
        exact Or.inr ⟨_, _, _, _, okT_w hT sb.1 sb.2, hO, hn, (by omega), b3.2.2.2.1, fun _ _ _ _ P => rs_o (t_rs5 (d := 0) P hts hp w0 w3 w4 w5 (rs_i (b0 := true) (fun _ _ q => q.1) (t_rMWpT (d := 19) P hts hp rfl rfl rfl rfl hh n1 v1 hw n2 v2 hv n3 v3))), fun _ _ _ _ _ P => rs_o (y_rs5 (d := 0) P hts hp w0 w3 w4 w5 (rs_i (b0 := true) (fun _ _ q => q.1) (y_w5T (d := 19) P hts hp rfl rfl rfl rfl w5 hh n1 v1 hw n2 v2 hv n3 v3)))⟩
theorem ss_6 {tl : Nat → Int32} {ts : Nat} {T : lm_T} {n : Nat} {R : Nat → Int32} {D p : Nat} (hT : okT T n) (hO : okR R D) (hn : n ≤ 10) (hts : ts ≤ 250) (hp : p ≤ ts) (w6 : wdq tl ts p wL6 = true) : SS tl ts T n R D p := by
  have w0 := wd_ex (s' := wL0) w6 (by decide) (by decide) (by decide)
  have w3 := wd_ex (s' := wL3) w6 (by decide) (by decide) (by decide)
  have w4 := wd_ex (s' := wL4) w6 (by decide) (by decide) (by decide)
  have w5 := wd_ex (s' := wL5) w6 (by decide) (by decide) (by decide)
  have w7 := wd_ex (s' := wL7) w6 (by decide) (by decide) (by decide)
  have w8 := wd_ex (s' := wL8) w6 (by decide) (by decide) (by decide)
  have w9 := wd_ex (s' := wL9) w6 (by decide) (by decide) (by decide)
  have w10 := wd_ex (s' := wL10) w6 (by decide) (by decide) (by decide)
  have hb := tk_b (tl := tl) hp
  have hF := wd_F w6
  have b1 := tk_b (tl := tl) hb.2.2.2.1
  have b2 := tk_b (tl := tl) b1.2.2.2.1
  have b3 := tk_b (tl := tl) b2.2.2.2.1
  have b4 := tk_b (tl := tl) b3.2.2.2.1
  cases n1 : nmO tl ts (tkE tl ts p) 0 1
  · exact Or.inl ⟨_, fun _ _ _ _ P => rs_o (t_rs6 (d := 0) P hts hp w0 w3 w4 w5 w6 (rs_i (b0 := false) (fun _ _ q => q.1) (t_rMWmF1 (d := 19) P hts hp rfl n1))), fun _ _ _ _ _ P => rs_o (y_rs6 (d := 0) P hts hp w0 w3 w4 w5 w6 (rs_i (b0 := false) (fun _ _ q => q.1) (y_w6F1 (d := 19) P hts hp rfl w6 n1)))⟩
  · obtain ⟨h, v1, hh⟩ := wi_e (n := 1) (nm_t n1).2 (by decide)
    cases n2 : nmO tl ts (tkE tl ts (tkE tl ts p)) 0 7
    · exact Or.inl ⟨_, fun _ _ _ _ P => rs_o (t_rs6 (d := 0) P hts hp w0 w3 w4 w5 w6 (rs_i (b0 := false) (fun _ _ q => q.1) (t_rMWmF2 (d := 19) P hts hp rfl rfl hh n1 v1 n2))), fun _ _ _ _ _ P => rs_o (y_rs6 (d := 0) P hts hp w0 w3 w4 w5 w6 (rs_i (b0 := false) (fun _ _ q => q.1) (y_w6F2 (d := 19) P hts hp rfl rfl w6 hh n1 v1 n2)))⟩
    · obtain ⟨w, v2, hw⟩ := wi_e (n := 7) (nm_t n2).2 (by decide)
      cases n3 : nmO tl ts (tkE tl ts (tkE tl ts (tkE tl ts p))) 0 99
      · exact Or.inl ⟨_, fun _ _ _ _ P => rs_o (t_rs6 (d := 0) P hts hp w0 w3 w4 w5 w6 (rs_i (b0 := false) (fun _ _ q => q.1) (t_rMWmF3 (d := 19) P hts hp rfl rfl rfl hh n1 v1 hw n2 v2 n3))), fun _ _ _ _ _ P => rs_o (y_rs6 (d := 0) P hts hp w0 w3 w4 w5 w6 (rs_i (b0 := false) (fun _ _ q => q.1) (y_w6F3 (d := 19) P hts hp rfl rfl rfl w6 hh n1 v1 hw n2 v2 n3)))⟩
      · obtain ⟨v, v3, hv⟩ := wi_e (n := 99) (nm_t n3).2 (by decide)
        have sb := (sg_b v (by omega)).2
        exact Or.inr ⟨_, _, _, _, okT_w hT sb.1 sb.2, hO, hn, (by omega), b3.2.2.2.1, fun _ _ _ _ P => rs_o (t_rs6 (d := 0) P hts hp w0 w3 w4 w5 w6 (rs_i (b0 := true) (fun _ _ q => q.1) (t_rMWmT (d := 19) P hts hp rfl rfl rfl rfl hh n1 v1 hw n2 v2 hv n3 v3))), fun _ _ _ _ _ P => rs_o (y_rs6 (d := 0) P hts hp w0 w3 w4 w5 w6 (rs_i (b0 := true) (fun _ _ q => q.1) (y_w6T (d := 19) P hts hp rfl rfl rfl rfl w6 hh n1 v1 hw n2 v2 hv n3 v3)))⟩
theorem ss_7 {tl : Nat → Int32} {ts : Nat} {T : lm_T} {n : Nat} {R : Nat → Int32} {D p : Nat} (hT : okT T n) (hO : okR R D) (hn : n ≤ 10) (hts : ts ≤ 250) (hp : p ≤ ts) (w7 : wdq tl ts p wL7 = true) : SS tl ts T n R D p := by
  have w0 := wd_ex (s' := wL0) w7 (by decide) (by decide) (by decide)
  have w3 := wd_ex (s' := wL3) w7 (by decide) (by decide) (by decide)
  have w4 := wd_ex (s' := wL4) w7 (by decide) (by decide) (by decide)
  have w5 := wd_ex (s' := wL5) w7 (by decide) (by decide) (by decide)
  have w6 := wd_ex (s' := wL6) w7 (by decide) (by decide) (by decide)
  have w8 := wd_ex (s' := wL8) w7 (by decide) (by decide) (by decide)
  have w9 := wd_ex (s' := wL9) w7 (by decide) (by decide) (by decide)
  have w10 := wd_ex (s' := wL10) w7 (by decide) (by decide) (by decide)
  have hb := tk_b (tl := tl) hp
  have hF := wd_F w7
  have b1 := tk_b (tl := tl) hb.2.2.2.1
  have b2 := tk_b (tl := tl) b1.2.2.2.1
  have b3 := tk_b (tl := tl) b2.2.2.2.1
  have b4 := tk_b (tl := tl) b3.2.2.2.1
  cases n1 : nmO tl ts (tkE tl ts p) 0 1
  · exact Or.inl ⟨_, fun _ _ _ _ P => rs_o (t_rs7 (d := 0) P hts hp w0 w3 w4 w5 w6 w7 (rs_i (b0 := false) (fun _ _ q => q.1) (t_rCWpF1 (d := 19) P hts hp rfl n1))), fun _ _ _ _ _ P => rs_o (y_rs7 (d := 0) P hts hp w0 w3 w4 w5 w6 w7 (rs_i (b0 := false) (fun _ _ q => q.1) (y_w7F1 (d := 19) P hts hp rfl w7 n1)))⟩
  · obtain ⟨h, v1, hh⟩ := wi_e (n := 1) (nm_t n1).2 (by decide)
    cases n2 : nmO tl ts (tkE tl ts (tkE tl ts p)) 0 3
    · exact Or.inl ⟨_, fun _ _ _ _ P => rs_o (t_rs7 (d := 0) P hts hp w0 w3 w4 w5 w6 w7 (rs_i (b0 := false) (fun _ _ q => q.1) (t_rCWpF2 (d := 19) P hts hp rfl rfl hh n1 v1 n2))), fun _ _ _ _ _ P => rs_o (y_rs7 (d := 0) P hts hp w0 w3 w4 w5 w6 w7 (rs_i (b0 := false) (fun _ _ q => q.1) (y_w7F2 (d := 19) P hts hp rfl rfl w7 hh n1 v1 n2)))⟩
    · obtain ⟨w, v2, hw⟩ := wi_e (n := 3) (nm_t n2).2 (by decide)
      cases n3 : nmO tl ts (tkE tl ts (tkE tl ts (tkE tl ts p))) 0 9
      · exact Or.inl ⟨_, fun _ _ _ _ P => rs_o (t_rs7 (d := 0) P hts hp w0 w3 w4 w5 w6 w7 (rs_i (b0 := false) (fun _ _ q => q.1) (t_rCWpF3 (d := 19) P hts hp rfl rfl rfl hh n1 v1 hw n2 v2 n3))), fun _ _ _ _ _ P => rs_o (y_rs7 (d := 0) P hts hp w0 w3 w4 w5 w6 w7 (rs_i (b0 := false) (fun _ _ q => q.1) (y_w7F3 (d := 19) P hts hp rfl rfl rfl w7 hh n1 v1 hw n2 v2 n3)))⟩
      · obtain ⟨v, v3, hv⟩ := wi_e (n := 9) (nm_t n3).2 (by decide)
        have sb := (sg_b v (by omega)).1
        exact Or.inr ⟨_, _, _, _, okT_w hT sb.1 sb.2, hO, hn, (by omega), b3.2.2.2.1, fun _ _ _ _ P => rs_o (t_rs7 (d := 0) P hts hp w0 w3 w4 w5 w6 w7 (rs_i (b0 := true) (fun _ _ q => q.1) (t_rCWpT (d := 19) P hts hp rfl rfl rfl rfl hh n1 v1 hw n2 v2 hv n3 v3))), fun _ _ _ _ _ P => rs_o (y_rs7 (d := 0) P hts hp w0 w3 w4 w5 w6 w7 (rs_i (b0 := true) (fun _ _ q => q.1) (y_w7T (d := 19) P hts hp rfl rfl rfl rfl w7 hh n1 v1 hw n2 v2 hv n3 v3)))⟩
theorem ss_8 {tl : Nat → Int32} {ts : Nat} {T : lm_T} {n : Nat} {R : Nat → Int32} {D p : Nat} (hT : okT T n) (hO : okR R D) (hn : n ≤ 10) (hts : ts ≤ 250) (hp : p ≤ ts) (w8 : wdq tl ts p wL8 = true) : SS tl ts T n R D p := by
  have w0 := wd_ex (s' := wL0) w8 (by decide) (by decide) (by decide)
  have w3 := wd_ex (s' := wL3) w8 (by decide) (by decide) (by decide)
  have w4 := wd_ex (s' := wL4) w8 (by decide) (by decide) (by decide)
  have w5 := wd_ex (s' := wL5) w8 (by decide) (by decide) (by decide)
  have w6 := wd_ex (s' := wL6) w8 (by decide) (by decide) (by decide)
  have w7 := wd_ex (s' := wL7) w8 (by decide) (by decide) (by decide)
  have w9 := wd_ex (s' := wL9) w8 (by decide) (by decide) (by decide)
  have w10 := wd_ex (s' := wL10) w8 (by decide) (by decide) (by decide)
  have hb := tk_b (tl := tl) hp
  have hF := wd_F w8
  have b1 := tk_b (tl := tl) hb.2.2.2.1
  have b2 := tk_b (tl := tl) b1.2.2.2.1
  have b3 := tk_b (tl := tl) b2.2.2.2.1
  have b4 := tk_b (tl := tl) b3.2.2.2.1
  cases n1 : nmO tl ts (tkE tl ts p) 0 1
  · exact Or.inl ⟨_, fun _ _ _ _ P => rs_o (t_rs8 (d := 0) P hts hp w0 w3 w4 w5 w6 w7 w8 (rs_i (b0 := false) (fun _ _ q => q.1) (t_rCWmF1 (d := 19) P hts hp rfl n1))), fun _ _ _ _ _ P => rs_o (y_rs8 (d := 0) P hts hp w0 w3 w4 w5 w6 w7 w8 (rs_i (b0 := false) (fun _ _ q => q.1) (y_w8F1 (d := 19) P hts hp rfl w8 n1)))⟩
  · obtain ⟨h, v1, hh⟩ := wi_e (n := 1) (nm_t n1).2 (by decide)
    cases n2 : nmO tl ts (tkE tl ts (tkE tl ts p)) 0 3
    · exact Or.inl ⟨_, fun _ _ _ _ P => rs_o (t_rs8 (d := 0) P hts hp w0 w3 w4 w5 w6 w7 w8 (rs_i (b0 := false) (fun _ _ q => q.1) (t_rCWmF2 (d := 19) P hts hp rfl rfl hh n1 v1 n2))), fun _ _ _ _ _ P => rs_o (y_rs8 (d := 0) P hts hp w0 w3 w4 w5 w6 w7 w8 (rs_i (b0 := false) (fun _ _ q => q.1) (y_w8F2 (d := 19) P hts hp rfl rfl w8 hh n1 v1 n2)))⟩
    · obtain ⟨w, v2, hw⟩ := wi_e (n := 3) (nm_t n2).2 (by decide)
      cases n3 : nmO tl ts (tkE tl ts (tkE tl ts (tkE tl ts p))) 0 9
      · exact Or.inl ⟨_, fun _ _ _ _ P => rs_o (t_rs8 (d := 0) P hts hp w0 w3 w4 w5 w6 w7 w8 (rs_i (b0 := false) (fun _ _ q => q.1) (t_rCWmF3 (d := 19) P hts hp rfl rfl rfl hh n1 v1 hw n2 v2 n3))), fun _ _ _ _ _ P => rs_o (y_rs8 (d := 0) P hts hp w0 w3 w4 w5 w6 w7 w8 (rs_i (b0 := false) (fun _ _ q => q.1) (y_w8F3 (d := 19) P hts hp rfl rfl rfl w8 hh n1 v1 hw n2 v2 n3)))⟩
      · obtain ⟨v, v3, hv⟩ := wi_e (n := 9) (nm_t n3).2 (by decide)
        have sb := (sg_b v (by omega)).2
        exact Or.inr ⟨_, _, _, _, okT_w hT sb.1 sb.2, hO, hn, (by omega), b3.2.2.2.1, fun _ _ _ _ P => rs_o (t_rs8 (d := 0) P hts hp w0 w3 w4 w5 w6 w7 w8 (rs_i (b0 := true) (fun _ _ q => q.1) (t_rCWmT (d := 19) P hts hp rfl rfl rfl rfl hh n1 v1 hw n2 v2 hv n3 v3))), fun _ _ _ _ _ P => rs_o (y_rs8 (d := 0) P hts hp w0 w3 w4 w5 w6 w7 w8 (rs_i (b0 := true) (fun _ _ q => q.1) (y_w8T (d := 19) P hts hp rfl rfl rfl rfl w8 hh n1 v1 hw n2 v2 hv n3 v3)))⟩
theorem ss_9 {tl : Nat → Int32} {ts : Nat} {T : lm_T} {n : Nat} {R : Nat → Int32} {D p : Nat} (hT : okT T n) (hO : okR R D) (hn : n ≤ 10) (hts : ts ≤ 250) (hp : p ≤ ts) (w9 : wdq tl ts p wL9 = true) : SS tl ts T n R D p := by
  have w0 := wd_ex (s' := wL0) w9 (by decide) (by decide) (by decide)
  have w3 := wd_ex (s' := wL3) w9 (by decide) (by decide) (by decide)
  have w4 := wd_ex (s' := wL4) w9 (by decide) (by decide) (by decide)
  have w5 := wd_ex (s' := wL5) w9 (by decide) (by decide) (by decide)
  have w6 := wd_ex (s' := wL6) w9 (by decide) (by decide) (by decide)
  have w7 := wd_ex (s' := wL7) w9 (by decide) (by decide) (by decide)
  have w8 := wd_ex (s' := wL8) w9 (by decide) (by decide) (by decide)
  have w10 := wd_ex (s' := wL10) w9 (by decide) (by decide) (by decide)
  have hb := tk_b (tl := tl) hp
  have hF := wd_F w9
  have b1 := tk_b (tl := tl) hb.2.2.2.1
  have b2 := tk_b (tl := tl) b1.2.2.2.1
  have b3 := tk_b (tl := tl) b2.2.2.2.1
  have b4 := tk_b (tl := tl) b3.2.2.2.1
  cases n1 : nmO tl ts (tkE tl ts p) 0 7
  · exact Or.inl ⟨_, fun _ _ _ _ P => rs_o (t_rs9 (d := 0) P hts hp w0 w3 w4 w5 w6 w7 w8 w9 (rs_i (b0 := false) (fun _ _ q => q.1) (t_rHideF (d := 19) P hts hp rfl n1))), fun _ _ _ _ _ P => y_sHideF (d := 20) P hts hp rfl w0 w3 w4 w5 w6 w7 w8 w9 n1⟩
  · obtain ⟨m, v1, hm⟩ := wi_e (n := 7) (nm_t n1).2 (by decide)
    exact Or.inr ⟨_, _, _, _, hT, okR_11 hO (by omega), hn, (by omega), b1.2.2.2.1, fun _ _ _ _ P => rs_o (t_rs9 (d := 0) P hts hp w0 w3 w4 w5 w6 w7 w8 w9 (rs_i (b0 := true) (fun _ _ q => q.1) (t_rHideT (d := 19) P hts hp rfl rfl hm n1 v1))), fun _ _ _ _ _ P => y_sHideT (d := 20) P hts hp rfl rfl w0 w3 w4 w5 w6 w7 w8 w9 hm n1 v1⟩
theorem ss_10 {tl : Nat → Int32} {ts : Nat} {T : lm_T} {n : Nat} {R : Nat → Int32} {D p : Nat} (hT : okT T n) (hO : okR R D) (hn : n ≤ 10) (hts : ts ≤ 250) (hp : p ≤ ts) (w10 : wdq tl ts p wL10 = true) : SS tl ts T n R D p := by
  have w0 := wd_ex (s' := wL0) w10 (by decide) (by decide) (by decide)
  have w3 := wd_ex (s' := wL3) w10 (by decide) (by decide) (by decide)
  have w4 := wd_ex (s' := wL4) w10 (by decide) (by decide) (by decide)
  have w5 := wd_ex (s' := wL5) w10 (by decide) (by decide) (by decide)
  have w6 := wd_ex (s' := wL6) w10 (by decide) (by decide) (by decide)
  have w7 := wd_ex (s' := wL7) w10 (by decide) (by decide) (by decide)
  have w8 := wd_ex (s' := wL8) w10 (by decide) (by decide) (by decide)
  have w9 := wd_ex (s' := wL9) w10 (by decide) (by decide) (by decide)
  have hb := tk_b (tl := tl) hp
  have hF := wd_F w10
  have b1 := tk_b (tl := tl) hb.2.2.2.1
  have b2 := tk_b (tl := tl) b1.2.2.2.1
  have b3 := tk_b (tl := tl) b2.2.2.2.1
  have b4 := tk_b (tl := tl) b3.2.2.2.1
  cases n1 : nmO tl ts (tkE tl ts p) 0 1
  · exact Or.inl ⟨_, fun _ _ _ _ P => rs_o (t_rs10 (d := 0) P hts hp w0 w3 w4 w5 w6 w7 w8 w9 w10 (rs_i (b0 := false) (fun _ _ q => q.1) (t_rLockF1 (d := 19) P hts hp rfl n1))), fun _ _ _ _ _ P => y_sLockF1 (d := 20) P hts hp rfl w0 w3 w4 w5 w6 w7 w8 w9 w10 n1⟩
  · obtain ⟨h, v1, hh⟩ := wi_e (n := 1) (nm_t n1).2 (by decide)
    cases n2 : nmO tl ts (tkE tl ts (tkE tl ts p)) 0 (nI n - 1)
    · exact Or.inl ⟨_, fun _ _ _ _ P => rs_o (t_rs10 (d := 0) P hts hp w0 w3 w4 w5 w6 w7 w8 w9 w10 (rs_i (b0 := false) (fun _ _ q => q.1) (t_rLockF2 (d := 19) P hts hp rfl rfl hh n1 v1 n2))), fun _ _ _ _ _ P => y_sLockF2 (d := 20) P hts hp rfl rfl w0 w3 w4 w5 w6 w7 w8 w9 w10 hh n1 v1 n2⟩
    · obtain ⟨a, v2, ha⟩ := (wi_p (by omega)).mp (nm_t n2).2
      obtain ⟨k0, m0, c0, x0, dd, bb, l, -, -, -, -, -, -, -, -, -, -, -, -, -, el, hl4⟩ := hT.1 a ha
      obtain ⟨l2, hl2, el2⟩ := lk_ok l hl4 h (by omega) true
      exact Or.inr ⟨_, _, _, _, okT_l hT hl2 (by rw [el]; exact el2), hO, hn, (by omega), b2.2.2.2.1, fun _ _ _ _ P => rs_o (t_rs10 (d := 0) P hts hp w0 w3 w4 w5 w6 w7 w8 w9 w10 (rs_i (b0 := true) (fun _ _ q => q.1) (t_rLockT (d := 19) P hts hp rfl rfl rfl hh n1 v1 ha n2 v2))), fun _ _ _ _ _ P => y_sLockT (d := 20) P hts hp rfl rfl rfl w0 w3 w4 w5 w6 w7 w8 w9 w10 hh n1 v1 ha n2 v2⟩
theorem ss_0 {tl : Nat → Int32} {ts : Nat} {T : lm_T} {n : Nat} {R : Nat → Int32} {D p : Nat} (hT : okT T n) (hO : okR R D) (hn : n ≤ 10) (hts : ts ≤ 250) (hp : p ≤ ts) (w0 : wdq tl ts p wL0 = true) : SS tl ts T n R D p := by
  have w3 := wd_ex (s' := wL3) w0 (by decide) (by decide) (by decide)
  have w4 := wd_ex (s' := wL4) w0 (by decide) (by decide) (by decide)
  have w5 := wd_ex (s' := wL5) w0 (by decide) (by decide) (by decide)
  have w6 := wd_ex (s' := wL6) w0 (by decide) (by decide) (by decide)
  have w7 := wd_ex (s' := wL7) w0 (by decide) (by decide) (by decide)
  have w8 := wd_ex (s' := wL8) w0 (by decide) (by decide) (by decide)
  have w9 := wd_ex (s' := wL9) w0 (by decide) (by decide) (by decide)
  have w10 := wd_ex (s' := wL10) w0 (by decide) (by decide) (by decide)
  have hb := tk_b (tl := tl) hp
  have hF := wd_F w0
  have b1 := tk_b (tl := tl) hb.2.2.2.1
  have b2 := tk_b (tl := tl) b1.2.2.2.1
  have b3 := tk_b (tl := tl) b2.2.2.2.1
  have b4 := tk_b (tl := tl) b3.2.2.2.1
  by_cases hn9 : n < 10
  · cases n1 : nmO tl ts (tkE tl ts p) 0 5
    · exact Or.inl ⟨_, fun _ _ _ _ P => rs_o (t_rs0 (d := 0) P hts hp w0 (rs_i (b0 := false) (fun _ _ q => q.1) (t_rActF1 (d := 9) P hts hp rfl hn9  n1))), fun _ _ _ _ _ P => rs_o (y_rs0 (d := 0) P hts hp w0 hn9 (rs_i (b0 := false) (fun _ _ q => q.1) (y_aF1 (d := 9) P hts hp rfl w0 hn9  n1)))⟩
    · obtain ⟨a0, v1, g0⟩ := wi_e (n := 5) (nm_t n1).2 (by decide)
      cases n2 : nmO tl ts (tkE tl ts (tkE tl ts p)) 0 7
      · exact Or.inl ⟨_, fun _ _ _ _ P => rs_o (t_rs0 (d := 0) P hts hp w0 (rs_i (b0 := false) (fun _ _ q => q.1) (t_rActF2 (d := 9) P hts hp rfl rfl hn9 g0 n1 v1 n2))), fun _ _ _ _ _ P => rs_o (y_rs0 (d := 0) P hts hp w0 hn9 (rs_i (b0 := false) (fun _ _ q => q.1) (y_aF2 (d := 9) P hts hp rfl rfl w0 hn9 g0 n1 v1 n2)))⟩
      · obtain ⟨a1, v2, g1⟩ := wi_e (n := 7) (nm_t n2).2 (by decide)
        cases n3 : nmO tl ts (tkE tl ts (tkE tl ts (tkE tl ts p))) 0 3
        · exact Or.inl ⟨_, fun _ _ _ _ P => rs_o (t_rs0 (d := 0) P hts hp w0 (rs_i (b0 := false) (fun _ _ q => q.1) (t_rActF3 (d := 9) P hts hp rfl rfl rfl hn9 g0 n1 v1 g1 n2 v2 n3))), fun _ _ _ _ _ P => rs_o (y_rs0 (d := 0) P hts hp w0 hn9 (rs_i (b0 := false) (fun _ _ q => q.1) (y_aF3 (d := 9) P hts hp rfl rfl rfl w0 hn9 g0 n1 v1 g1 n2 v2 n3)))⟩
        · obtain ⟨a2, v3, g2⟩ := wi_e (n := 3) (nm_t n3).2 (by decide)
          cases n4 : nmO tl ts (tkE tl ts (tkE tl ts (tkE tl ts (tkE tl ts p)))) 1 9
          · exact Or.inl ⟨_, fun _ _ _ _ P => rs_o (t_rs0 (d := 0) P hts hp w0 (rs_i (b0 := false) (fun _ _ q => q.1) (t_rActF4 (d := 9) P hts hp rfl rfl rfl rfl hn9 g0 n1 v1 g1 n2 v2 g2 n3 v3 n4))), fun _ _ _ _ _ P => rs_o (y_rs0 (d := 0) P hts hp w0 hn9 (rs_i (b0 := false) (fun _ _ q => q.1) (y_aF4 (d := 9) P hts hp rfl rfl rfl rfl w0 hn9 g0 n1 v1 g1 n2 v2 g2 n3 v3 n4)))⟩
          · obtain ⟨a3, v4, g3, g3b⟩ := wi_e1 (n := 9) (nm_t n4).2 (by decide)
            obtain ⟨e1, w1_, d1, c1, c2⟩ := mb_ok (tl := tl) (wL := wL1) ts (tkE tl ts (tkE tl ts (tkE tl ts (tkE tl ts (tkE tl ts p))))) 0 b4.2.2.2.1 (by decide)
            cases m1 : (mbS tl ts wL1 ts (tkE tl ts (tkE tl ts (tkE tl ts (tkE tl ts (tkE tl ts p))))) 0).1
            · exact Or.inl ⟨_, fun _ _ _ _ P => rs_o (t_rs0 (d := 0) P hts hp w0 (rs_i (b0 := false) (fun _ _ q => q.1) (t_rActF5 (d := 9) P hts hp rfl rfl rfl rfl rfl hn9 g0 n1 v1 g1 n2 v2 g2 n3 v3 g3 g3b n4 v4 m1))), fun _ _ _ _ _ P => rs_o (y_rs0 (d := 0) P hts hp w0 hn9 (rs_i (b0 := false) (fun _ _ q => q.1) (y_aF5 (d := 9) P hts hp rfl rfl rfl rfl rfl w0 hn9 g0 n1 v1 g1 n2 v2 g2 n3 v3 g3 g3b n4 v4 m1)))⟩
            · obtain ⟨e2, w2_, d2, c3, c4⟩ := mb_ok (tl := tl) (wL := wL2) ts (mbS tl ts wL1 ts (tkE tl ts (tkE tl ts (tkE tl ts (tkE tl ts (tkE tl ts p))))) (nI 0)).2.2 0 c2 (by decide)
              cases m2 : (mbS tl ts wL2 ts (mbS tl ts wL1 ts (tkE tl ts (tkE tl ts (tkE tl ts (tkE tl ts (tkE tl ts p))))) 0).2.2 0).1
              · exact Or.inl ⟨_, fun _ _ _ _ P => rs_o (t_rs0 (d := 0) P hts hp w0 (rs_i (b0 := false) (fun _ _ q => q.1) (t_rActF6 (d := 9) P hts hp rfl rfl rfl rfl rfl hn9 g0 n1 v1 g1 n2 v2 g2 n3 v3 g3 g3b n4 v4 w1_ m1 d1 rfl m2))), fun _ _ _ _ _ P => rs_o (y_rs0 (d := 0) P hts hp w0 hn9 (rs_i (b0 := false) (fun _ _ q => q.1) (y_aF6 (d := 9) P hts hp rfl rfl rfl rfl rfl w0 hn9 g0 n1 v1 g1 n2 v2 g2 n3 v3 g3 g3b n4 v4 w1_ m1 d1 rfl m2)))⟩
              · exact Or.inr ⟨_, _, _, _, okT_ad hT g0 g1 g2 g3 g3b (by omega) (by omega), hO, (by omega), (Nat.le_trans (show p + 1 ≤ (tkE tl ts (tkE tl ts (tkE tl ts (tkE tl ts (tkE tl ts p))))) by omega) (Nat.le_trans c1 c3)), c4, fun _ _ _ _ P => rs_o (t_rs0 (d := 0) P hts hp w0 (rs_i (b0 := true) (fun _ _ q => q.1) (t_rActT (d := 9) P hts hp rfl rfl rfl rfl rfl hn9 g0 n1 v1 g1 n2 v2 g2 n3 v3 g3 g3b n4 v4 w1_ m1 d1 rfl w2_ m2 d2 rfl))), fun _ _ _ _ _ P => rs_o (y_rs0 (d := 0) P hts hp w0 hn9 (rs_i (b0 := true) (fun _ _ q => q.1) (y_aT (d := 9) P hts hp rfl rfl rfl rfl rfl w0 hn9 g0 n1 v1 g1 n2 v2 g2 n3 v3 g3 g3b n4 v4 w1_ m1 d1 rfl w2_ m2 d2 rfl)))⟩
  · exact Or.inl ⟨_, fun _ _ _ _ P => rs_o (t_rs0 (d := 0) P hts hp w0 (rs_i (b0 := false) (fun _ _ q => q.1) (t_rActFull (d := 9) P hts hp rfl (by omega)))), fun _ _ _ _ _ P => y_sFull (d := 20) P hts hp w0 w3 w4 w5 w6 w7 w8 w9 w10 (by omega)⟩
theorem ss_all {tl : Nat → Int32} {ts : Nat} {T : lm_T} {n : Nat} {R : Nat → Int32} {D p : Nat} (hT : okT T n) (hO : okR R D) (hn : n ≤ 10) (hts : ts ≤ 250) (hp : p ≤ ts) : SS tl ts T n R D p := by
  cases w0 : wdq tl ts p wL0 with
  | true => exact ss_0 hT hO hn hts hp w0
  | false =>
    cases w3 : wdq tl ts p wL3 with
    | true => exact ss_3 hT hO hn hts hp w3
    | false =>
      cases w4 : wdq tl ts p wL4 with
      | true => exact ss_4 hT hO hn hts hp w4
      | false =>
        cases w5 : wdq tl ts p wL5 with
        | true => exact ss_5 hT hO hn hts hp w5
        | false =>
          cases w6 : wdq tl ts p wL6 with
          | true => exact ss_6 hT hO hn hts hp w6
          | false =>
            cases w7 : wdq tl ts p wL7 with
            | true => exact ss_7 hT hO hn hts hp w7
            | false =>
              cases w8 : wdq tl ts p wL8 with
              | true => exact ss_8 hT hO hn hts hp w8
              | false =>
                cases w9 : wdq tl ts p wL9 with
                | true => exact ss_9 hT hO hn hts hp w9
                | false =>
                  cases w10 : wdq tl ts p wL10 with
                  | true => exact ss_10 hT hO hn hts hp w10
                  | false =>
                    exact Or.inl ⟨_, fun _ _ _ _ P => t_rsN (d := 0) P hts hp w0 w3 w4 w5 w6 w7 w8 w9 w10, fun _ _ _ _ _ P => y_sNone (d := 20) P hts hp w0 w3 w4 w5 w6 w7 w8 w9 w10⟩
