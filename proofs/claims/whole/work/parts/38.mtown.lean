set_option maxRecDepth 16384
/-! the reference: the rest of a town; goes, takeFrom -/
def rR (hi : Nat → Nat → Int32) (b : Nat) (R : Nat → Int32) : Prop := rS hi b (R 10) ∧ hi b 15 = R 11 ∧ hi b 14 = R 12 ∧ hi b 21 = R 13 ∧ (R 15 = 1 → hi b 19 = s_marks (R 14) ∧ ∀ c, c < 4 → hi (b + 34) c = s_count (R 14) (nI c)) ∧ hi b 18 = R 15 ∧ hi (b + 33) 0 = R 20 ∧ hi (b + 33) 1 = R 21
/-- what a town's rest keeps to: D days -/
def okR (R : Nat → Int32) (D : Nat) : Prop := okS (R 10) ∧ (∃ u, u < 256 ∧ R 11 = nI u) ∧ R 12 = nI D ∧ awk (R 10) = D % 2 ∧ (R 15 = 0 ∨ R 15 = 1) ∧ (R 15 = 1 → okS (R 14) ∧ awk (R 14) = (D + 1) % 2)
/-- of an object only the town may have changed -/
def rQ (hi hi' : Nat → Nat → Int32) (b : Nat) : Prop := (∀ a, (a < b ∨ b + 49 ≤ a ∨ (b + 1 ≤ a ∧ a < b + 18)) → hi' a = hi a) ∧ hi' b 8 = hi b 8
theorem rQ_rfl {hi : Nat → Nat → Int32} {b : Nat} : rQ hi hi b := ⟨fun _ _ => rfl, rfl⟩
theorem rQ_trans {h0 h1 h2 : Nat → Nat → Int32} {b : Nat} (f : rQ h0 h1 b) (k : rQ h1 h2 b) : rQ h0 h2 b := ⟨fun a h => (k.1 a h).trans (f.1 a h), k.2.trans f.2⟩
theorem rQ_fr {hi hi' : Nat → Nat → Int32} {b lo up : Nat} (f : fr lo up hi hi') (h : b + 18 ≤ lo ∧ up ≤ b + 49) : rQ hi hi' b := ⟨fun a ha => f a (by omega), by rw [f b (by omega)]⟩
theorem rR_fr {hi hi' : Nat → Nat → Int32} {b lo up : Nat} {R : Nat → Int32} (f : fr lo up hi hi') (hd : b + 35 ≤ lo ∨ up ≤ b ∨ (b < lo ∧ up ≤ b + 29)) (H : rR hi b R) : rR hi' b R := by
  unfold rR rS
  rw [f b (by omega), f (b + 29) (by omega), f (b + 33) (by omega), f (b + 34) (by omega)]
  exact H
theorem okR_lv {T : lm_T} {n D i : Nat} {R : Nat → Int32} (hT : okT T n) (hi : i ≤ n) (hal : alw T i (awk (R 10)) (R 10) = true) (h : okR R D) : okR (lvR T i R) (D + 1) := by
  obtain ⟨h1, h2, h3, h4, h5, h6⟩ := h
  have hok := aft_ok hT hi hal
  have hw := awk_lt (R 10)
  refine ⟨?_, ?_, ?_, ?_, ?_, ?_⟩
  · show okS (s_next (aft T i (R 10)))
    exact okS_next (hok.1 h1)
  · have e : lvR T i R 11 = R 11 := by simp [lvR]; omega
    rw [e]; exact h2
  · show R 12 + 1 = nI (D + 1)
    rw [h3, nI_succ]
  · show awk (s_next (aft T i (R 10))) = _
    rw [awk_next, hok.2]; omega
  · right; rfl
  · intro _
    have e : lvR T i R 14 = R 10 := rfl
    rw [e]
    exact ⟨h1, by omega⟩
theorem m_overW {d : Nat} {hi : Nat → Nat → Int32} {hl : Nat → Nat → Int64} {X : lm_X} {p q N : Nat} (k0 : X.2.1 p = 1) (k1 : X.2.1 q = 1) (l0 : X.2.2.1 p = N) (l1 : X.2.2.1 q = N) (g1 : 64 ≤ q) (hpq : p ≠ q) (hN : N < 1000) : lm_w d 221 [.ref p, .ref q] (hi, hl, X) (fun v h1 => ∃ hi', v = none ∧ h1 = (hi', hl, X) ∧ (∀ j, j < N → hi' q j = hi p j) ∧ (∀ a, a ≠ q → hi' a = hi a)) := by
  refine lm_w_of (m_over k0 k1 l0 l1 g1 hpq hN) ⟨_, rfl, rfl, fun j hj => ?_, fun a ha => lm_rw_na ha⟩
  rw [lm_rw_eq]
  unfold ovr
  exact if_pos hj
theorem m_goes0 {d : Nat} {hi : Nat → Nat → Int32} {hl : Nat → Nat → Int64} {X : lm_X} {b n D i : Nat} {T : lm_T} {R : Nat → Int32} (S : sh_M X b) (H : rT hi b T n) (HR : rR hi b R) (hT : okT T n) (hO : okR R D) (hD : D < 2147483647) (hi10 : i ≤ n) (hal : alw T i (awk (R 10)) (R 10) = true) (hz : awk (R 10) = 0) : lm_w (d + 2) 181 [.ref b, .int (aI i)] (hi, hl, X) (fun v h1 => ∃ hi', v = none ∧ h1 = (hi', hl, X) ∧ rT hi' b T n ∧ rR hi' b (lvR T i R) ∧ (∀ a, a ≠ b → a ≠ b + 29 → a ≠ b + 33 → a ≠ b + 34 → hi' a = hi a) ∧ (∀ j, j ≠ 12 → j ≠ 14 → j ≠ 18 → j ≠ 19 → hi' b j = hi b j)) := by
  refine lm_w_in (Nat.le_of_ble_eq_true rfl) ?_
  show lm_wp (d + 2) 181 0 [.ref b, .int (aI i)] [] (hi, hl, X) _
  refine w_N 2 2 [.ref b, .int (aI i)] [.int 1, .ref b] rfl ?_
  refine w_pb rfl rfl rfl rfl (M_kd S) (M_64 S) (by decide) ?_
  refine w_N 2 7 [.ref b, .int (aI i)] [.ref b, .ref b] rfl ?_
  refine w_gi (v := s_marks (R 10)) rfl rfl rfl (M_kd S) ((lm_up_nk (by decide)).trans (HR.1.1)) ?_
  refine w_pi rfl rfl rfl rfl (M_kd S) (M_64 S) ?_
  refine w_N 1 14 [.ref b, .int (aI i)] [.ref b] rfl ?_
  refine w_gr (b + 29) rfl rfl rfl (M_kd S) (M_r S (k := 13) (o := 29) rfl) ?_
  refine w_N 1 18 [.ref b, .int (aI i)] [.ref b, .ref (b + 29)] rfl ?_
  refine w_gr (b + 34) rfl rfl rfl (M_kd S) (M_r S (k := 20) (o := 34) rfl) ?_
  refine w_ca rfl (m_overW (N := 4) (show X.2.1 (b + 29) = 1 from M_k S 29 (by decide)) (show X.2.1 (b + 34) = 1 from M_k S 34 (by decide)) (show X.2.2.1 (b + 29) = 4 from M_l S 29 (by decide)) (show X.2.2.1 (b + 34) = 4 from M_l S 34 (by decide)) (by have := M_64 S; omega) (by omega) (by decide)) ?_
  rintro _ _ ⟨hi2, rfl, rfl, A2, B2⟩
  have HS2 : rS hi2 b (R 10) := by
    refine ⟨?_, fun c hc => ?_⟩
    · rw [B2 b (by omega), lm_up_nk (by decide), lm_up_nk (by decide)]; exact HR.1.1
    · rw [B2 (b + 29) (by omega), lm_up_na (by omega), lm_up_na (by omega)]; exact HR.1.2 c hc
  have H2 : rT hi2 b T n := by
    have hn := rTle H
    refine ⟨fun k hk a ha => ?_, fun h hh w hw => ?_, ?_, hn⟩
    · rw [B2 _ (by omega), lm_up_na (by omega), lm_up_na (by omega)]; exact H.1 k hk a ha
    · rw [B2 _ (by omega), lm_up_na (by omega), lm_up_na (by omega)]; exact H.2.1 h hh w hw
    · rw [B2 _ (by omega), lm_up_nk (by decide), lm_up_nk (by decide)]; exact H.2.2.1
  have q33 : hi2 (b + 33) = hi (b + 33) := by rw [B2 _ (by omega), lm_up_rw (by omega), lm_up_rw (by omega)]
  have q34 : ∀ c, c < 4 → hi2 (b + 34) c = s_count (R 10) (nI c) := fun c hc => by rw [A2 c hc, lm_up_na (by omega), lm_up_na (by omega)]; exact HR.1.2 c hc
  have qb : ∀ j, j ≠ 18 → j ≠ 19 → hi2 b j = hi b j := fun j j1 j2 => by rw [B2 b (by omega), lm_up_nk j2, lm_up_nk j1]
  have q18 : hi2 b 18 = 1 := by rw [B2 b (by omega), lm_up_nk (by decide), lm_up_eq]
  have q19 : hi2 b 19 = s_marks (R 10) := by rw [B2 b (by omega), lm_up_eq]
  have qa : ∀ a, a ≠ b → a ≠ b + 34 → hi2 a = hi a := fun a a1 a2 => by rw [B2 a a2, lm_up_rw a1, lm_up_rw a1]
  clear A2 B2
  show lm_wp _ 181 24 [.ref b, .int (aI i)] [] (hi2, hl, X) _
  refine w_N 2 26 [.ref b, .int (aI i)] [.int (aI i), .ref b] rfl ?_
  refine w_ca (w_vst rfl rfl rfl (Nat.le_of_ble_eq_true rfl) (Nat.le_of_ble_eq_true rfl) (M_kd S)) (m_doIt (hf := awk (R 10)) (i := i) S H2 HS2 hT rfl hi10 hal) ?_
  rintro _ _ ⟨hi3, rfl, rfl, HS3, X3, D3⟩
  have H3 := rT_X X3 H2
  have D3a : hi3 b 14 = nI D := by rw [D3, qb 14 (by decide) (by decide)]; exact HR.2.2.1.trans hO.2.2.1
  have g3 : hi3 (b + 33) 0 = R 20 := by rw [X3.1 _ (by omega) (by omega), q33]; exact HR.2.2.2.2.2.2.1
  show lm_wp _ 181 29 [.ref b, .int (aI i)] [] (hi3, hl, X) _
  refine w_N 1 30 [.ref b, .int (aI i)] [.ref b] rfl ?_
  refine w_gr (b + 33) rfl rfl rfl (M_kd S) (M_r S (k := 17) (o := 33) rfl) ?_
  refine w_N 1 34 [.ref b, .int (aI i)] [.ref b, .ref (b + 33)] rfl ?_
  refine w_gi (v := nI D) rfl rfl rfl (M_kd S) (D3a) ?_
  refine w_N 1 38 [.ref b, .int (aI i)] [.int 2, .int (nI D), .ref (b + 33)] rfl ?_
  refine w_rem rfl (by decide) ?_
  rw [show nI D - nI D / 2 * 2 = 0 from (rem2 (by omega)).trans (congrArg nI (hO.2.2.2.1.symm.trans hz))]
  refine w_N 1 40 [.ref b, .int (aI i)] [.int 0, .ref (b + 33), .int 0, .ref (b + 33)] rfl ?_
  refine w_ia 0 (v := R 20) rfl (show X.2.1 (b + 33) = 1 from M_k S 33 (by decide)) (show X.2.2.1 (b + 33) = 2 from M_l S 33 (by decide)) rfl (by decide) (by decide) (g3) ?_
  refine w_N 2 43 [.ref b, .int (aI i)] [.ref b, .ref b, .int (R 20), .int 0, .ref (b + 33)] rfl ?_
  refine w_gi (v := nI D) rfl rfl rfl (M_kd S) (D3a) ?_
  refine w_N 1 47 [.ref b, .int (aI i)] [.int 2, .int (nI D), .ref b, .int (R 20), .int 0, .ref (b + 33)] rfl ?_
  refine w_rem rfl (by decide) ?_
  rw [show nI D - nI D / 2 * 2 = 0 from (rem2 (by omega)).trans (congrArg nI (hO.2.2.2.1.symm.trans hz))]
  refine w_cc (w_vst rfl rfl rfl (Nat.le_of_ble_eq_true rfl) (Nat.le_of_ble_eq_true rfl) (M_kd S)) (m_valueOfE (d := d) (hf := 0) S H3 HS3 rfl (by decide)) ?_
  show lm_wp _ 181 51 [.ref b, .int (aI i)] [.int (val T 0 (aft T i (R 10))), .int (R 20), .int 0, .ref (b + 33)] (hi3, hl, X) _
  refine w_N 1 52 [.ref b, .int (aI i)] [.int ((R 20) + (val T 0 (aft T i (R 10)))), .int 0, .ref (b + 33)] rfl ?_
  refine w_is 0 rfl (show X.2.1 (b + 33) = 1 from M_k S 33 (by decide)) (Nat.le_trans (M_64 S) (Nat.le_add_right _ _)) (show X.2.2.1 (b + 33) = 2 from M_l S 33 (by decide)) rfl (by decide) (by decide) ?_
  refine w_N 2 55 [.ref b, .int (aI i)] [.ref b, .ref b] rfl ?_
  refine w_gi (v := nI D) rfl rfl rfl (M_kd S) ((lm_up_na (by omega)).trans (D3a)) ?_
  refine w_N 2 60 [.ref b, .int (aI i)] [.int ((nI D) + 1), .ref b] rfl ?_
  refine w_pi rfl rfl rfl rfl (M_kd S) (M_64 S) ?_
  refine w_rv rfl rfl ?_
  refine ⟨_, rfl, rfl, ?_, ⟨⟨?_, fun c hc => ?_⟩, ?_, ?_, ?_, fun _ => ⟨?_, fun c hc => ?_⟩, ?_, ?_, ?_⟩, fun a a1 a2 a3 a4 => ?_, fun j j1 j2 j3 j4 => ?_⟩
  · have hn := rTle H
    refine ⟨fun k hk a ha => ?_, fun h hh w hw => ?_, ?_, hn⟩
    · rw [lm_up_na (by omega), lm_up_na (by omega)]; exact H3.1 k hk a ha
    · rw [lm_up_na (by omega), lm_up_na (by omega)]; exact H3.2.1 h hh w hw
    · rw [lm_up_nk (by decide), lm_up_na (by omega)]; exact H3.2.2.1
  · rw [lm_up_nk (by decide), lm_up_na (by omega)]; show _ = s_marks (s_next (aft T i (R 10))); rw [marks_next]; exact HS3.1
  · rw [lm_up_na (by omega), lm_up_na (by omega)]; show _ = s_count (s_next (aft T i (R 10))) (nI c); rw [count_next hc]; exact HS3.2 c hc
  · rw [lm_up_nk (by decide), lm_up_na (by omega), X3.2.1 15 (by decide) (by decide), qb 15 (by decide) (by decide), HR.2.1]; simp [lvR, hz]
  · rw [lm_up_eq]; show _ = R 12 + 1; rw [hO.2.2.1]
  · rw [lm_up_nk (by decide), lm_up_na (by omega), X3.2.1 21 (by decide) (by decide), qb 21 (by decide) (by decide), HR.2.2.2.1]; simp [lvR, hz]
  · rw [lm_up_nk (by decide), lm_up_na (by omega), X3.2.1 19 (by decide) (by decide), q19]; rfl
  · rw [lm_up_na (by omega), lm_up_na (by omega), X3.1 _ (by omega) (by omega), q34 c hc]; rfl
  · rw [lm_up_nk (by decide), lm_up_na (by omega), X3.2.1 18 (by decide) (by decide), q18]; rfl
  · rw [lm_up_na (by omega), lm_up_eq]; simp [lvR, hz]
  · rw [lm_up_na (by omega), lm_up_nk (by decide), X3.1 _ (by omega) (by omega), q33, HR.2.2.2.2.2.2.2]; simp [lvR, hz]
  · rw [lm_up_rw a1, lm_up_rw a3, X3.1 a a1 a2, qa a a1 a4]
  · rw [lm_up_nk j2, lm_up_na (by omega), X3.2.1 j j1 j2, qb j j3 j4]
theorem m_goes1 {d : Nat} {hi : Nat → Nat → Int32} {hl : Nat → Nat → Int64} {X : lm_X} {b n D i : Nat} {T : lm_T} {R : Nat → Int32} (S : sh_M X b) (H : rT hi b T n) (HR : rR hi b R) (hT : okT T n) (hO : okR R D) (hD : D < 2147483647) (hi10 : i ≤ n) (hal : alw T i (awk (R 10)) (R 10) = true) (hz : awk (R 10) = 1) : lm_w (d + 2) 181 [.ref b, .int (aI i)] (hi, hl, X) (fun v h1 => ∃ hi', v = none ∧ h1 = (hi', hl, X) ∧ rT hi' b T n ∧ rR hi' b (lvR T i R) ∧ (∀ a, a ≠ b → a ≠ b + 29 → a ≠ b + 33 → a ≠ b + 34 → hi' a = hi a) ∧ (∀ j, j ≠ 12 → j ≠ 14 → j ≠ 18 → j ≠ 19 → hi' b j = hi b j)) := by
  refine lm_w_in (Nat.le_of_ble_eq_true rfl) ?_
  show lm_wp (d + 2) 181 0 [.ref b, .int (aI i)] [] (hi, hl, X) _
  refine w_N 2 2 [.ref b, .int (aI i)] [.int 1, .ref b] rfl ?_
  refine w_pb rfl rfl rfl rfl (M_kd S) (M_64 S) (by decide) ?_
  refine w_N 2 7 [.ref b, .int (aI i)] [.ref b, .ref b] rfl ?_
  refine w_gi (v := s_marks (R 10)) rfl rfl rfl (M_kd S) ((lm_up_nk (by decide)).trans (HR.1.1)) ?_
  refine w_pi rfl rfl rfl rfl (M_kd S) (M_64 S) ?_
  refine w_N 1 14 [.ref b, .int (aI i)] [.ref b] rfl ?_
  refine w_gr (b + 29) rfl rfl rfl (M_kd S) (M_r S (k := 13) (o := 29) rfl) ?_
  refine w_N 1 18 [.ref b, .int (aI i)] [.ref b, .ref (b + 29)] rfl ?_
  refine w_gr (b + 34) rfl rfl rfl (M_kd S) (M_r S (k := 20) (o := 34) rfl) ?_
  refine w_ca rfl (m_overW (N := 4) (show X.2.1 (b + 29) = 1 from M_k S 29 (by decide)) (show X.2.1 (b + 34) = 1 from M_k S 34 (by decide)) (show X.2.2.1 (b + 29) = 4 from M_l S 29 (by decide)) (show X.2.2.1 (b + 34) = 4 from M_l S 34 (by decide)) (by have := M_64 S; omega) (by omega) (by decide)) ?_
  rintro _ _ ⟨hi2, rfl, rfl, A2, B2⟩
  have HS2 : rS hi2 b (R 10) := by
    refine ⟨?_, fun c hc => ?_⟩
    · rw [B2 b (by omega), lm_up_nk (by decide), lm_up_nk (by decide)]; exact HR.1.1
    · rw [B2 (b + 29) (by omega), lm_up_na (by omega), lm_up_na (by omega)]; exact HR.1.2 c hc
  have H2 : rT hi2 b T n := by
    have hn := rTle H
    refine ⟨fun k hk a ha => ?_, fun h hh w hw => ?_, ?_, hn⟩
    · rw [B2 _ (by omega), lm_up_na (by omega), lm_up_na (by omega)]; exact H.1 k hk a ha
    · rw [B2 _ (by omega), lm_up_na (by omega), lm_up_na (by omega)]; exact H.2.1 h hh w hw
    · rw [B2 _ (by omega), lm_up_nk (by decide), lm_up_nk (by decide)]; exact H.2.2.1
  have q33 : hi2 (b + 33) = hi (b + 33) := by rw [B2 _ (by omega), lm_up_rw (by omega), lm_up_rw (by omega)]
  have q34 : ∀ c, c < 4 → hi2 (b + 34) c = s_count (R 10) (nI c) := fun c hc => by rw [A2 c hc, lm_up_na (by omega), lm_up_na (by omega)]; exact HR.1.2 c hc
  have qb : ∀ j, j ≠ 18 → j ≠ 19 → hi2 b j = hi b j := fun j j1 j2 => by rw [B2 b (by omega), lm_up_nk j2, lm_up_nk j1]
  have q18 : hi2 b 18 = 1 := by rw [B2 b (by omega), lm_up_nk (by decide), lm_up_eq]
  have q19 : hi2 b 19 = s_marks (R 10) := by rw [B2 b (by omega), lm_up_eq]
  have qa : ∀ a, a ≠ b → a ≠ b + 34 → hi2 a = hi a := fun a a1 a2 => by rw [B2 a a2, lm_up_rw a1, lm_up_rw a1]
  clear A2 B2
  show lm_wp _ 181 24 [.ref b, .int (aI i)] [] (hi2, hl, X) _
  refine w_N 2 26 [.ref b, .int (aI i)] [.int (aI i), .ref b] rfl ?_
  refine w_ca (w_vst rfl rfl rfl (Nat.le_of_ble_eq_true rfl) (Nat.le_of_ble_eq_true rfl) (M_kd S)) (m_doIt (hf := awk (R 10)) (i := i) S H2 HS2 hT rfl hi10 hal) ?_
  rintro _ _ ⟨hi3, rfl, rfl, HS3, X3, D3⟩
  have H3 := rT_X X3 H2
  have D3a : hi3 b 14 = nI D := by rw [D3, qb 14 (by decide) (by decide)]; exact HR.2.2.1.trans hO.2.2.1
  have g3 : hi3 (b + 33) 1 = R 21 := by rw [X3.1 _ (by omega) (by omega), q33]; exact HR.2.2.2.2.2.2.2
  show lm_wp _ 181 29 [.ref b, .int (aI i)] [] (hi3, hl, X) _
  refine w_N 1 30 [.ref b, .int (aI i)] [.ref b] rfl ?_
  refine w_gr (b + 33) rfl rfl rfl (M_kd S) (M_r S (k := 17) (o := 33) rfl) ?_
  refine w_N 1 34 [.ref b, .int (aI i)] [.ref b, .ref (b + 33)] rfl ?_
  refine w_gi (v := nI D) rfl rfl rfl (M_kd S) (D3a) ?_
  refine w_N 1 38 [.ref b, .int (aI i)] [.int 2, .int (nI D), .ref (b + 33)] rfl ?_
  refine w_rem rfl (by decide) ?_
  rw [show nI D - nI D / 2 * 2 = 1 from (rem2 (by omega)).trans (congrArg nI (hO.2.2.2.1.symm.trans hz))]
  refine w_N 1 40 [.ref b, .int (aI i)] [.int 1, .ref (b + 33), .int 1, .ref (b + 33)] rfl ?_
  refine w_ia 1 (v := R 21) rfl (show X.2.1 (b + 33) = 1 from M_k S 33 (by decide)) (show X.2.2.1 (b + 33) = 2 from M_l S 33 (by decide)) rfl (by decide) (by decide) (g3) ?_
  refine w_N 2 43 [.ref b, .int (aI i)] [.ref b, .ref b, .int (R 21), .int 1, .ref (b + 33)] rfl ?_
  refine w_gi (v := nI D) rfl rfl rfl (M_kd S) (D3a) ?_
  refine w_N 1 47 [.ref b, .int (aI i)] [.int 2, .int (nI D), .ref b, .int (R 21), .int 1, .ref (b + 33)] rfl ?_
  refine w_rem rfl (by decide) ?_
  rw [show nI D - nI D / 2 * 2 = 1 from (rem2 (by omega)).trans (congrArg nI (hO.2.2.2.1.symm.trans hz))]
  refine w_cc (w_vst rfl rfl rfl (Nat.le_of_ble_eq_true rfl) (Nat.le_of_ble_eq_true rfl) (M_kd S)) (m_valueOfE (d := d) (hf := 1) S H3 HS3 rfl (by decide)) ?_
  show lm_wp _ 181 51 [.ref b, .int (aI i)] [.int (val T 1 (aft T i (R 10))), .int (R 21), .int 1, .ref (b + 33)] (hi3, hl, X) _
  refine w_N 1 52 [.ref b, .int (aI i)] [.int ((R 21) + (val T 1 (aft T i (R 10)))), .int 1, .ref (b + 33)] rfl ?_
  refine w_is 1 rfl (show X.2.1 (b + 33) = 1 from M_k S 33 (by decide)) (Nat.le_trans (M_64 S) (Nat.le_add_right _ _)) (show X.2.2.1 (b + 33) = 2 from M_l S 33 (by decide)) rfl (by decide) (by decide) ?_
  refine w_N 2 55 [.ref b, .int (aI i)] [.ref b, .ref b] rfl ?_
  refine w_gi (v := nI D) rfl rfl rfl (M_kd S) ((lm_up_na (by omega)).trans (D3a)) ?_
  refine w_N 2 60 [.ref b, .int (aI i)] [.int ((nI D) + 1), .ref b] rfl ?_
  refine w_pi rfl rfl rfl rfl (M_kd S) (M_64 S) ?_
  refine w_rv rfl rfl ?_
  refine ⟨_, rfl, rfl, ?_, ⟨⟨?_, fun c hc => ?_⟩, ?_, ?_, ?_, fun _ => ⟨?_, fun c hc => ?_⟩, ?_, ?_, ?_⟩, fun a a1 a2 a3 a4 => ?_, fun j j1 j2 j3 j4 => ?_⟩
  · have hn := rTle H
    refine ⟨fun k hk a ha => ?_, fun h hh w hw => ?_, ?_, hn⟩
    · rw [lm_up_na (by omega), lm_up_na (by omega)]; exact H3.1 k hk a ha
    · rw [lm_up_na (by omega), lm_up_na (by omega)]; exact H3.2.1 h hh w hw
    · rw [lm_up_nk (by decide), lm_up_na (by omega)]; exact H3.2.2.1
  · rw [lm_up_nk (by decide), lm_up_na (by omega)]; show _ = s_marks (s_next (aft T i (R 10))); rw [marks_next]; exact HS3.1
  · rw [lm_up_na (by omega), lm_up_na (by omega)]; show _ = s_count (s_next (aft T i (R 10))) (nI c); rw [count_next hc]; exact HS3.2 c hc
  · rw [lm_up_nk (by decide), lm_up_na (by omega), X3.2.1 15 (by decide) (by decide), qb 15 (by decide) (by decide), HR.2.1]; simp [lvR, hz]
  · rw [lm_up_eq]; show _ = R 12 + 1; rw [hO.2.2.1]
  · rw [lm_up_nk (by decide), lm_up_na (by omega), X3.2.1 21 (by decide) (by decide), qb 21 (by decide) (by decide), HR.2.2.2.1]; simp [lvR, hz]
  · rw [lm_up_nk (by decide), lm_up_na (by omega), X3.2.1 19 (by decide) (by decide), q19]; rfl
  · rw [lm_up_na (by omega), lm_up_na (by omega), X3.1 _ (by omega) (by omega), q34 c hc]; rfl
  · rw [lm_up_nk (by decide), lm_up_na (by omega), X3.2.1 18 (by decide) (by decide), q18]; rfl
  · rw [lm_up_na (by omega), lm_up_nk (by decide), X3.1 _ (by omega) (by omega), q33, HR.2.2.2.2.2.2.1]; simp [lvR, hz]
  · rw [lm_up_na (by omega), lm_up_eq]; simp [lvR, hz]
  · rw [lm_up_rw a1, lm_up_rw a3, X3.1 a a1 a2, qa a a1 a4]
  · rw [lm_up_nk j2, lm_up_na (by omega), X3.2.1 j j1 j2, qb j j3 j4]
theorem m_goes {d : Nat} {hi : Nat → Nat → Int32} {hl : Nat → Nat → Int64} {X : lm_X} {b n D i : Nat} {T : lm_T} {R : Nat → Int32} (S : sh_M X b) (H : rT hi b T n) (HR : rR hi b R) (hT : okT T n) (hO : okR R D) (hD : D < 2147483647) (hi10 : i ≤ n) (hal : alw T i (awk (R 10)) (R 10) = true) {y : Int32} (hy : y = aI i) : lm_w (d + 2) 181 [.ref b, .int y] (hi, hl, X) (fun v h1 => ∃ hi', v = none ∧ h1 = (hi', hl, X) ∧ rT hi' b T n ∧ rR hi' b (lvR T i R) ∧ (∀ a, a ≠ b → a ≠ b + 29 → a ≠ b + 33 → a ≠ b + 34 → hi' a = hi a) ∧ (∀ j, j ≠ 12 → j ≠ 14 → j ≠ 18 → j ≠ 19 → hi' b j = hi b j)) := by
  subst hy
  have h := awk_lt (R 10)
  rcases (by omega : awk (R 10) = 0 ∨ awk (R 10) = 1) with h | h
  · exact m_goes0 S H HR hT hO hD hi10 hal h
  · exact m_goes1 S H HR hT hO hD hi10 hal h
theorem m_tf1 {d : Nat} {hi : Nat → Nat → Int32} {hl : Nat → Nat → Int64} {X : lm_X} {b q : Nat} (S : sh_M X b) (S2 : sh_M X q) (hd : b + 49 ≤ q ∨ q + 49 ≤ b) {P : Option Value → lm_H → Prop} (k : ∀ (mk : Int32) (hi' : Nat → Nat → Int32), fr (b + 19) (b + 29) hi hi' → (∀ a, a < 10 → ∀ k, k < 7 → hi' (b + (19 + a)) k = hi (q + (19 + a)) k) → lm_wp (d + 1) 222 37 [.ref b, .ref q, .int mk] [] (hi', hl, X) P) : ∀ (j m : Nat) (hi' : Nat → Nat → Int32) (mk : Int32), m + j = 10 → (mk = nI m) → (fr (b + 19) (b + 29) hi hi') → (∀ a, a < m → ∀ k, k < 7 → hi' (b + (19 + a)) k = hi (q + (19 + a)) k) → lm_wp (d + 1) 222 10 [.ref b, .ref q, .int mk] [] (hi', hl, X) P := by
  intro j
  induction j with
  | zero =>
    intro m hi' mk hm e2 F0 J0
    refine w_N 2 13 [.ref b, .ref q, .int mk] [.int 10, .int mk] rfl ?_
    refine w_icmp_ge_t (t := 37) rfl rfl (by rw [e2, show m = 10 by omega]; decide) ?_
    obtain rfl : m = 10 := by omega
    exact k _ hi' F0 J0
  | succ j ih =>
    intro m hi' mk hm e2 F0 J0
    refine w_N 2 13 [.ref b, .ref q, .int mk] [.int 10, .int mk] rfl ?_
    refine w_icmp_ge_f (t := 37) rfl rfl (by rw [e2]; exact nI_lt (b := 10) (by omega) (by decide)) ?_
    refine w_N 1 17 [.ref b, .ref q, .int mk] [.ref q] rfl ?_
    refine w_gr (q + 18) rfl rfl rfl (M_kd S2) (M_r S2 (k := 11) (o := 18) rfl) ?_
    refine w_N 1 21 [.ref b, .ref q, .int mk] [.int mk, .ref (q + 18)] rfl ?_
    refine w_aa m (q + (19 + m)) rfl (M_kk S2 (o := 18) (by decide)) (show X.2.2.1 (q + 18) = 10 from M_l S2 18 (by decide)) e2 (by omega) (by decide) (M_acr S2 (by omega)) ?_
    refine w_N 1 23 [.ref b, .ref q, .int mk] [.ref b, .ref (q + (19 + m))] rfl ?_
    refine w_gr (b + 18) rfl rfl rfl (M_kd S) (M_r S (k := 11) (o := 18) rfl) ?_
    refine w_N 1 27 [.ref b, .ref q, .int mk] [.int mk, .ref (b + 18), .ref (q + (19 + m))] rfl ?_
    refine w_aa m (b + (19 + m)) rfl (M_kk S (o := 18) (by decide)) (show X.2.2.1 (b + 18) = 10 from M_l S 18 (by decide)) e2 (by omega) (by decide) (M_acr S (by omega)) ?_
    refine w_ca rfl (m_overW (N := 7) (M_ack S2 (by omega)) (M_ack S (by omega)) (M_acl S2 (by omega)) (M_acl S (by omega)) (by have := M_64 S; omega) (by omega) (by decide)) ?_
    rintro _ _ ⟨hi2, rfl, rfl, A2, B2⟩
    show lm_wp _ 222 31 [.ref b, .ref q, .int mk] [] (hi2, hl, X) _
    refine w_N 2 10 [.ref b, .ref q, .int (mk + 1)] [] rfl ?_
    refine ih (m + 1) hi2 _ (by omega) (by rw [e2, nI_succ]) (fun a ha => (B2 a (by omega)).trans (F0 a ha)) (fun a ha k hk => ?_)
    by_cases h : a = m
    · subst h; rw [A2 k hk, F0 _ (by omega)]
    · rw [B2 _ (by omega)]; exact J0 a (by omega) k hk
theorem m_takeFrom {d : Nat} {hi : Nat → Nat → Int32} {hl : Nat → Nat → Int64} {X : lm_X} {b q n : Nat} {T : lm_T} {R : Nat → Int32} (S : sh_M X b) (S2 : sh_M X q) (H : rT hi q T n) (HR : rR hi q R) (hk : R 15 = 0 ∨ R 15 = 1) (hd : b + 49 ≤ q ∨ q + 49 ≤ b) : lm_w (d + 1) 222 [.ref b, .ref q] (hi, hl, X) (fun v h1 => ∃ hi', v = none ∧ h1 = (hi', hl, X) ∧ rT hi' b T n ∧ rR hi' b R ∧ rQ hi hi' b) := by
  refine lm_w_in (Nat.le_of_ble_eq_true rfl) ?_
  show lm_wp (d + 1) 222 0 [.ref b, .ref q, lm_jk] [] (hi, hl, X) _
  refine w_N 2 2 [.ref b, .ref q, lm_jk] [.ref q, .ref b] rfl ?_
  refine w_gi (v := nI n) rfl rfl rfl (M_kd S2) (rTn H) ?_
  refine w_pi rfl rfl rfl rfl (M_kd S) (M_64 S) ?_
  refine w_N 2 10 [.ref b, .ref q, .int 0] [] rfl ?_
  refine m_tf1 (hi := lm_up hi b 10 (nI n)) S S2 hd (fun mk h0 E0 J0 => ?_) 10 0 _ _ rfl rfl fr_rfl (fun a ha => by omega)
  refine w_N 2 39 [.ref b, .ref q, .int mk] [.ref q, .ref b] rfl ?_
  refine w_gi (v := s_marks (R 10)) rfl rfl rfl (M_kd S2) ((congrFun (E0 q (by omega)) _).trans ((lm_up_na (by omega)).trans (HR.1.1))) ?_
  refine w_pi rfl rfl rfl rfl (M_kd S) (M_64 S) ?_
  refine w_N 1 46 [.ref b, .ref q, .int mk] [.ref q] rfl ?_
  refine w_gr (q + 29) rfl rfl rfl (M_kd S2) (M_r S2 (k := 13) (o := 29) rfl) ?_
  refine w_N 1 50 [.ref b, .ref q, .int mk] [.ref b, .ref (q + 29)] rfl ?_
  refine w_gr (b + 29) rfl rfl rfl (M_kd S) (M_r S (k := 13) (o := 29) rfl) ?_
  refine w_ca rfl (m_overW (N := 4) (show X.2.1 (q + 29) = 1 from M_k S2 29 (by decide)) (show X.2.1 (b + 29) = 1 from M_k S 29 (by decide)) (show X.2.2.1 (q + 29) = 4 from M_l S2 29 (by decide)) (show X.2.2.1 (b + 29) = 4 from M_l S 29 (by decide)) (by have := M_64 S; omega) (by omega) (by decide)) ?_
  rintro _ _ ⟨hk1, rfl, rfl, A1, B1⟩
  show lm_wp _ 222 56 [.ref b, .ref q, .int mk] [] (hk1, hl, X) _
  refine w_N 2 58 [.ref b, .ref q, .int mk] [.ref q, .ref b] rfl ?_
  refine w_gi (v := R 12) rfl rfl rfl (M_kd S2) ((congrFun (B1 _ (by omega)) _).trans ((lm_up_na (by omega)).trans ((congrFun (E0 q (by omega)) _).trans ((lm_up_na (by omega)).trans (HR.2.2.1))))) ?_
  refine w_pi rfl rfl rfl rfl (M_kd S) (M_64 S) ?_
  refine w_N 2 66 [.ref b, .ref q, .int mk] [.ref q, .ref b] rfl ?_
  refine w_gi (v := R 11) rfl rfl rfl (M_kd S2) ((lm_up_na (by omega)).trans ((congrFun (B1 _ (by omega)) _).trans ((lm_up_na (by omega)).trans ((congrFun (E0 q (by omega)) _).trans ((lm_up_na (by omega)).trans (HR.2.1)))))) ?_
  refine w_pi rfl rfl rfl rfl (M_kd S) (M_64 S) ?_
  refine w_N 1 73 [.ref b, .ref q, .int mk] [.ref q] rfl ?_
  refine w_gr (q + 30) rfl rfl rfl (M_kd S2) (M_r S2 (k := 16) (o := 30) rfl) ?_
  refine w_N 1 77 [.ref b, .ref q, .int mk] [.int 0, .ref (q + 30)] rfl ?_
  refine w_aa 0 (q + 31) rfl (M_kk S2 (o := 30) (by decide)) (show X.2.2.1 (q + 30) = 2 from M_l S2 30 (by decide)) rfl (by decide) (by decide) (M_wor S2 (by decide)) ?_
  refine w_N 1 79 [.ref b, .ref q, .int mk] [.ref b, .ref (q + 31)] rfl ?_
  refine w_gr (b + 30) rfl rfl rfl (M_kd S) (M_r S (k := 16) (o := 30) rfl) ?_
  refine w_N 1 83 [.ref b, .ref q, .int mk] [.int 0, .ref (b + 30), .ref (q + 31)] rfl ?_
  refine w_aa 0 (b + 31) rfl (M_kk S (o := 30) (by decide)) (show X.2.2.1 (b + 30) = 2 from M_l S 30 (by decide)) rfl (by decide) (by decide) (M_wor S (by decide)) ?_
  refine w_ca rfl (m_overW (N := 12) (show X.2.1 (q + 31) = 1 from M_k S2 31 (by decide)) (show X.2.1 (b + 31) = 1 from M_k S 31 (by decide)) (show X.2.2.1 (q + 31) = 12 from M_l S2 31 (by decide)) (show X.2.2.1 (b + 31) = 12 from M_l S 31 (by decide)) (by have := M_64 S; omega) (by omega) (by decide)) ?_
  rintro _ _ ⟨hk2, rfl, rfl, A2, B2⟩
  show lm_wp _ 222 87 [.ref b, .ref q, .int mk] [] (hk2, hl, X) _
  refine w_N 1 88 [.ref b, .ref q, .int mk] [.ref q] rfl ?_
  refine w_gr (q + 30) rfl rfl rfl (M_kd S2) (M_r S2 (k := 16) (o := 30) rfl) ?_
  refine w_N 1 92 [.ref b, .ref q, .int mk] [.int 1, .ref (q + 30)] rfl ?_
  refine w_aa 1 (q + 32) rfl (M_kk S2 (o := 30) (by decide)) (show X.2.2.1 (q + 30) = 2 from M_l S2 30 (by decide)) rfl (by decide) (by decide) (M_wor S2 (by decide)) ?_
  refine w_N 1 94 [.ref b, .ref q, .int mk] [.ref b, .ref (q + 32)] rfl ?_
  refine w_gr (b + 30) rfl rfl rfl (M_kd S) (M_r S (k := 16) (o := 30) rfl) ?_
  refine w_N 1 98 [.ref b, .ref q, .int mk] [.int 1, .ref (b + 30), .ref (q + 32)] rfl ?_
  refine w_aa 1 (b + 32) rfl (M_kk S (o := 30) (by decide)) (show X.2.2.1 (b + 30) = 2 from M_l S 30 (by decide)) rfl (by decide) (by decide) (M_wor S (by decide)) ?_
  refine w_ca rfl (m_overW (N := 12) (show X.2.1 (q + 32) = 1 from M_k S2 32 (by decide)) (show X.2.1 (b + 32) = 1 from M_k S 32 (by decide)) (show X.2.2.1 (q + 32) = 12 from M_l S2 32 (by decide)) (show X.2.2.1 (b + 32) = 12 from M_l S 32 (by decide)) (by have := M_64 S; omega) (by omega) (by decide)) ?_
  rintro _ _ ⟨hk3, rfl, rfl, A3, B3⟩
  show lm_wp _ 222 102 [.ref b, .ref q, .int mk] [] (hk3, hl, X) _
  refine w_N 1 103 [.ref b, .ref q, .int mk] [.ref q] rfl ?_
  refine w_gr (q + 33) rfl rfl rfl (M_kd S2) (M_r S2 (k := 17) (o := 33) rfl) ?_
  refine w_N 1 107 [.ref b, .ref q, .int mk] [.ref b, .ref (q + 33)] rfl ?_
  refine w_gr (b + 33) rfl rfl rfl (M_kd S) (M_r S (k := 17) (o := 33) rfl) ?_
  refine w_ca rfl (m_overW (N := 2) (show X.2.1 (q + 33) = 1 from M_k S2 33 (by decide)) (show X.2.1 (b + 33) = 1 from M_k S 33 (by decide)) (show X.2.2.1 (q + 33) = 2 from M_l S2 33 (by decide)) (show X.2.2.1 (b + 33) = 2 from M_l S 33 (by decide)) (by have := M_64 S; omega) (by omega) (by decide)) ?_
  rintro _ _ ⟨hk4, rfl, rfl, A4, B4⟩
  show lm_wp _ 222 113 [.ref b, .ref q, .int mk] [] (hk4, hl, X) _
  refine w_N 2 115 [.ref b, .ref q, .int mk] [.ref q, .ref b] rfl ?_
  refine w_gi (v := R 15) rfl rfl rfl (M_kd S2) ((congrFun (B4 _ (by omega)) _).trans ((congrFun (B3 _ (by omega)) _).trans ((congrFun (B2 _ (by omega)) _).trans ((lm_up_na (by omega)).trans ((lm_up_na (by omega)).trans ((congrFun (B1 _ (by omega)) _).trans ((lm_up_na (by omega)).trans ((congrFun (E0 q (by omega)) _).trans ((lm_up_na (by omega)).trans (HR.2.2.2.2.2.1)))))))))) ?_
  refine w_pb rfl rfl rfl rfl (M_kd S) (M_64 S) (by first | assumption | exact bz_or _) ?_
  refine w_N 2 123 [.ref b, .ref q, .int mk] [.ref q, .ref b] rfl ?_
  refine w_gi (v := hi q 19) rfl rfl rfl (M_kd S2) ((lm_up_na (by omega)).trans ((congrFun (B4 _ (by omega)) _).trans ((congrFun (B3 _ (by omega)) _).trans ((congrFun (B2 _ (by omega)) _).trans ((lm_up_na (by omega)).trans ((lm_up_na (by omega)).trans ((congrFun (B1 _ (by omega)) _).trans ((lm_up_na (by omega)).trans ((congrFun (E0 q (by omega)) _).trans ((lm_up_na (by omega)).trans (rfl))))))))))) ?_
  refine w_pi rfl rfl rfl rfl (M_kd S) (M_64 S) ?_
  refine w_N 1 130 [.ref b, .ref q, .int mk] [.ref q] rfl ?_
  refine w_gr (q + 34) rfl rfl rfl (M_kd S2) (M_r S2 (k := 20) (o := 34) rfl) ?_
  refine w_N 1 134 [.ref b, .ref q, .int mk] [.ref b, .ref (q + 34)] rfl ?_
  refine w_gr (b + 34) rfl rfl rfl (M_kd S) (M_r S (k := 20) (o := 34) rfl) ?_
  refine w_ca rfl (m_overW (N := 4) (show X.2.1 (q + 34) = 1 from M_k S2 34 (by decide)) (show X.2.1 (b + 34) = 1 from M_k S 34 (by decide)) (show X.2.2.1 (q + 34) = 4 from M_l S2 34 (by decide)) (show X.2.2.1 (b + 34) = 4 from M_l S 34 (by decide)) (by have := M_64 S; omega) (by omega) (by decide)) ?_
  rintro _ _ ⟨hk5, rfl, rfl, A5, B5⟩
  show lm_wp _ 222 140 [.ref b, .ref q, .int mk] [] (hk5, hl, X) _
  refine w_N 2 142 [.ref b, .ref q, .int mk] [.ref q, .ref b] rfl ?_
  refine w_gi (v := R 13) rfl rfl rfl (M_kd S2) ((congrFun (B5 _ (by omega)) _).trans ((lm_up_na (by omega)).trans ((lm_up_na (by omega)).trans ((congrFun (B4 _ (by omega)) _).trans ((congrFun (B3 _ (by omega)) _).trans ((congrFun (B2 _ (by omega)) _).trans ((lm_up_na (by omega)).trans ((lm_up_na (by omega)).trans ((congrFun (B1 _ (by omega)) _).trans ((lm_up_na (by omega)).trans ((congrFun (E0 q (by omega)) _).trans ((lm_up_na (by omega)).trans (HR.2.2.2.1))))))))))))) ?_
  refine w_pi rfl rfl rfl rfl (M_kd S) (M_64 S) ?_
  refine w_rv rfl rfl ?_
  refine ⟨_, rfl, rfl, ⟨fun k hk a ha => ?_, fun h hh w hw => ?_, ?_, rTle H⟩, ⟨⟨?_, fun c hc => ?_⟩, ?_, ?_, ?_, fun h1 => ⟨?_, fun c hc => ?_⟩, ?_, ?_, ?_⟩, ⟨fun a ha => ?_, ?_⟩⟩
  · have hn := rTle H
    exact (lm_up_na (by omega)).trans ((congrFun (B5 _ (by omega)) _).trans ((lm_up_na (by omega)).trans ((lm_up_na (by omega)).trans ((congrFun (B4 _ (by omega)) _).trans ((congrFun (B3 _ (by omega)) _).trans ((congrFun (B2 _ (by omega)) _).trans ((lm_up_na (by omega)).trans ((lm_up_na (by omega)).trans ((congrFun (B1 _ (by omega)) _).trans ((lm_up_na (by omega)).trans ((J0 a (by omega) k hk).trans ((lm_up_na (by omega)).trans (H.1 k hk a ha)))))))))))))
  · rcases (by omega : h = 0 ∨ h = 1) with rfl | rfl
    · exact (lm_up_na (by omega)).trans ((congrFun (B5 _ (by omega)) _).trans ((lm_up_na (by omega)).trans ((lm_up_na (by omega)).trans ((congrFun (B4 _ (by omega)) _).trans ((congrFun (B3 _ (by omega)) _).trans ((A2 w hw).trans ((lm_up_na (by omega)).trans ((lm_up_na (by omega)).trans ((congrFun (B1 _ (by omega)) _).trans ((lm_up_na (by omega)).trans ((congrFun (E0 (q + 31) (by omega)) _).trans ((lm_up_na (by omega)).trans (H.2.1 0 hh w hw)))))))))))))
    · exact (lm_up_na (by omega)).trans ((congrFun (B5 _ (by omega)) _).trans ((lm_up_na (by omega)).trans ((lm_up_na (by omega)).trans ((congrFun (B4 _ (by omega)) _).trans ((A3 w hw).trans ((congrFun (B2 _ (by omega)) _).trans ((lm_up_na (by omega)).trans ((lm_up_na (by omega)).trans ((congrFun (B1 _ (by omega)) _).trans ((lm_up_na (by omega)).trans ((congrFun (E0 (q + 32) (by omega)) _).trans ((lm_up_na (by omega)).trans (H.2.1 1 hh w hw)))))))))))))
  · exact (lm_up_nk (by decide)).trans ((congrFun (B5 _ (by omega)) _).trans ((lm_up_nk (by decide)).trans ((lm_up_nk (by decide)).trans ((congrFun (B4 _ (by omega)) _).trans ((congrFun (B3 _ (by omega)) _).trans ((congrFun (B2 _ (by omega)) _).trans ((lm_up_nk (by decide)).trans ((lm_up_nk (by decide)).trans ((congrFun (B1 _ (by omega)) _).trans ((lm_up_nk (by decide)).trans ((congrFun (E0 b (by omega)) _).trans (lm_up_eq))))))))))))
  · exact (lm_up_nk (by decide)).trans ((congrFun (B5 _ (by omega)) _).trans ((lm_up_nk (by decide)).trans ((lm_up_nk (by decide)).trans ((congrFun (B4 _ (by omega)) _).trans ((congrFun (B3 _ (by omega)) _).trans ((congrFun (B2 _ (by omega)) _).trans ((lm_up_nk (by decide)).trans ((lm_up_nk (by decide)).trans ((congrFun (B1 _ (by omega)) _).trans (lm_up_eq))))))))))
  · exact (lm_up_na (by omega)).trans ((congrFun (B5 _ (by omega)) _).trans ((lm_up_na (by omega)).trans ((lm_up_na (by omega)).trans ((congrFun (B4 _ (by omega)) _).trans ((congrFun (B3 _ (by omega)) _).trans ((congrFun (B2 _ (by omega)) _).trans ((lm_up_na (by omega)).trans ((lm_up_na (by omega)).trans ((A1 c hc).trans ((lm_up_na (by omega)).trans ((congrFun (E0 (q + 29) (by omega)) _).trans ((lm_up_na (by omega)).trans (HR.1.2 c hc)))))))))))))
  · exact (lm_up_nk (by decide)).trans ((congrFun (B5 _ (by omega)) _).trans ((lm_up_nk (by decide)).trans ((lm_up_nk (by decide)).trans ((congrFun (B4 _ (by omega)) _).trans ((congrFun (B3 _ (by omega)) _).trans ((congrFun (B2 _ (by omega)) _).trans (lm_up_eq)))))))
  · exact (lm_up_nk (by decide)).trans ((congrFun (B5 _ (by omega)) _).trans ((lm_up_nk (by decide)).trans ((lm_up_nk (by decide)).trans ((congrFun (B4 _ (by omega)) _).trans ((congrFun (B3 _ (by omega)) _).trans ((congrFun (B2 _ (by omega)) _).trans ((lm_up_nk (by decide)).trans (lm_up_eq))))))))
  · exact lm_up_eq
  · exact ((lm_up_nk (by decide)).trans ((congrFun (B5 _ (by omega)) _).trans (lm_up_eq))).trans (HR.2.2.2.2.1 h1).1
  · exact (lm_up_na (by omega)).trans ((A5 c hc).trans ((lm_up_na (by omega)).trans ((lm_up_na (by omega)).trans ((congrFun (B4 _ (by omega)) _).trans ((congrFun (B3 _ (by omega)) _).trans ((congrFun (B2 _ (by omega)) _).trans ((lm_up_na (by omega)).trans ((lm_up_na (by omega)).trans ((congrFun (B1 _ (by omega)) _).trans ((lm_up_na (by omega)).trans ((congrFun (E0 (q + 34) (by omega)) _).trans ((lm_up_na (by omega)).trans ((HR.2.2.2.2.1 h1).2 c hc)))))))))))))
  · exact (lm_up_nk (by decide)).trans ((congrFun (B5 _ (by omega)) _).trans ((lm_up_nk (by decide)).trans (lm_up_eq)))
  · exact (lm_up_na (by omega)).trans ((congrFun (B5 _ (by omega)) _).trans ((lm_up_na (by omega)).trans ((lm_up_na (by omega)).trans ((A4 0 (by decide)).trans ((congrFun (B3 _ (by omega)) _).trans ((congrFun (B2 _ (by omega)) _).trans ((lm_up_na (by omega)).trans ((lm_up_na (by omega)).trans ((congrFun (B1 _ (by omega)) _).trans ((lm_up_na (by omega)).trans ((congrFun (E0 (q + 33) (by omega)) _).trans ((lm_up_na (by omega)).trans (HR.2.2.2.2.2.2.1)))))))))))))
  · exact (lm_up_na (by omega)).trans ((congrFun (B5 _ (by omega)) _).trans ((lm_up_na (by omega)).trans ((lm_up_na (by omega)).trans ((A4 1 (by decide)).trans ((congrFun (B3 _ (by omega)) _).trans ((congrFun (B2 _ (by omega)) _).trans ((lm_up_na (by omega)).trans ((lm_up_na (by omega)).trans ((congrFun (B1 _ (by omega)) _).trans ((lm_up_na (by omega)).trans ((congrFun (E0 (q + 33) (by omega)) _).trans ((lm_up_na (by omega)).trans (HR.2.2.2.2.2.2.2)))))))))))))
  · rw [lm_up_rw (by omega), B5 _ (by omega), lm_up_rw (by omega), lm_up_rw (by omega), B4 _ (by omega), B3 _ (by omega), B2 _ (by omega), lm_up_rw (by omega), lm_up_rw (by omega), B1 _ (by omega), lm_up_rw (by omega), E0 a (by omega), lm_up_rw (by omega)]
  · exact (lm_up_nk (by decide)).trans ((congrFun (B5 _ (by omega)) _).trans ((lm_up_nk (by decide)).trans ((lm_up_nk (by decide)).trans ((congrFun (B4 _ (by omega)) _).trans ((congrFun (B3 _ (by omega)) _).trans ((congrFun (B2 _ (by omega)) _).trans ((lm_up_nk (by decide)).trans ((lm_up_nk (by decide)).trans ((congrFun (B1 _ (by omega)) _).trans ((lm_up_nk (by decide)).trans ((congrFun (E0 b (by omega)) _).trans (lm_up_nk (by decide)))))))))))))
