set_option maxRecDepth 16384
/-! the reference: its picture, what changes it, its small methods -/
def mV (hi : Nat → Nat → Int32) (hl : Nat → Nat → Int64) (V : ab_V) : Prop := ∀ j, j < 8 → hi 124 j = shK (V j).1 ∧ (wi (V j).1 0 4 = true → hi 125 j = (V j).1) ∧ hi 126 j = nI (V j).2.1 ∧ (10 < (V j).1 → hi 137 j = (V j).1 - 10) ∧ hi 138 j = nI (V j).2.2.1 ∧ ∀ i, i < 40 → hl (123 + (5 + j)) i = (V j).2.2.2 i
def mK (hi : Nat → Nat → Int32) (X : lm_X) (KO : ab_K) : Prop := match KO with
  | none => X.1 123 22 = none
  | some q => X.1 123 22 = some 1000 ∧ rT hi 1000 q.1 q.2.1 ∧ rR hi 1000 q.2.2
def xG (X X' : lm_X) : Prop := ∀ a, a < 123 → X'.2.1 a = X.2.1 a ∧ X'.2.2.1 a = X.2.2.1 a ∧ ∀ k, X'.1 a k = X.1 a k
theorem xG_rfl {X : lm_X} : xG X X := fun _ _ => ⟨rfl, rfl, fun _ => rfl⟩
theorem xG_trans {X Y W : lm_X} (f : xG X Y) (g : xG Y W) : xG X W := fun a h => ⟨(g a h).1.trans (f a h).1, (g a h).2.1.trans (f a h).2.1, fun k => ((g a h).2.2 k).trans ((f a h).2.2 k)⟩
theorem olP_X {hi : Nat → Nat → Int32} {X X' : lm_X} (f : xG X X') (O : olP hi X) : olP hi X' := by
  obtain ⟨⟨o1, o2, o3⟩, o4⟩ := O
  refine ⟨⟨(f 60 (by decide)).1.trans o1, (f 60 (by decide)).2.1.trans o2, o3⟩, fun i hj => ?_⟩
  obtain ⟨q1, q2, q3, q4, q5, q6⟩ := o4 i hj
  exact ⟨((f (1 + i) (by omega)).2.2 0).trans q1, (f (1 + i) (by omega)).1.trans q2, (f (31 + i) (by omega)).1.trans q3, (f (31 + i) (by omega)).2.1.trans q4, q5, q6⟩
def mP (hi0 : Nat → Nat → Int32) (hl0 : Nat → Nat → Int64) (X0 : lm_X) (hi : Nat → Nat → Int32) (hl : Nat → Nat → Int64) (X : lm_X) (T : lm_T) (n : Nat) (R : Nat → Int32) (KO : ab_K) (V : ab_V) (ts : Nat) (tl F : Nat → Int32) : Prop := sh_R X ∧ olP hi X ∧ rT hi 123 T n ∧ rR hi 123 R ∧ mV hi hl V ∧ (hi 123 8 = nI ts ∧ ∀ i, i < ts → hi 139 i = tl i) ∧ (∀ k, k < 5 → hi 140 (2 + k) = F k) ∧ mK hi X KO ∧ fr 123 1049 hi0 hi ∧ frl 123 1049 hl0 hl ∧ xG X0 X
def mQ (hi0 : Nat → Nat → Int32) (hl0 : Nat → Nat → Int64) (X0 : lm_X) (v : Value) (T : lm_T) (n : Nat) (R : Nat → Int32) (KO : ab_K) (V : ab_V) (ts : Nat) (tl F : Nat → Int32) : Option Value → lm_H → Prop := fun r h1 => r = some v ∧ ∃ hi' hl' X', h1 = (hi', hl', X') ∧ mP hi0 hl0 X0 hi' hl' X' T n R KO V ts tl F
/-- what the town, the shelves, the tape and what is kept keep to -/
def okZ (B D : Nat) (T : lm_T) (n : Nat) (R : Nat → Int32) (KO : ab_K) (V : ab_V) (ts : Nat) (tl : Nat → Int32) : Prop := okT T n ∧ okR R D ∧ okV V ∧ ts ≤ 250 ∧ (∀ i, i < ts → ∃ u, u < 256 ∧ tl i = nI u) ∧ D ≤ B ∧ B < 2000000 ∧ (∀ q, KO = some q → okT q.1 q.2.1 ∧ ∃ D', okR q.2.2 D' ∧ D' ≤ B)
theorem rQ_f {hi hi' : Nat → Nat → Int32} (q : rQ hi hi' 123) : fr 123 172 hi hi' := fun a ha => q.1 a (by omega)
section
variable {hi0 hi hi' : Nat → Nat → Int32} {hl0 hl hl' : Nat → Nat → Int64} {X0 X X' : lm_X} {n ts : Nat} {T : lm_T} {R : Nat → Int32} {KO : ab_K} {V : ab_V} {tl F : Nat → Int32}
theorem mq_ {v : Value} (P : mP hi0 hl0 X0 hi hl X T n R KO V ts tl F) : mQ hi0 hl0 X0 v T n R KO V ts tl F (some v) (hi, hl, X) := ⟨rfl, hi, hl, X, rfl, P⟩
theorem mK_fr {lo up : Nat} (f : fr lo up hi hi') (hd : up ≤ 1000 ∨ 1049 ≤ lo) (H : mK hi X KO) : mK hi' X KO := by
  cases KO with
  | none => exact H
  | some q => exact ⟨H.1, rT_fr f (by omega) H.2.1, rR_fr f (by omega) H.2.2⟩
theorem mV_f (h : ∀ a, 124 ≤ a → a ≤ 138 → hi' a = hi a) (H : mV hi hl V) : mV hi' hl V := fun j hj => by
  rw [h 124 (by decide) (by decide), h 125 (by decide) (by decide), h 126 (by decide) (by decide), h 137 (by decide) (by decide), h 138 (by decide) (by decide)]; exact H j hj
theorem mP_town {T' : lm_T} {n' : Nat} {R' : Nat → Int32} (P : mP hi0 hl0 X0 hi hl X T n R KO V ts tl F) (q : rQ hi hi' 123) (H' : rT hi' 123 T' n') (HR' : rR hi' 123 R') : mP hi0 hl0 X0 hi' hl X T' n' R' KO V ts tl F := by
  obtain ⟨SR, O, H, HR, HV, HT, HF, HK, E, EL, EX⟩ := P
  have f := rQ_f q
  exact ⟨SR, olP_fr f (by decide) O, H', HR', mV_f (fun a h1 h2 => q.1 a (by omega)) HV, ⟨by rw [q.2]; exact HT.1, fun i hj => by rw [q.1 139 (by decide)]; exact HT.2 i hj⟩, fun k hk => by rw [q.1 140 (by decide)]; exact HF k hk, mK_fr f (by decide) HK, fr_trans E (fr_mono f (by decide)), EL, EX⟩
/-- scratch rows: bestGains, bestFirst, most -/
theorem mP_scr (P : mP hi0 hl0 X0 hi hl X T n R KO V ts tl F) (f : fr 159 172 hi hi') : mP hi0 hl0 X0 hi' hl X T n R KO V ts tl F := mP_town P (rQ_fr f (by decide)) (rT_fr f (by decide) P.2.2.1) (rR_fr f (by decide) P.2.2.2.1)
theorem mP_tried (P : mP hi0 hl0 X0 hi hl X T n R KO V ts tl F) (f : fr 700 749 hi hi') : mP hi0 hl0 X0 hi' hl X T n R KO V ts tl F := by
  obtain ⟨SR, O, H, HR, HV, HT, HF, HK, E, EL, EX⟩ := P
  exact ⟨SR, olP_fr f (by decide) O, rT_fr f (by decide) H, rR_fr f (by decide) HR, mV_f (fun a h1 h2 => f a (by omega)) HV, ⟨by rw [f 123 (by decide)]; exact HT.1, fun i hj => by rw [f 139 (by decide)]; exact HT.2 i hj⟩, fun k hk => by rw [f 140 (by decide)]; exact HF k hk, mK_fr f (by decide) HK, fr_trans E (fr_mono f (by decide)), EL, EX⟩
theorem mV_l (h : ∀ a, a < 700 → hl' a = hl a) (H : mV hi hl V) : mV hi hl' V := fun j hj => by
  rw [h (123 + (5 + j)) (by omega)]; exact H j hj
/-- behind fresh -/
theorem mP_new (P : mP hi0 hl0 X0 hi hl X T n R KO V ts tl F) (f : fr 700 749 hi hi') (fl : ∀ a, (a < 700 ∨ 749 ≤ a) → hl' a = hl a) (fx : xF 700 23 X X') (SR' : sh_R X') : mP hi0 hl0 X0 hi' hl' X' T n R KO V ts tl F := by
  obtain ⟨SR, O, H, HR, HV, HT, HF, HK, E, EL, EX⟩ := mP_tried P f
  have gx : xG X X' := fun a ha => ⟨(fx a (by omega)).1, (fx a (by omega)).2.1, fun k => (fx a (by omega)).2.2 k (Or.inl (by omega))⟩
  refine ⟨SR', olP_X gx O, H, HR, mV_l (fun a ha => fl a (by omega)) HV, HT, HF, ?_, E, fun a ha => (fl a (by omega)).trans (EL a ha), xG_trans EX gx⟩
  have e : X'.1 123 22 = X.1 123 22 := (fx 123 (by decide)).2.2 22 (by decide)
  cases KO with
  | none => exact e.trans HK
  | some q => exact ⟨e.trans HK.1, HK.2⟩
theorem mP_ref {F' : Nat → Int32} (P : mP hi0 hl0 X0 hi hl X T n R KO V ts tl F) (f : fr 140 141 hi hi') (HF' : ∀ k, k < 5 → hi' 140 (2 + k) = F' k) : mP hi0 hl0 X0 hi' hl X T n R KO V ts tl F' := by
  obtain ⟨SR, O, H, HR, HV, HT, HF, HK, E, EL, EX⟩ := P
  exact ⟨SR, olP_fr f (by decide) O, ⟨fun k hk a ha => by rw [f _ (by have := rTle H; omega)]; exact H.1 k hk a ha, fun h hh w hw => by rw [f _ (by omega)]; exact H.2.1 h hh w hw, by rw [f _ (by decide)]; exact H.2.2.1, rTle H⟩, rR_fr f (by decide) HR, mV_f (fun a h1 h2 => f a (by omega)) HV, ⟨by rw [f 123 (by decide)]; exact HT.1, fun i hj => by rw [f 139 (by decide)]; exact HT.2 i hj⟩, HF', mK_fr f (by decide) HK, fr_trans E (fr_mono f (by decide)), EL, EX⟩
theorem mP_tape {ts' : Nat} {tl' : Nat → Int32} (P : mP hi0 hl0 X0 hi hl X T n R KO V ts tl F) (f : ∀ a, a ≠ 123 → a ≠ 139 → hi' a = hi a) (g : ∀ k, k ≠ 8 → hi' 123 k = hi 123 k) (HT' : hi' 123 8 = nI ts' ∧ ∀ i, i < ts' → hi' 139 i = tl' i) : mP hi0 hl0 X0 hi' hl X T n R KO V ts' tl' F := by
  obtain ⟨SR, O, H, HR, HV, HT, HF, HK, E, EL, EX⟩ := P
  have f1 : fr 123 140 hi hi' := fun a ha => f a (by omega) (by omega)
  refine ⟨SR, olP_fr f1 (by decide) O, ?_, ?_, mV_f (fun a h1 h2 => f a (by omega) (by omega)) HV, HT', fun k hk => by rw [f 140 (by decide) (by decide)]; exact HF k hk, mK_fr f1 (by decide) HK, fr_trans E (fr_mono f1 (by decide)), EL, EX⟩
  · have hn := rTle H
    refine ⟨fun k hk a ha => ?_, fun h hh w hw => ?_, ?_, hn⟩
    · rw [f _ (by omega) (by omega)]; exact H.1 k hk a ha
    · rw [f _ (by omega) (by omega)]; exact H.2.1 h hh w hw
    · rw [g 10 (by decide)]; exact H.2.2.1
  · unfold rR rS
    rw [g 12 (by decide), g 14 (by decide), g 15 (by decide), g 18 (by decide), g 19 (by decide), g 21 (by decide), f (123 + 29) (by decide) (by decide), f (123 + 33) (by decide) (by decide), f (123 + 34) (by decide) (by decide)]
    exact HR
theorem mP_shelf {j : Nat} {c : Int32} {z a : Nat} {e : Nat → Int64} (hj : j < 8) (P : mP hi0 hl0 X0 hi hl X T n R KO V ts tl F) (f : ∀ b, b ≠ 124 → b ≠ 125 → b ≠ 126 → b ≠ 137 → b ≠ 138 → hi' b = hi b) (g : ∀ b k, k ≠ j → hi' b k = hi b k) (fl : ∀ b, b ≠ 123 + (5 + j) → b ≠ 136 → hl' b = hl b) (h1 : hi' 124 j = shK c) (h2 : wi c 0 4 = true → hi' 125 j = c) (h3 : hi' 126 j = nI z) (h4 : 10 < c → hi' 137 j = c - 10) (h5 : hi' 138 j = nI a) (h6 : ∀ i, i < 40 → hl' (123 + (5 + j)) i = e i) : mP hi0 hl0 X0 hi' hl' X T n R KO (lm_u1 V j (c, z, a, e)) ts tl F := by
  obtain ⟨SR, O, H, HR, HV, HT, HF, HK, E, EL, EX⟩ := P
  have f1 : fr 124 139 hi hi' := fun a ha => f a (by omega) (by omega) (by omega) (by omega) (by omega)
  refine ⟨SR, olP_fr f1 (by decide) O, ?_, rR_fr f1 (by decide) HR, fun k hk => ?_, ⟨by rw [f1 123 (by decide)]; exact HT.1, fun i hj => by rw [f1 139 (by decide)]; exact HT.2 i hj⟩, fun k hk => by rw [f1 140 (by decide)]; exact HF k hk, mK_fr f1 (by decide) HK, fr_trans E (fr_mono f1 (by decide)), fun b hb => (fl b (by omega) (by omega)).trans (EL b hb), EX⟩
  · have hn := rTle H
    refine ⟨fun k hk a ha => ?_, fun h hh w hw => ?_, ?_, hn⟩
    · rw [f1 _ (by omega)]; exact H.1 k hk a ha
    · rw [f1 _ (by omega)]; exact H.2.1 h hh w hw
    · rw [f1 _ (by decide)]; exact H.2.2.1
  · unfold lm_u1
    by_cases h : k = j
    · subst h; simp only [if_pos]; exact ⟨h1, h2, h3, h4, h5, h6⟩
    · rw [if_neg h, g 124 k h, g 125 k h, g 126 k h, g 137 k h, g 138 k h, fl (123 + (5 + k)) (by omega) (by omega)]; exact HV k hk
end
theorem lkR_s {c e : Int32} : lkR c e = if shK c = 1 then -3 else if shK e = 1 then -3 else if shK c = 0 then -4 else if shK e = 0 then -4 else 0 := by
  unfold lkR shK
  by_cases h1 : wi c 0 4 = true
  · simp [h1]
  · by_cases h2 : wi e 0 4 = true
    · by_cases h3 : 10 < c <;> simp [h1, h2, h3]
    · by_cases h3 : 10 < c <;> by_cases h4 : 10 < e <;> simp [h1, h2, h3, h4]
theorem row_not {c : Int32} (h : wi c 0 4 = true) : ¬ 10 < c := by
  obtain ⟨j, rfl, hj⟩ := wi_e (n := 4) h (by decide)
  have := nI_lt_iff (a := 10) (b := j) (by decide) (by omega)
  intro z
  have := this.mp z
  omega
theorem lkW_s {c m : Int32} {z : Nat} : lkW c z m = if shK c = 2 then -3 else if shK c = 0 then -4 else if nI z < m then -2 else 0 := by
  unfold lkW shK
  by_cases h1 : wi c 0 4 = true
  · simp [h1, row_not h1]
  · by_cases h3 : 10 < c <;> simp [h1, h3]
theorem shK_w {c : Int32} (h : wi c 0 4 = true) : shK c = 1 := if_pos h
theorem shK_u {c : Int32} (h : 10 < c) : shK c = 2 := by
  unfold shK
  rw [if_neg (fun z => row_not z h), if_pos h]
theorem lkR_0 {c e : Int32} : lkR c e = 0 ↔ (10 < c ∧ 10 < e) := by
  constructor
  · intro h
    unfold lkR at h
    split at h
    · exact absurd h (by decide)
    · split at h
      · exact absurd h (by decide)
      · split at h
        · split at h
          · exact ⟨by assumption, by assumption⟩
          · exact absurd h (by decide)
        · exact absurd h (by decide)
  · rintro ⟨h1, h2⟩
    rw [lkR_s, shK_u h1, shK_u h2]; rfl
theorem lkW_0 {c m : Int32} {z : Nat} : lkW c z m = 0 ↔ (wi c 0 4 = true ∧ ¬ nI z < m) := by
  constructor
  · intro h
    unfold lkW at h
    split at h
    · exact absurd h (by decide)
    · split at h
      · split at h
        · exact absurd h (by decide)
        · exact ⟨by assumption, by assumption⟩
      · exact absurd h (by decide)
  · rintro ⟨h1, h2⟩
    rw [lkW_s, shK_w h1, if_neg (by decide), if_neg (by decide), if_neg h2]
theorem lm_c_1 {d g : Nat} {as : List Value} {h h1 : lm_H} {b : Bool} (hc : lm_c d g as h (some (.int (bz b)), h1)) (e : b = true) : lm_c d g as h (some (.int 1), h1) := by subst e; exact hc
theorem isW_m {w : Int32} (h : isW w) : ∃ k, k < 5 ∧ -w = nI (2 + k) ∧ (-2 - w).toNatClampNeg = k := by
  rcases h with rfl | rfl | rfl | rfl | rfl
  · exact ⟨0, by decide, rfl, rfl⟩
  · exact ⟨1, by decide, rfl, rfl⟩
  · exact ⟨2, by decide, rfl, rfl⟩
  · exact ⟨3, by decide, rfl, rfl⟩
  · exact ⟨4, by decide, rfl, rfl⟩
theorem m_refuse {d : Nat} {hi : Nat → Nat → Int32} {hl : Nat → Nat → Int64} {X : lm_X} {hi0 : Nat → Nat → Int32} {hl0 : Nat → Nat → Int64} {X0 : lm_X} {n ts : Nat} {T : lm_T} {R : Nat → Int32} {KO : ab_K} {V : ab_V} {tl F : Nat → Int32} (P : mP hi0 hl0 X0 hi hl X T n R KO V ts tl F) {w : Int32} (hw : isW w) : lm_w d 132 [.ref 123, .int w] (hi, hl, X) (fun r h1 => r = some (.int w) ∧ ∃ hi', h1 = (hi', hl, X) ∧ mP hi0 hl0 X0 hi' hl X T n R KO V ts tl (rfU F w)) := by
  obtain ⟨SR, O, H, HR, HV, HT, HF, HK, E0, EL0, EX0⟩ := id P
  have S := SR.1
  obtain ⟨k, hk, e1, e2⟩ := isW_m hw
  refine lm_w_in (Nat.le_of_ble_eq_true rfl) ?_
  show lm_wp d 132 0 [.ref 123, .int w] [] (hi, hl, X) _
  refine w_N 1 1 [.ref 123, .int w] [.ref 123] rfl ?_
  refine w_gr 140 rfl rfl rfl (M_kd S) (M_r S (k := 9) (o := 17) rfl) ?_
  refine w_N 3 7 [.ref 123, .int w] [.int (-w), .ref 140, .int (-w), .ref 140] rfl ?_
  refine w_ia (2 + k) (v := F k) rfl (show X.2.1 (140) = 1 from M_k S 17 (by decide)) (show X.2.2.1 (140) = 8 from M_l S 17 (by decide)) e1 (by omega) (by decide) (HF k hk) ?_
  refine w_N 2 10 [.ref 123, .int w] [.int ((F k) + 1), .int (-w), .ref 140] rfl ?_
  refine w_is (2 + k) rfl (show X.2.1 (140) = 1 from M_k S 17 (by decide)) (by decide) (show X.2.2.1 (140) = 8 from M_l S 17 (by decide)) e1 (by omega) (by decide) ?_
  refine w_N 1 12 [.ref 123, .int w] [.int w] rfl ?_
  refine w_ri rfl rfl ?_
  refine ⟨rfl, _, rfl, mP_ref P (fr_up fr_rfl (by decide)) (fun j hj => ?_)⟩
  unfold rfU lm_u1
  rw [e2]
  by_cases z : j = k
  · subst z; rw [lm_up_eq, if_pos rfl]
  · rw [lm_up_nk (by omega), if_neg z]; exact HF j hj
theorem m_isAct {d : Nat} {hi : Nat → Nat → Int32} {hl : Nat → Nat → Int64} {X : lm_X} {x : Int32} {x1 : Int64} {n : Nat} {T : lm_T} (S : sh_M X 123) (H : rT hi 123 T n) (hx : x.toInt64 = x1) : lm_c (d + 1) 134 [.ref 123, .long x1] (hi, hl, X) (some (.int (bz (wi x 0 (nI n - 1)))), (hi, hl, X)) := by
  refine lm_c_of (lm_w_in (Nat.le_of_ble_eq_true rfl) ?_)
  show lm_wp (d + 1) 134 0 [.ref 123, .long x1, lm_jk] [] (hi, hl, X) _
  refine w_N 3 3 [.ref 123, .long x1, lm_jk] [.ref 123, .long 0, .long x1] rfl ?_
  refine w_gi (v := nI n) rfl rfl rfl (M_kd S) (rTn H) ?_
  refine w_N 3 9 [.ref 123, .long x1, lm_jk] [.long (((nI n) - 1).toInt64), .long 0, .long x1] rfl ?_
  refine w_cc rfl (m_in (x := x) (lo := 0) (up := nI n - 1) hx (by decide) rfl) ?_
  show lm_wp _ 134 12 [.ref 123, .long x1, lm_jk] [.int (bz (wi x 0 (nI n - 1)))] (hi, hl, X) _
  refine w_rz rfl rfl (bz_or _) ?_
  rfl
theorem m_areDays {d : Nat} {hi : Nat → Nat → Int32} {hl : Nat → Nat → Int64} {X : lm_X} {x : Int32} : lm_c (d + 1) 198 [.int x] (hi, hl, X) (some (.int (bz (wi x 1 4))), (hi, hl, X)) := by
  refine lm_c_of (lm_w_in (Nat.le_of_ble_eq_true rfl) ?_)
  show lm_wp (d + 1) 198 0 [.int x] [] (hi, hl, X) _
  refine w_N 4 6 [.int x] [.long 4, .long 1, .long x.toInt64] rfl ?_
  refine w_cc rfl (m_in (x := x) (lo := 1) (up := 4) rfl (by decide) (by decide)) ?_
  show lm_wp _ 198 9 [.int x] [.int (bz (wi x 1 4))] (hi, hl, X) _
  refine w_rz rfl rfl (bz_or _) ?_
  rfl
theorem m_noRow_0 {d : Nat} {hi : Nat → Nat → Int32} {hl : Nat → Nat → Int64} {X : lm_X} {hi0 : Nat → Nat → Int32} {hl0 : Nat → Nat → Int64} {X0 : lm_X} {n ts : Nat} {T : lm_T} {R : Nat → Int32} {KO : ab_K} {V : ab_V} {tl F : Nat → Int32} (P : mP hi0 hl0 X0 hi hl X T n R KO V ts tl F) {j : Nat} (hj : j < 8) (h0 : lkW (V j).1 (V j).2.1 0 = 0) : lm_c (d + 1) 139 [.ref 123, .int (nI j)] (hi, hl, X) (some (.int 0), (hi, hl, X)) := by
  obtain ⟨SR, O, H, HR, HV, HT, HF, HK, E0, EL0, EX0⟩ := id P
  have S := SR.1
  refine lm_c_of (lm_w_in (Nat.le_of_ble_eq_true rfl) ?_)
  show lm_wp (d + 1) 139 0 [.ref 123, .int (nI j)] [] (hi, hl, X) _
  refine w_N 4 6 [.ref 123, .int (nI j)] [.long 7, .long 0, .long ((nI j).toInt64)] rfl ?_
  refine w_cc rfl (lm_c_1 (m_in (x := nI j) (lo := 0) (up := 7) rfl (by decide) (by decide)) (wi_t (n := 7) (Nat.le_of_lt_succ hj) (by decide))) ?_
  show lm_wp _ 139 9 [.ref 123, .int (nI j)] [.int 1] (hi, hl, X) _
  refine w_if_ne_t (t := 19) rfl rfl (by decide) ?_
  refine w_N 1 20 [.ref 123, .int (nI j)] [.ref 123] rfl ?_
  refine w_gr 124 rfl rfl rfl (M_kd S) (M_r S (k := 0) (o := 1) rfl) ?_
  refine w_N 1 24 [.ref 123, .int (nI j)] [.int (nI j), .ref 124] rfl ?_
  refine w_ia j (v := shK (V j).1) rfl (show X.2.1 (124) = 1 from M_k S 1 (by decide)) (show X.2.2.1 (124) = 8 from M_l S 1 (by decide)) rfl hj (by decide) ((HV j hj).1) ?_
  refine w_N 1 26 [.ref 123, .int (nI j)] [.int 2, .int (shK (V j).1)] rfl ?_
  refine w_icmp_ne (t := 36) rfl rfl (fun c1 => ?_) (fun c1 => ?_)
  · refine w_N 1 37 [.ref 123, .int (nI j)] [.ref 123] rfl ?_
    refine w_gr 124 rfl rfl rfl (M_kd S) (M_r S (k := 0) (o := 1) rfl) ?_
    refine w_N 1 41 [.ref 123, .int (nI j)] [.int (nI j), .ref 124] rfl ?_
    refine w_ia j (v := shK (V j).1) rfl (show X.2.1 (124) = 1 from M_k S 1 (by decide)) (show X.2.2.1 (124) = 8 from M_l S 1 (by decide)) rfl hj (by decide) ((HV j hj).1) ?_
    refine w_if_ne (t := 54) rfl rfl (fun c2 => ?_) (fun c2 => ?_)
    · refine w_N 1 55 [.ref 123, .int (nI j)] [.int 0] rfl ?_
      refine w_ri rfl rfl ?_
      rfl
    · refine w_N 2 48 [.ref 123, .int (nI j)] [.int (-4), .ref 123] rfl ?_
      exact absurd h0 (by rw [lkW_s]; simp [c1, c2])
  · refine w_N 2 32 [.ref 123, .int (nI j)] [.int (-3), .ref 123] rfl ?_
    exact absurd h0 (by rw [lkW_s]; simp [c1])
theorem m_noRow_1 {d : Nat} {hi : Nat → Nat → Int32} {hl : Nat → Nat → Int64} {X : lm_X} {hi0 : Nat → Nat → Int32} {hl0 : Nat → Nat → Int64} {X0 : lm_X} {n ts : Nat} {T : lm_T} {R : Nat → Int32} {KO : ab_K} {V : ab_V} {tl F : Nat → Int32} (P : mP hi0 hl0 X0 hi hl X T n R KO V ts tl F) {j : Nat} (hj : j < 8) (hz : (V j).2.1 ≤ 40) (h0 : ¬ lkW (V j).1 (V j).2.1 0 = 0) : lm_w (d + 1) 139 [.ref 123, .int (nI j)] (hi, hl, X) (fun r h1 => r = some (.int (lkW (V j).1 (V j).2.1 0)) ∧ ∃ hi', h1 = (hi', hl, X) ∧ mP hi0 hl0 X0 hi' hl X T n R KO V ts tl (rfU F (lkW (V j).1 (V j).2.1 0))) := by
  obtain ⟨SR, O, H, HR, HV, HT, HF, HK, E0, EL0, EX0⟩ := id P
  have S := SR.1
  refine lm_w_in (Nat.le_of_ble_eq_true rfl) ?_
  show lm_wp (d + 1) 139 0 [.ref 123, .int (nI j)] [] (hi, hl, X) _
  refine w_N 4 6 [.ref 123, .int (nI j)] [.long 7, .long 0, .long ((nI j).toInt64)] rfl ?_
  refine w_cc rfl (lm_c_1 (m_in (x := nI j) (lo := 0) (up := 7) rfl (by decide) (by decide)) (wi_t (n := 7) (Nat.le_of_lt_succ hj) (by decide))) ?_
  show lm_wp _ 139 9 [.ref 123, .int (nI j)] [.int 1] (hi, hl, X) _
  refine w_if_ne_t (t := 19) rfl rfl (by decide) ?_
  refine w_N 1 20 [.ref 123, .int (nI j)] [.ref 123] rfl ?_
  refine w_gr 124 rfl rfl rfl (M_kd S) (M_r S (k := 0) (o := 1) rfl) ?_
  refine w_N 1 24 [.ref 123, .int (nI j)] [.int (nI j), .ref 124] rfl ?_
  refine w_ia j (v := shK (V j).1) rfl (show X.2.1 (124) = 1 from M_k S 1 (by decide)) (show X.2.2.1 (124) = 8 from M_l S 1 (by decide)) rfl hj (by decide) ((HV j hj).1) ?_
  refine w_N 1 26 [.ref 123, .int (nI j)] [.int 2, .int (shK (V j).1)] rfl ?_
  refine w_icmp_ne (t := 36) rfl rfl (fun c1 => ?_) (fun c1 => ?_)
  · refine w_N 1 37 [.ref 123, .int (nI j)] [.ref 123] rfl ?_
    refine w_gr 124 rfl rfl rfl (M_kd S) (M_r S (k := 0) (o := 1) rfl) ?_
    refine w_N 1 41 [.ref 123, .int (nI j)] [.int (nI j), .ref 124] rfl ?_
    refine w_ia j (v := shK (V j).1) rfl (show X.2.1 (124) = 1 from M_k S 1 (by decide)) (show X.2.2.1 (124) = 8 from M_l S 1 (by decide)) rfl hj (by decide) ((HV j hj).1) ?_
    refine w_if_ne (t := 54) rfl rfl (fun c2 => ?_) (fun c2 => ?_)
    · refine w_N 1 55 [.ref 123, .int (nI j)] [.int 0] rfl ?_
      refine w_ri rfl rfl ?_
      exact absurd (by rw [lkW_s]; simp [c1, c2]; exact Int32.not_lt.mp (nI_pos (by omega))) h0
    · refine w_N 2 48 [.ref 123, .int (nI j)] [.int (-4), .ref 123] rfl ?_
      have ew : lkW (V j).1 (V j).2.1 0 = (-4) := by rw [lkW_s]; simp [c1, c2]
      rw [ew] at h0 ⊢
      refine w_ca (w_vst rfl rfl rfl (Nat.le_of_ble_eq_true rfl) (Nat.le_of_ble_eq_true rfl) (M_kd S)) (m_refuse P (by unfold isW; decide)) ?_
      rintro _ _ ⟨rfl, hi9, rfl, P9⟩
      show lm_wp _ 139 51 [.ref 123, .int (nI j)] [.int (-4)] (hi9, hl, X) _
      refine w_N 1 55 [.ref 123, .int (nI j)] [.int (-4)] rfl ?_
      refine w_ri rfl rfl ?_
      exact ⟨rfl, hi9, rfl, P9⟩
  · refine w_N 2 32 [.ref 123, .int (nI j)] [.int (-3), .ref 123] rfl ?_
    have ew : lkW (V j).1 (V j).2.1 0 = (-3) := by rw [lkW_s]; simp [c1]
    rw [ew] at h0 ⊢
    refine w_ca (w_vst rfl rfl rfl (Nat.le_of_ble_eq_true rfl) (Nat.le_of_ble_eq_true rfl) (M_kd S)) (m_refuse P (by unfold isW; decide)) ?_
    rintro _ _ ⟨rfl, hi9, rfl, P9⟩
    show lm_wp _ 139 35 [.ref 123, .int (nI j)] [.int (-3)] (hi9, hl, X) _
    refine w_ri rfl rfl ?_
    exact ⟨rfl, hi9, rfl, P9⟩
theorem m_noRule_0 {d : Nat} {hi : Nat → Nat → Int32} {hl : Nat → Nat → Int64} {X : lm_X} {hi0 : Nat → Nat → Int32} {hl0 : Nat → Nat → Int64} {X0 : lm_X} {n ts : Nat} {T : lm_T} {R : Nat → Int32} {KO : ab_K} {V : ab_V} {tl F : Nat → Int32} (P : mP hi0 hl0 X0 hi hl X T n R KO V ts tl F) {j : Nat} (hj : j < 8) (h0 : lkR (V j).1 (V j).1 = 0) : lm_c (d + 1) 140 [.ref 123, .int (nI j)] (hi, hl, X) (some (.int 0), (hi, hl, X)) := by
  obtain ⟨SR, O, H, HR, HV, HT, HF, HK, E0, EL0, EX0⟩ := id P
  have S := SR.1
  refine lm_c_of (lm_w_in (Nat.le_of_ble_eq_true rfl) ?_)
  show lm_wp (d + 1) 140 0 [.ref 123, .int (nI j)] [] (hi, hl, X) _
  refine w_N 4 6 [.ref 123, .int (nI j)] [.long 7, .long 0, .long ((nI j).toInt64)] rfl ?_
  refine w_cc rfl (lm_c_1 (m_in (x := nI j) (lo := 0) (up := 7) rfl (by decide) (by decide)) (wi_t (n := 7) (Nat.le_of_lt_succ hj) (by decide))) ?_
  show lm_wp _ 140 9 [.ref 123, .int (nI j)] [.int 1] (hi, hl, X) _
  refine w_if_ne_t (t := 19) rfl rfl (by decide) ?_
  refine w_N 1 20 [.ref 123, .int (nI j)] [.ref 123] rfl ?_
  refine w_gr 124 rfl rfl rfl (M_kd S) (M_r S (k := 0) (o := 1) rfl) ?_
  refine w_N 1 24 [.ref 123, .int (nI j)] [.int (nI j), .ref 124] rfl ?_
  refine w_ia j (v := shK (V j).1) rfl (show X.2.1 (124) = 1 from M_k S 1 (by decide)) (show X.2.2.1 (124) = 8 from M_l S 1 (by decide)) rfl hj (by decide) ((HV j hj).1) ?_
  refine w_N 1 26 [.ref 123, .int (nI j)] [.int 1, .int (shK (V j).1)] rfl ?_
  refine w_icmp_ne (t := 36) rfl rfl (fun c1 => ?_) (fun c1 => ?_)
  · refine w_N 1 37 [.ref 123, .int (nI j)] [.ref 123] rfl ?_
    refine w_gr 124 rfl rfl rfl (M_kd S) (M_r S (k := 0) (o := 1) rfl) ?_
    refine w_N 1 41 [.ref 123, .int (nI j)] [.int (nI j), .ref 124] rfl ?_
    refine w_ia j (v := shK (V j).1) rfl (show X.2.1 (124) = 1 from M_k S 1 (by decide)) (show X.2.2.1 (124) = 8 from M_l S 1 (by decide)) rfl hj (by decide) ((HV j hj).1) ?_
    refine w_if_ne (t := 54) rfl rfl (fun c2 => ?_) (fun c2 => ?_)
    · refine w_N 1 55 [.ref 123, .int (nI j)] [.int 0] rfl ?_
      refine w_ri rfl rfl ?_
      rfl
    · refine w_N 2 48 [.ref 123, .int (nI j)] [.int (-4), .ref 123] rfl ?_
      exact absurd h0 (by rw [lkR_s]; simp [c1, c2])
  · refine w_N 2 32 [.ref 123, .int (nI j)] [.int (-3), .ref 123] rfl ?_
    exact absurd h0 (by rw [lkR_s]; simp [c1])
theorem m_noRule_1 {d : Nat} {hi : Nat → Nat → Int32} {hl : Nat → Nat → Int64} {X : lm_X} {hi0 : Nat → Nat → Int32} {hl0 : Nat → Nat → Int64} {X0 : lm_X} {n ts : Nat} {T : lm_T} {R : Nat → Int32} {KO : ab_K} {V : ab_V} {tl F : Nat → Int32} (P : mP hi0 hl0 X0 hi hl X T n R KO V ts tl F) {j : Nat} (hj : j < 8) (h0 : ¬ lkR (V j).1 (V j).1 = 0) : lm_w (d + 1) 140 [.ref 123, .int (nI j)] (hi, hl, X) (fun r h1 => r = some (.int (lkR (V j).1 (V j).1)) ∧ ∃ hi', h1 = (hi', hl, X) ∧ mP hi0 hl0 X0 hi' hl X T n R KO V ts tl (rfU F (lkR (V j).1 (V j).1))) := by
  obtain ⟨SR, O, H, HR, HV, HT, HF, HK, E0, EL0, EX0⟩ := id P
  have S := SR.1
  refine lm_w_in (Nat.le_of_ble_eq_true rfl) ?_
  show lm_wp (d + 1) 140 0 [.ref 123, .int (nI j)] [] (hi, hl, X) _
  refine w_N 4 6 [.ref 123, .int (nI j)] [.long 7, .long 0, .long ((nI j).toInt64)] rfl ?_
  refine w_cc rfl (lm_c_1 (m_in (x := nI j) (lo := 0) (up := 7) rfl (by decide) (by decide)) (wi_t (n := 7) (Nat.le_of_lt_succ hj) (by decide))) ?_
  show lm_wp _ 140 9 [.ref 123, .int (nI j)] [.int 1] (hi, hl, X) _
  refine w_if_ne_t (t := 19) rfl rfl (by decide) ?_
  refine w_N 1 20 [.ref 123, .int (nI j)] [.ref 123] rfl ?_
  refine w_gr 124 rfl rfl rfl (M_kd S) (M_r S (k := 0) (o := 1) rfl) ?_
  refine w_N 1 24 [.ref 123, .int (nI j)] [.int (nI j), .ref 124] rfl ?_
  refine w_ia j (v := shK (V j).1) rfl (show X.2.1 (124) = 1 from M_k S 1 (by decide)) (show X.2.2.1 (124) = 8 from M_l S 1 (by decide)) rfl hj (by decide) ((HV j hj).1) ?_
  refine w_N 1 26 [.ref 123, .int (nI j)] [.int 1, .int (shK (V j).1)] rfl ?_
  refine w_icmp_ne (t := 36) rfl rfl (fun c1 => ?_) (fun c1 => ?_)
  · refine w_N 1 37 [.ref 123, .int (nI j)] [.ref 123] rfl ?_
    refine w_gr 124 rfl rfl rfl (M_kd S) (M_r S (k := 0) (o := 1) rfl) ?_
    refine w_N 1 41 [.ref 123, .int (nI j)] [.int (nI j), .ref 124] rfl ?_
    refine w_ia j (v := shK (V j).1) rfl (show X.2.1 (124) = 1 from M_k S 1 (by decide)) (show X.2.2.1 (124) = 8 from M_l S 1 (by decide)) rfl hj (by decide) ((HV j hj).1) ?_
    refine w_if_ne (t := 54) rfl rfl (fun c2 => ?_) (fun c2 => ?_)
    · refine w_N 1 55 [.ref 123, .int (nI j)] [.int 0] rfl ?_
      refine w_ri rfl rfl ?_
      exact absurd (by rw [lkR_s]; simp [c1, c2]) h0
    · refine w_N 2 48 [.ref 123, .int (nI j)] [.int (-4), .ref 123] rfl ?_
      have ew : lkR (V j).1 (V j).1 = (-4) := by rw [lkR_s]; simp [c1, c2]
      rw [ew] at h0 ⊢
      refine w_ca (w_vst rfl rfl rfl (Nat.le_of_ble_eq_true rfl) (Nat.le_of_ble_eq_true rfl) (M_kd S)) (m_refuse P (by unfold isW; decide)) ?_
      rintro _ _ ⟨rfl, hi9, rfl, P9⟩
      show lm_wp _ 140 51 [.ref 123, .int (nI j)] [.int (-4)] (hi9, hl, X) _
      refine w_N 1 55 [.ref 123, .int (nI j)] [.int (-4)] rfl ?_
      refine w_ri rfl rfl ?_
      exact ⟨rfl, hi9, rfl, P9⟩
  · refine w_N 2 32 [.ref 123, .int (nI j)] [.int (-3), .ref 123] rfl ?_
    have ew : lkR (V j).1 (V j).1 = (-3) := by rw [lkR_s]; simp [c1]
    rw [ew] at h0 ⊢
    refine w_ca (w_vst rfl rfl rfl (Nat.le_of_ble_eq_true rfl) (Nat.le_of_ble_eq_true rfl) (M_kd S)) (m_refuse P (by unfold isW; decide)) ?_
    rintro _ _ ⟨rfl, hi9, rfl, P9⟩
    show lm_wp _ 140 35 [.ref 123, .int (nI j)] [.int (-3)] (hi9, hl, X) _
    refine w_ri rfl rfl ?_
    exact ⟨rfl, hi9, rfl, P9⟩
theorem m_noRules_0 {d : Nat} {hi : Nat → Nat → Int32} {hl : Nat → Nat → Int64} {X : lm_X} {hi0 : Nat → Nat → Int32} {hl0 : Nat → Nat → Int64} {X0 : lm_X} {n ts : Nat} {T : lm_T} {R : Nat → Int32} {KO : ab_K} {V : ab_V} {tl F : Nat → Int32} (P : mP hi0 hl0 X0 hi hl X T n R KO V ts tl F) {j k : Nat} (hj : j < 8) (hk : k < 8) (h0 : lkR (V j).1 (V k).1 = 0) : lm_c (d + 1) 141 [.ref 123, .int (nI j), .int (nI k)] (hi, hl, X) (some (.int 0), (hi, hl, X)) := by
  obtain ⟨SR, O, H, HR, HV, HT, HF, HK, E0, EL0, EX0⟩ := id P
  have S := SR.1
  refine lm_c_of (lm_w_in (Nat.le_of_ble_eq_true rfl) ?_)
  show lm_wp (d + 1) 141 0 [.ref 123, .int (nI j), .int (nI k)] [] (hi, hl, X) _
  refine w_N 4 6 [.ref 123, .int (nI j), .int (nI k)] [.long 7, .long 0, .long ((nI j).toInt64)] rfl ?_
  refine w_cc rfl (lm_c_1 (m_in (x := nI j) (lo := 0) (up := 7) rfl (by decide) (by decide)) (wi_t (n := 7) (Nat.le_of_lt_succ hj) (by decide))) ?_
  show lm_wp _ 141 9 [.ref 123, .int (nI j), .int (nI k)] [.int 1] (hi, hl, X) _
  refine w_if_eq_f (t := 24) rfl rfl (by decide) ?_
  refine w_N 4 18 [.ref 123, .int (nI j), .int (nI k)] [.long 7, .long 0, .long ((nI k).toInt64)] rfl ?_
  refine w_cc rfl (lm_c_1 (m_in (x := nI k) (lo := 0) (up := 7) rfl (by decide) (by decide)) (wi_t (n := 7) (Nat.le_of_lt_succ hk) (by decide))) ?_
  show lm_wp _ 141 21 [.ref 123, .int (nI j), .int (nI k)] [.int 1] (hi, hl, X) _
  refine w_if_ne_t (t := 31) rfl rfl (by decide) ?_
  refine w_N 1 32 [.ref 123, .int (nI j), .int (nI k)] [.ref 123] rfl ?_
  refine w_gr 124 rfl rfl rfl (M_kd S) (M_r S (k := 0) (o := 1) rfl) ?_
  refine w_N 1 36 [.ref 123, .int (nI j), .int (nI k)] [.int (nI j), .ref 124] rfl ?_
  refine w_ia j (v := shK (V j).1) rfl (show X.2.1 (124) = 1 from M_k S 1 (by decide)) (show X.2.2.1 (124) = 8 from M_l S 1 (by decide)) rfl hj (by decide) ((HV j hj).1) ?_
  refine w_N 1 38 [.ref 123, .int (nI j), .int (nI k)] [.int 1, .int (shK (V j).1)] rfl ?_
  refine w_icmp_eq (t := 51) rfl rfl (fun c1 => ?_) (fun c1 => ?_)
  · refine w_N 2 54 [.ref 123, .int (nI j), .int (nI k)] [.int (-3), .ref 123] rfl ?_
    exact absurd h0 (by rw [lkR_s]; simp [c1])
  · refine w_N 1 42 [.ref 123, .int (nI j), .int (nI k)] [.ref 123] rfl ?_
    refine w_gr 124 rfl rfl rfl (M_kd S) (M_r S (k := 0) (o := 1) rfl) ?_
    refine w_N 1 46 [.ref 123, .int (nI j), .int (nI k)] [.int (nI k), .ref 124] rfl ?_
    refine w_ia k (v := shK (V k).1) rfl (show X.2.1 (124) = 1 from M_k S 1 (by decide)) (show X.2.2.1 (124) = 8 from M_l S 1 (by decide)) rfl hk (by decide) ((HV k hk).1) ?_
    refine w_N 1 48 [.ref 123, .int (nI j), .int (nI k)] [.int 1, .int (shK (V k).1)] rfl ?_
    refine w_icmp_ne (t := 58) rfl rfl (fun c2 => ?_) (fun c2 => ?_)
    · refine w_N 1 59 [.ref 123, .int (nI j), .int (nI k)] [.ref 123] rfl ?_
      refine w_gr 124 rfl rfl rfl (M_kd S) (M_r S (k := 0) (o := 1) rfl) ?_
      refine w_N 1 63 [.ref 123, .int (nI j), .int (nI k)] [.int (nI j), .ref 124] rfl ?_
      refine w_ia j (v := shK (V j).1) rfl (show X.2.1 (124) = 1 from M_k S 1 (by decide)) (show X.2.2.1 (124) = 8 from M_l S 1 (by decide)) rfl hj (by decide) ((HV j hj).1) ?_
      refine w_if_eq (t := 76) rfl rfl (fun c3 => ?_) (fun c3 => ?_)
      · refine w_N 2 79 [.ref 123, .int (nI j), .int (nI k)] [.int (-4), .ref 123] rfl ?_
        exact absurd h0 (by rw [lkR_s]; simp [c1, c2, c3])
      · refine w_N 1 68 [.ref 123, .int (nI j), .int (nI k)] [.ref 123] rfl ?_
        refine w_gr 124 rfl rfl rfl (M_kd S) (M_r S (k := 0) (o := 1) rfl) ?_
        refine w_N 1 72 [.ref 123, .int (nI j), .int (nI k)] [.int (nI k), .ref 124] rfl ?_
        refine w_ia k (v := shK (V k).1) rfl (show X.2.1 (124) = 1 from M_k S 1 (by decide)) (show X.2.2.1 (124) = 8 from M_l S 1 (by decide)) rfl hk (by decide) ((HV k hk).1) ?_
        refine w_if_ne (t := 85) rfl rfl (fun c4 => ?_) (fun c4 => ?_)
        · refine w_N 1 86 [.ref 123, .int (nI j), .int (nI k)] [.int 0] rfl ?_
          refine w_ri rfl rfl ?_
          rfl
        · refine w_N 2 79 [.ref 123, .int (nI j), .int (nI k)] [.int (-4), .ref 123] rfl ?_
          exact absurd h0 (by rw [lkR_s]; simp [c1, c2, c3, c4])
    · refine w_N 2 54 [.ref 123, .int (nI j), .int (nI k)] [.int (-3), .ref 123] rfl ?_
      exact absurd h0 (by rw [lkR_s]; simp [c1, c2])
theorem m_noRules_1 {d : Nat} {hi : Nat → Nat → Int32} {hl : Nat → Nat → Int64} {X : lm_X} {hi0 : Nat → Nat → Int32} {hl0 : Nat → Nat → Int64} {X0 : lm_X} {n ts : Nat} {T : lm_T} {R : Nat → Int32} {KO : ab_K} {V : ab_V} {tl F : Nat → Int32} (P : mP hi0 hl0 X0 hi hl X T n R KO V ts tl F) {j k : Nat} (hj : j < 8) (hk : k < 8) (h0 : ¬ lkR (V j).1 (V k).1 = 0) : lm_w (d + 1) 141 [.ref 123, .int (nI j), .int (nI k)] (hi, hl, X) (fun r h1 => r = some (.int (lkR (V j).1 (V k).1)) ∧ ∃ hi', h1 = (hi', hl, X) ∧ mP hi0 hl0 X0 hi' hl X T n R KO V ts tl (rfU F (lkR (V j).1 (V k).1))) := by
  obtain ⟨SR, O, H, HR, HV, HT, HF, HK, E0, EL0, EX0⟩ := id P
  have S := SR.1
  refine lm_w_in (Nat.le_of_ble_eq_true rfl) ?_
  show lm_wp (d + 1) 141 0 [.ref 123, .int (nI j), .int (nI k)] [] (hi, hl, X) _
  refine w_N 4 6 [.ref 123, .int (nI j), .int (nI k)] [.long 7, .long 0, .long ((nI j).toInt64)] rfl ?_
  refine w_cc rfl (lm_c_1 (m_in (x := nI j) (lo := 0) (up := 7) rfl (by decide) (by decide)) (wi_t (n := 7) (Nat.le_of_lt_succ hj) (by decide))) ?_
  show lm_wp _ 141 9 [.ref 123, .int (nI j), .int (nI k)] [.int 1] (hi, hl, X) _
  refine w_if_eq_f (t := 24) rfl rfl (by decide) ?_
  refine w_N 4 18 [.ref 123, .int (nI j), .int (nI k)] [.long 7, .long 0, .long ((nI k).toInt64)] rfl ?_
  refine w_cc rfl (lm_c_1 (m_in (x := nI k) (lo := 0) (up := 7) rfl (by decide) (by decide)) (wi_t (n := 7) (Nat.le_of_lt_succ hk) (by decide))) ?_
  show lm_wp _ 141 21 [.ref 123, .int (nI j), .int (nI k)] [.int 1] (hi, hl, X) _
  refine w_if_ne_t (t := 31) rfl rfl (by decide) ?_
  refine w_N 1 32 [.ref 123, .int (nI j), .int (nI k)] [.ref 123] rfl ?_
  refine w_gr 124 rfl rfl rfl (M_kd S) (M_r S (k := 0) (o := 1) rfl) ?_
  refine w_N 1 36 [.ref 123, .int (nI j), .int (nI k)] [.int (nI j), .ref 124] rfl ?_
  refine w_ia j (v := shK (V j).1) rfl (show X.2.1 (124) = 1 from M_k S 1 (by decide)) (show X.2.2.1 (124) = 8 from M_l S 1 (by decide)) rfl hj (by decide) ((HV j hj).1) ?_
  refine w_N 1 38 [.ref 123, .int (nI j), .int (nI k)] [.int 1, .int (shK (V j).1)] rfl ?_
  refine w_icmp_eq (t := 51) rfl rfl (fun c1 => ?_) (fun c1 => ?_)
  · refine w_N 2 54 [.ref 123, .int (nI j), .int (nI k)] [.int (-3), .ref 123] rfl ?_
    have ew : lkR (V j).1 (V k).1 = (-3) := by rw [lkR_s]; simp [c1]
    rw [ew] at h0 ⊢
    refine w_ca (w_vst rfl rfl rfl (Nat.le_of_ble_eq_true rfl) (Nat.le_of_ble_eq_true rfl) (M_kd S)) (m_refuse P (by unfold isW; decide)) ?_
    rintro _ _ ⟨rfl, hi9, rfl, P9⟩
    show lm_wp _ 141 57 [.ref 123, .int (nI j), .int (nI k)] [.int (-3)] (hi9, hl, X) _
    refine w_ri rfl rfl ?_
    exact ⟨rfl, hi9, rfl, P9⟩
  · refine w_N 1 42 [.ref 123, .int (nI j), .int (nI k)] [.ref 123] rfl ?_
    refine w_gr 124 rfl rfl rfl (M_kd S) (M_r S (k := 0) (o := 1) rfl) ?_
    refine w_N 1 46 [.ref 123, .int (nI j), .int (nI k)] [.int (nI k), .ref 124] rfl ?_
    refine w_ia k (v := shK (V k).1) rfl (show X.2.1 (124) = 1 from M_k S 1 (by decide)) (show X.2.2.1 (124) = 8 from M_l S 1 (by decide)) rfl hk (by decide) ((HV k hk).1) ?_
    refine w_N 1 48 [.ref 123, .int (nI j), .int (nI k)] [.int 1, .int (shK (V k).1)] rfl ?_
    refine w_icmp_ne (t := 58) rfl rfl (fun c2 => ?_) (fun c2 => ?_)
    · refine w_N 1 59 [.ref 123, .int (nI j), .int (nI k)] [.ref 123] rfl ?_
      refine w_gr 124 rfl rfl rfl (M_kd S) (M_r S (k := 0) (o := 1) rfl) ?_
      refine w_N 1 63 [.ref 123, .int (nI j), .int (nI k)] [.int (nI j), .ref 124] rfl ?_
      refine w_ia j (v := shK (V j).1) rfl (show X.2.1 (124) = 1 from M_k S 1 (by decide)) (show X.2.2.1 (124) = 8 from M_l S 1 (by decide)) rfl hj (by decide) ((HV j hj).1) ?_
      refine w_if_eq (t := 76) rfl rfl (fun c3 => ?_) (fun c3 => ?_)
      · refine w_N 2 79 [.ref 123, .int (nI j), .int (nI k)] [.int (-4), .ref 123] rfl ?_
        have ew : lkR (V j).1 (V k).1 = (-4) := by rw [lkR_s]; simp [c1, c2, c3]
        rw [ew] at h0 ⊢
        refine w_ca (w_vst rfl rfl rfl (Nat.le_of_ble_eq_true rfl) (Nat.le_of_ble_eq_true rfl) (M_kd S)) (m_refuse P (by unfold isW; decide)) ?_
        rintro _ _ ⟨rfl, hi9, rfl, P9⟩
        show lm_wp _ 141 82 [.ref 123, .int (nI j), .int (nI k)] [.int (-4)] (hi9, hl, X) _
        refine w_N 1 86 [.ref 123, .int (nI j), .int (nI k)] [.int (-4)] rfl ?_
        refine w_ri rfl rfl ?_
        exact ⟨rfl, hi9, rfl, P9⟩
      · refine w_N 1 68 [.ref 123, .int (nI j), .int (nI k)] [.ref 123] rfl ?_
        refine w_gr 124 rfl rfl rfl (M_kd S) (M_r S (k := 0) (o := 1) rfl) ?_
        refine w_N 1 72 [.ref 123, .int (nI j), .int (nI k)] [.int (nI k), .ref 124] rfl ?_
        refine w_ia k (v := shK (V k).1) rfl (show X.2.1 (124) = 1 from M_k S 1 (by decide)) (show X.2.2.1 (124) = 8 from M_l S 1 (by decide)) rfl hk (by decide) ((HV k hk).1) ?_
        refine w_if_ne (t := 85) rfl rfl (fun c4 => ?_) (fun c4 => ?_)
        · refine w_N 1 86 [.ref 123, .int (nI j), .int (nI k)] [.int 0] rfl ?_
          refine w_ri rfl rfl ?_
          exact absurd (by rw [lkR_s]; simp [c1, c2, c3, c4]) h0
        · refine w_N 2 79 [.ref 123, .int (nI j), .int (nI k)] [.int (-4), .ref 123] rfl ?_
          have ew : lkR (V j).1 (V k).1 = (-4) := by rw [lkR_s]; simp [c1, c2, c3, c4]
          rw [ew] at h0 ⊢
          refine w_ca (w_vst rfl rfl rfl (Nat.le_of_ble_eq_true rfl) (Nat.le_of_ble_eq_true rfl) (M_kd S)) (m_refuse P (by unfold isW; decide)) ?_
          rintro _ _ ⟨rfl, hi9, rfl, P9⟩
          show lm_wp _ 141 82 [.ref 123, .int (nI j), .int (nI k)] [.int (-4)] (hi9, hl, X) _
          refine w_N 1 86 [.ref 123, .int (nI j), .int (nI k)] [.int (-4)] rfl ?_
          refine w_ri rfl rfl ?_
          exact ⟨rfl, hi9, rfl, P9⟩
    · refine w_N 2 54 [.ref 123, .int (nI j), .int (nI k)] [.int (-3), .ref 123] rfl ?_
      have ew : lkR (V j).1 (V k).1 = (-3) := by rw [lkR_s]; simp [c1, c2]
      rw [ew] at h0 ⊢
      refine w_ca (w_vst rfl rfl rfl (Nat.le_of_ble_eq_true rfl) (Nat.le_of_ble_eq_true rfl) (M_kd S)) (m_refuse P (by unfold isW; decide)) ?_
      rintro _ _ ⟨rfl, hi9, rfl, P9⟩
      show lm_wp _ 141 57 [.ref 123, .int (nI j), .int (nI k)] [.int (-3)] (hi9, hl, X) _
      refine w_ri rfl rfl ?_
      exact ⟨rfl, hi9, rfl, P9⟩
theorem m_noRow_b {d : Nat} {hi : Nat → Nat → Int32} {hl : Nat → Nat → Int64} {X : lm_X} {hi0 : Nat → Nat → Int32} {hl0 : Nat → Nat → Int64} {X0 : lm_X} {n ts : Nat} {T : lm_T} {R : Nat → Int32} {KO : ab_K} {V : ab_V} {tl F : Nat → Int32} (P : mP hi0 hl0 X0 hi hl X T n R KO V ts tl F) {s : Int32} (hb : (wi s 0 7) = false) : lm_w (d + 2) 139 [.ref 123, .int s] (hi, hl, X) (fun r h1 => r = some (.int (-2)) ∧ ∃ hi', h1 = (hi', hl, X) ∧ mP hi0 hl0 X0 hi' hl X T n R KO V ts tl (rfU F (-2))) := by
  obtain ⟨SR, O, H, HR, HV, HT, HF, HK, E0, EL0, EX0⟩ := id P
  have S := SR.1
  refine lm_w_in (Nat.le_of_ble_eq_true rfl) ?_
  show lm_wp (d + 2) 139 0 [.ref 123, .int s] [] (hi, hl, X) _
  refine w_N 4 6 [.ref 123, .int s] [.long 7, .long 0, .long s.toInt64] rfl ?_
  refine w_cc rfl (m_in (x := s) (lo := 0) (up := 7) rfl (by decide) (by decide)) ?_
  show lm_wp _ 139 9 [.ref 123, .int s] [.int (bz (wi s 0 7))] (hi, hl, X) _
  refine w_zne (t := 19) rfl rfl (fun c1 => ?_) (fun c1 => ?_)
  · exact absurd hb (by simp [c1])
  · refine w_N 2 15 [.ref 123, .int s] [.int (-2), .ref 123] rfl ?_
    refine w_ca (w_vst rfl rfl rfl (Nat.le_of_ble_eq_true rfl) (Nat.le_of_ble_eq_true rfl) (M_kd S)) (m_refuse P (by unfold isW; decide)) ?_
    rintro _ _ ⟨rfl, hi9, rfl, P9⟩
    show lm_wp _ 139 18 [.ref 123, .int s] [.int (-2)] (hi9, hl, X) _
    refine w_ri rfl rfl ?_
    exact ⟨rfl, hi9, rfl, P9⟩
theorem m_noRule_b {d : Nat} {hi : Nat → Nat → Int32} {hl : Nat → Nat → Int64} {X : lm_X} {hi0 : Nat → Nat → Int32} {hl0 : Nat → Nat → Int64} {X0 : lm_X} {n ts : Nat} {T : lm_T} {R : Nat → Int32} {KO : ab_K} {V : ab_V} {tl F : Nat → Int32} (P : mP hi0 hl0 X0 hi hl X T n R KO V ts tl F) {s : Int32} (hb : (wi s 0 7) = false) : lm_w (d + 2) 140 [.ref 123, .int s] (hi, hl, X) (fun r h1 => r = some (.int (-2)) ∧ ∃ hi', h1 = (hi', hl, X) ∧ mP hi0 hl0 X0 hi' hl X T n R KO V ts tl (rfU F (-2))) := by
  obtain ⟨SR, O, H, HR, HV, HT, HF, HK, E0, EL0, EX0⟩ := id P
  have S := SR.1
  refine lm_w_in (Nat.le_of_ble_eq_true rfl) ?_
  show lm_wp (d + 2) 140 0 [.ref 123, .int s] [] (hi, hl, X) _
  refine w_N 4 6 [.ref 123, .int s] [.long 7, .long 0, .long s.toInt64] rfl ?_
  refine w_cc rfl (m_in (x := s) (lo := 0) (up := 7) rfl (by decide) (by decide)) ?_
  show lm_wp _ 140 9 [.ref 123, .int s] [.int (bz (wi s 0 7))] (hi, hl, X) _
  refine w_zne (t := 19) rfl rfl (fun c1 => ?_) (fun c1 => ?_)
  · exact absurd hb (by simp [c1])
  · refine w_N 2 15 [.ref 123, .int s] [.int (-2), .ref 123] rfl ?_
    refine w_ca (w_vst rfl rfl rfl (Nat.le_of_ble_eq_true rfl) (Nat.le_of_ble_eq_true rfl) (M_kd S)) (m_refuse P (by unfold isW; decide)) ?_
    rintro _ _ ⟨rfl, hi9, rfl, P9⟩
    show lm_wp _ 140 18 [.ref 123, .int s] [.int (-2)] (hi9, hl, X) _
    refine w_ri rfl rfl ?_
    exact ⟨rfl, hi9, rfl, P9⟩
theorem m_noRules_b {d : Nat} {hi : Nat → Nat → Int32} {hl : Nat → Nat → Int64} {X : lm_X} {hi0 : Nat → Nat → Int32} {hl0 : Nat → Nat → Int64} {X0 : lm_X} {n ts : Nat} {T : lm_T} {R : Nat → Int32} {KO : ab_K} {V : ab_V} {tl F : Nat → Int32} (P : mP hi0 hl0 X0 hi hl X T n R KO V ts tl F) {s t : Int32} (hb : (wi s 0 7 && wi t 0 7) = false) : lm_w (d + 2) 141 [.ref 123, .int s, .int t] (hi, hl, X) (fun r h1 => r = some (.int (-2)) ∧ ∃ hi', h1 = (hi', hl, X) ∧ mP hi0 hl0 X0 hi' hl X T n R KO V ts tl (rfU F (-2))) := by
  obtain ⟨SR, O, H, HR, HV, HT, HF, HK, E0, EL0, EX0⟩ := id P
  have S := SR.1
  refine lm_w_in (Nat.le_of_ble_eq_true rfl) ?_
  show lm_wp (d + 2) 141 0 [.ref 123, .int s, .int t] [] (hi, hl, X) _
  refine w_N 4 6 [.ref 123, .int s, .int t] [.long 7, .long 0, .long s.toInt64] rfl ?_
  refine w_cc rfl (m_in (x := s) (lo := 0) (up := 7) rfl (by decide) (by decide)) ?_
  show lm_wp _ 141 9 [.ref 123, .int s, .int t] [.int (bz (wi s 0 7))] (hi, hl, X) _
  refine w_zeq (t := 24) rfl rfl (fun c1 => ?_) (fun c1 => ?_)
  · refine w_N 2 27 [.ref 123, .int s, .int t] [.int (-2), .ref 123] rfl ?_
    refine w_ca (w_vst rfl rfl rfl (Nat.le_of_ble_eq_true rfl) (Nat.le_of_ble_eq_true rfl) (M_kd S)) (m_refuse P (by unfold isW; decide)) ?_
    rintro _ _ ⟨rfl, hi9, rfl, P9⟩
    show lm_wp _ 141 30 [.ref 123, .int s, .int t] [.int (-2)] (hi9, hl, X) _
    refine w_ri rfl rfl ?_
    exact ⟨rfl, hi9, rfl, P9⟩
  · refine w_N 4 18 [.ref 123, .int s, .int t] [.long 7, .long 0, .long t.toInt64] rfl ?_
    refine w_cc rfl (m_in (x := t) (lo := 0) (up := 7) rfl (by decide) (by decide)) ?_
    show lm_wp _ 141 21 [.ref 123, .int s, .int t] [.int (bz (wi t 0 7))] (hi, hl, X) _
    refine w_zne (t := 31) rfl rfl (fun c2 => ?_) (fun c2 => ?_)
    · exact absurd hb (by simp [c1, c2])
    · refine w_N 2 27 [.ref 123, .int s, .int t] [.int (-2), .ref 123] rfl ?_
      refine w_ca (w_vst rfl rfl rfl (Nat.le_of_ble_eq_true rfl) (Nat.le_of_ble_eq_true rfl) (M_kd S)) (m_refuse P (by unfold isW; decide)) ?_
      rintro _ _ ⟨rfl, hi9, rfl, P9⟩
      show lm_wp _ 141 30 [.ref 123, .int s, .int t] [.int (-2)] (hi9, hl, X) _
      refine w_ri rfl rfl ?_
      exact ⟨rfl, hi9, rfl, P9⟩
theorem m_noTold_b {d : Nat} {hi : Nat → Nat → Int32} {hl : Nat → Nat → Int64} {X : lm_X} {hi0 : Nat → Nat → Int32} {hl0 : Nat → Nat → Int64} {X0 : lm_X} {n ts : Nat} {T : lm_T} {R : Nat → Int32} {KO : ab_K} {V : ab_V} {tl F : Nat → Int32} (P : mP hi0 hl0 X0 hi hl X T n R KO V ts tl F) {s m : Int32} (hb : (wi s 0 7 && wi m 0 20) = false) : lm_w (d + 2) 193 [.ref 123, .int s, .int m] (hi, hl, X) (fun r h1 => r = some (.int (-2)) ∧ ∃ hi', h1 = (hi', hl, X) ∧ mP hi0 hl0 X0 hi' hl X T n R KO V ts tl (rfU F (-2))) := by
  obtain ⟨SR, O, H, HR, HV, HT, HF, HK, E0, EL0, EX0⟩ := id P
  have S := SR.1
  refine lm_w_in (Nat.le_of_ble_eq_true rfl) ?_
  show lm_wp (d + 2) 193 0 [.ref 123, .int s, .int m, lm_jk] [] (hi, hl, X) _
  refine w_N 4 6 [.ref 123, .int s, .int m, lm_jk] [.long 7, .long 0, .long s.toInt64] rfl ?_
  refine w_cc rfl (m_in (x := s) (lo := 0) (up := 7) rfl (by decide) (by decide)) ?_
  show lm_wp _ 193 9 [.ref 123, .int s, .int m, lm_jk] [.int (bz (wi s 0 7))] (hi, hl, X) _
  refine w_zeq (t := 24) rfl rfl (fun c1 => ?_) (fun c1 => ?_)
  · refine w_N 2 27 [.ref 123, .int s, .int m, lm_jk] [.int (-2), .ref 123] rfl ?_
    refine w_ca (w_vst rfl rfl rfl (Nat.le_of_ble_eq_true rfl) (Nat.le_of_ble_eq_true rfl) (M_kd S)) (m_refuse P (by unfold isW; decide)) ?_
    rintro _ _ ⟨rfl, hi9, rfl, P9⟩
    show lm_wp _ 193 30 [.ref 123, .int s, .int m, lm_jk] [.int (-2)] (hi9, hl, X) _
    refine w_ri rfl rfl ?_
    exact ⟨rfl, hi9, rfl, P9⟩
  · refine w_N 4 18 [.ref 123, .int s, .int m, lm_jk] [.long 20, .long 0, .long m.toInt64] rfl ?_
    refine w_cc rfl (m_in (x := m) (lo := 0) (up := 20) rfl (by decide) (by decide)) ?_
    show lm_wp _ 193 21 [.ref 123, .int s, .int m, lm_jk] [.int (bz (wi m 0 20))] (hi, hl, X) _
    refine w_zne (t := 31) rfl rfl (fun c2 => ?_) (fun c2 => ?_)
    · exact absurd hb (by simp [c1, c2])
    · refine w_N 2 27 [.ref 123, .int s, .int m, lm_jk] [.int (-2), .ref 123] rfl ?_
      refine w_ca (w_vst rfl rfl rfl (Nat.le_of_ble_eq_true rfl) (Nat.le_of_ble_eq_true rfl) (M_kd S)) (m_refuse P (by unfold isW; decide)) ?_
      rintro _ _ ⟨rfl, hi9, rfl, P9⟩
      show lm_wp _ 193 30 [.ref 123, .int s, .int m, lm_jk] [.int (-2)] (hi9, hl, X) _
      refine w_ri rfl rfl ?_
      exact ⟨rfl, hi9, rfl, P9⟩
theorem lkW_m {c m : Int32} {z : Nat} (h : ¬ lkW c z 0 = 0) (hz : z ≤ 40) : lkW c z m = lkW c z 0 := by
  have hn : ¬ nI z < 0 := nI_pos (by omega)
  unfold lkW at h ⊢
  rw [if_neg hn] at h ⊢
  split
  · rfl
  · rename_i h1
    rw [if_neg h1] at h
    split
    · rename_i h2; rw [if_pos h2] at h; exact absurd rfl h
    · rfl
theorem m_noTold_0 {d : Nat} {hi : Nat → Nat → Int32} {hl : Nat → Nat → Int64} {X : lm_X} {hi0 : Nat → Nat → Int32} {hl0 : Nat → Nat → Int64} {X0 : lm_X} {n ts : Nat} {T : lm_T} {R : Nat → Int32} {KO : ab_K} {V : ab_V} {tl F : Nat → Int32} (P : mP hi0 hl0 X0 hi hl X T n R KO V ts tl F) {j m : Nat} (hj : j < 8) (hm : m ≤ 20) (hz : (V j).2.1 ≤ 40) (h0 : lkW (V j).1 (V j).2.1 (nI m) = 0) : lm_c (d + 2) 193 [.ref 123, .int (nI j), .int (nI m)] (hi, hl, X) (some (.int 0), (hi, hl, X)) := by
  obtain ⟨SR, O, H, HR, HV, HT, HF, HK, E0, EL0, EX0⟩ := id P
  have S := SR.1
  have h1 : lkW (V j).1 (V j).2.1 0 = 0 := lkW_0.mpr ⟨(lkW_0.mp h0).1, nI_pos (by omega)⟩
  refine lm_c_of (lm_w_in (Nat.le_of_ble_eq_true rfl) ?_)
  show lm_wp (d + 2) 193 0 [.ref 123, .int (nI j), .int (nI m), lm_jk] [] (hi, hl, X) _
  refine w_N 4 6 [.ref 123, .int (nI j), .int (nI m), lm_jk] [.long 7, .long 0, .long ((nI j).toInt64)] rfl ?_
  refine w_cc rfl (lm_c_1 (m_in (x := nI j) (lo := 0) (up := 7) rfl (by decide) (by decide)) (wi_t (n := 7) (Nat.le_of_lt_succ hj) (by decide))) ?_
  show lm_wp _ 193 9 [.ref 123, .int (nI j), .int (nI m), lm_jk] [.int 1] (hi, hl, X) _
  refine w_if_eq_f (t := 24) rfl rfl (by decide) ?_
  refine w_N 4 18 [.ref 123, .int (nI j), .int (nI m), lm_jk] [.long 20, .long 0, .long ((nI m).toInt64)] rfl ?_
  refine w_cc rfl (lm_c_1 (m_in (x := nI m) (lo := 0) (up := 20) rfl (by decide) (by decide)) (wi_t (n := 20) hm (by decide))) ?_
  show lm_wp _ 193 21 [.ref 123, .int (nI j), .int (nI m), lm_jk] [.int 1] (hi, hl, X) _
  refine w_if_ne_t (t := 31) rfl rfl (by decide) ?_
  refine w_N 2 33 [.ref 123, .int (nI j), .int (nI m), lm_jk] [.int (nI j), .ref 123] rfl ?_
  refine w_cc (w_vst rfl rfl rfl (Nat.le_of_ble_eq_true rfl) (Nat.le_of_ble_eq_true rfl) (M_kd S)) (m_noRow_0 P hj h1) ?_
  show lm_wp _ 193 36 [.ref 123, .int (nI j), .int (nI m), lm_jk] [.int 0] (hi, hl, X) _
  refine w_N 2 38 [.ref 123, .int (nI j), .int (nI m), .int 0] [.int 0] rfl ?_
  refine w_if_eq_t (t := 43) rfl rfl (by decide) ?_
  refine w_N 1 44 [.ref 123, .int (nI j), .int (nI m), .int 0] [.ref 123] rfl ?_
  refine w_gr 126 rfl rfl rfl (M_kd S) (M_r S (k := 2) (o := 3) rfl) ?_
  refine w_N 1 48 [.ref 123, .int (nI j), .int (nI m), .int 0] [.int (nI j), .ref 126] rfl ?_
  refine w_ia j (v := nI (V j).2.1) rfl (show X.2.1 (126) = 1 from M_k S 3 (by decide)) (show X.2.2.1 (126) = 8 from M_l S 3 (by decide)) rfl hj (by decide) ((HV j hj).2.2.1) ?_
  refine w_N 1 50 [.ref 123, .int (nI j), .int (nI m), .int 0] [.int (nI m), .int (nI (V j).2.1)] rfl ?_
  refine w_icmp_ge_t (t := 62) rfl rfl (lkW_0.mp h0).2 ?_
  refine w_N 1 63 [.ref 123, .int (nI j), .int (nI m), .int 0] [.int 0] rfl ?_
  refine w_ri rfl rfl ?_
  rfl
theorem m_noTold_1a {d : Nat} {hi : Nat → Nat → Int32} {hl : Nat → Nat → Int64} {X : lm_X} {hi0 : Nat → Nat → Int32} {hl0 : Nat → Nat → Int64} {X0 : lm_X} {n ts : Nat} {T : lm_T} {R : Nat → Int32} {KO : ab_K} {V : ab_V} {tl F : Nat → Int32} (P : mP hi0 hl0 X0 hi hl X T n R KO V ts tl F) {j m : Nat} (hj : j < 8) (hm : m ≤ 20) (hz : (V j).2.1 ≤ 40) (h0 : ¬ lkW (V j).1 (V j).2.1 0 = 0) : lm_w (d + 2) 193 [.ref 123, .int (nI j), .int (nI m)] (hi, hl, X) (fun r h1 => r = some (.int (lkW (V j).1 (V j).2.1 (nI m))) ∧ ∃ hi', h1 = (hi', hl, X) ∧ mP hi0 hl0 X0 hi' hl X T n R KO V ts tl (rfU F (lkW (V j).1 (V j).2.1 (nI m)))) := by
  obtain ⟨SR, O, H, HR, HV, HT, HF, HK, E0, EL0, EX0⟩ := id P
  have S := SR.1
  rw [lkW_m (m := nI m) h0 hz]
  refine lm_w_in (Nat.le_of_ble_eq_true rfl) ?_
  show lm_wp (d + 2) 193 0 [.ref 123, .int (nI j), .int (nI m), lm_jk] [] (hi, hl, X) _
  refine w_N 4 6 [.ref 123, .int (nI j), .int (nI m), lm_jk] [.long 7, .long 0, .long ((nI j).toInt64)] rfl ?_
  refine w_cc rfl (lm_c_1 (m_in (x := nI j) (lo := 0) (up := 7) rfl (by decide) (by decide)) (wi_t (n := 7) (Nat.le_of_lt_succ hj) (by decide))) ?_
  show lm_wp _ 193 9 [.ref 123, .int (nI j), .int (nI m), lm_jk] [.int 1] (hi, hl, X) _
  refine w_if_eq_f (t := 24) rfl rfl (by decide) ?_
  refine w_N 4 18 [.ref 123, .int (nI j), .int (nI m), lm_jk] [.long 20, .long 0, .long ((nI m).toInt64)] rfl ?_
  refine w_cc rfl (lm_c_1 (m_in (x := nI m) (lo := 0) (up := 20) rfl (by decide) (by decide)) (wi_t (n := 20) hm (by decide))) ?_
  show lm_wp _ 193 21 [.ref 123, .int (nI j), .int (nI m), lm_jk] [.int 1] (hi, hl, X) _
  refine w_if_ne_t (t := 31) rfl rfl (by decide) ?_
  refine w_N 2 33 [.ref 123, .int (nI j), .int (nI m), lm_jk] [.int (nI j), .ref 123] rfl ?_
  refine w_ca (w_vst rfl rfl rfl (Nat.le_of_ble_eq_true rfl) (Nat.le_of_ble_eq_true rfl) (M_kd S)) (m_noRow_1 P hj hz h0) ?_
  rintro _ _ ⟨rfl, hi9, rfl, P9⟩
  show lm_wp _ 193 36 [.ref 123, .int (nI j), .int (nI m), lm_jk] [.int (lkW (V j).1 (V j).2.1 0)] (hi9, hl, X) _
  refine w_N 2 38 [.ref 123, .int (nI j), .int (nI m), .int (lkW (V j).1 (V j).2.1 0)] [.int (lkW (V j).1 (V j).2.1 0)] rfl ?_
  refine w_if_eq_f (t := 43) rfl rfl h0 ?_
  refine w_N 1 42 [.ref 123, .int (nI j), .int (nI m), .int (lkW (V j).1 (V j).2.1 0)] [.int (lkW (V j).1 (V j).2.1 0)] rfl ?_
  refine w_ri rfl rfl ?_
  exact ⟨rfl, hi9, rfl, P9⟩
theorem m_noTold_1b {d : Nat} {hi : Nat → Nat → Int32} {hl : Nat → Nat → Int64} {X : lm_X} {hi0 : Nat → Nat → Int32} {hl0 : Nat → Nat → Int64} {X0 : lm_X} {n ts : Nat} {T : lm_T} {R : Nat → Int32} {KO : ab_K} {V : ab_V} {tl F : Nat → Int32} (P : mP hi0 hl0 X0 hi hl X T n R KO V ts tl F) {j m : Nat} (hj : j < 8) (hm : m ≤ 20) (hz : (V j).2.1 ≤ 40) (h1 : lkW (V j).1 (V j).2.1 0 = 0) (h2 : nI (V j).2.1 < nI m) (h0 : lkW (V j).1 (V j).2.1 (nI m) = -2) : lm_w (d + 2) 193 [.ref 123, .int (nI j), .int (nI m)] (hi, hl, X) (fun r h1 => r = some (.int (lkW (V j).1 (V j).2.1 (nI m))) ∧ ∃ hi', h1 = (hi', hl, X) ∧ mP hi0 hl0 X0 hi' hl X T n R KO V ts tl (rfU F (lkW (V j).1 (V j).2.1 (nI m)))) := by
  obtain ⟨SR, O, H, HR, HV, HT, HF, HK, E0, EL0, EX0⟩ := id P
  have S := SR.1
  rw [h0]
  refine lm_w_in (Nat.le_of_ble_eq_true rfl) ?_
  show lm_wp (d + 2) 193 0 [.ref 123, .int (nI j), .int (nI m), lm_jk] [] (hi, hl, X) _
  refine w_N 4 6 [.ref 123, .int (nI j), .int (nI m), lm_jk] [.long 7, .long 0, .long ((nI j).toInt64)] rfl ?_
  refine w_cc rfl (lm_c_1 (m_in (x := nI j) (lo := 0) (up := 7) rfl (by decide) (by decide)) (wi_t (n := 7) (Nat.le_of_lt_succ hj) (by decide))) ?_
  show lm_wp _ 193 9 [.ref 123, .int (nI j), .int (nI m), lm_jk] [.int 1] (hi, hl, X) _
  refine w_if_eq_f (t := 24) rfl rfl (by decide) ?_
  refine w_N 4 18 [.ref 123, .int (nI j), .int (nI m), lm_jk] [.long 20, .long 0, .long ((nI m).toInt64)] rfl ?_
  refine w_cc rfl (lm_c_1 (m_in (x := nI m) (lo := 0) (up := 20) rfl (by decide) (by decide)) (wi_t (n := 20) hm (by decide))) ?_
  show lm_wp _ 193 21 [.ref 123, .int (nI j), .int (nI m), lm_jk] [.int 1] (hi, hl, X) _
  refine w_if_ne_t (t := 31) rfl rfl (by decide) ?_
  refine w_N 2 33 [.ref 123, .int (nI j), .int (nI m), lm_jk] [.int (nI j), .ref 123] rfl ?_
  refine w_cc (w_vst rfl rfl rfl (Nat.le_of_ble_eq_true rfl) (Nat.le_of_ble_eq_true rfl) (M_kd S)) (m_noRow_0 P hj h1) ?_
  show lm_wp _ 193 36 [.ref 123, .int (nI j), .int (nI m), lm_jk] [.int 0] (hi, hl, X) _
  refine w_N 2 38 [.ref 123, .int (nI j), .int (nI m), .int 0] [.int 0] rfl ?_
  refine w_if_eq_t (t := 43) rfl rfl (by decide) ?_
  refine w_N 1 44 [.ref 123, .int (nI j), .int (nI m), .int 0] [.ref 123] rfl ?_
  refine w_gr 126 rfl rfl rfl (M_kd S) (M_r S (k := 2) (o := 3) rfl) ?_
  refine w_N 1 48 [.ref 123, .int (nI j), .int (nI m), .int 0] [.int (nI j), .ref 126] rfl ?_
  refine w_ia j (v := nI (V j).2.1) rfl (show X.2.1 (126) = 1 from M_k S 3 (by decide)) (show X.2.2.1 (126) = 8 from M_l S 3 (by decide)) rfl hj (by decide) ((HV j hj).2.2.1) ?_
  refine w_N 1 50 [.ref 123, .int (nI j), .int (nI m), .int 0] [.int (nI m), .int (nI (V j).2.1)] rfl ?_
  refine w_icmp_ge_f (t := 62) rfl rfl h2 ?_
  refine w_N 2 56 [.ref 123, .int (nI j), .int (nI m), .int 0] [.int (-2), .ref 123] rfl ?_
  refine w_ca (w_vst rfl rfl rfl (Nat.le_of_ble_eq_true rfl) (Nat.le_of_ble_eq_true rfl) (M_kd S)) (m_refuse P (by unfold isW; decide)) ?_
  rintro _ _ ⟨rfl, hi9, rfl, P9⟩
  show lm_wp _ 193 59 [.ref 123, .int (nI j), .int (nI m), .int 0] [.int (-2)] (hi9, hl, X) _
  refine w_N 1 63 [.ref 123, .int (nI j), .int (nI m), .int 0] [.int (-2)] rfl ?_
  refine w_ri rfl rfl ?_
  exact ⟨rfl, hi9, rfl, P9⟩
theorem m_noTold_1 {d : Nat} {hi : Nat → Nat → Int32} {hl : Nat → Nat → Int64} {X : lm_X} {hi0 : Nat → Nat → Int32} {hl0 : Nat → Nat → Int64} {X0 : lm_X} {n ts : Nat} {T : lm_T} {R : Nat → Int32} {KO : ab_K} {V : ab_V} {tl F : Nat → Int32} (P : mP hi0 hl0 X0 hi hl X T n R KO V ts tl F) {j m : Nat} (hj : j < 8) (hm : m ≤ 20) (hz : (V j).2.1 ≤ 40) (h0 : ¬ lkW (V j).1 (V j).2.1 (nI m) = 0) : lm_w (d + 2) 193 [.ref 123, .int (nI j), .int (nI m)] (hi, hl, X) (fun r h1 => r = some (.int (lkW (V j).1 (V j).2.1 (nI m))) ∧ ∃ hi', h1 = (hi', hl, X) ∧ mP hi0 hl0 X0 hi' hl X T n R KO V ts tl (rfU F (lkW (V j).1 (V j).2.1 (nI m)))) := by
  by_cases h1 : lkW (V j).1 (V j).2.1 0 = 0
  · have hw := (lkW_0.mp h1).1
    have h2 : nI (V j).2.1 < nI m := Decidable.byContradiction fun z => h0 (lkW_0.mpr ⟨hw, z⟩)
    refine m_noTold_1b P hj hm hz h1 h2 ?_
    rw [lkW_s, shK_w hw, if_neg (by decide), if_neg (by decide), if_pos h2]
  · exact m_noTold_1a P hj hm hz h1
