set_option maxRecDepth 16384
/-! the class: its picture, what changes it, its small methods -/
def frl (lo up : Nat) (hl hl' : Nat → Nat → Int64) : Prop := ∀ a, (a < lo ∨ up ≤ a) → hl' a = hl a
theorem frl_rfl {lo up : Nat} {hl : Nat → Nat → Int64} : frl lo up hl hl := fun _ _ => rfl
theorem frl_trans {lo up : Nat} {h0 h1 h2 : Nat → Nat → Int64} (f : frl lo up h0 h1) (g : frl lo up h1 h2) : frl lo up h0 h2 := fun a ha => (g a ha).trans (f a ha)
def isTx (hi : Nat → Nat → Int32) (X : lm_X) : Prop := ∀ i, i < 22 → X.1 (1 + i) 0 = some (31 + i) ∧ X.2.1 (1 + i) = 40 ∧ X.2.1 (31 + i) = 8 ∧ X.2.2.1 (31 + i) = (lm_so i).2.2.2.length ∧ hi (1 + i) 1 = 0 ∧ ∀ j, j < (lm_so i).2.2.2.length → hi (31 + i) j = (lm_so i).2.2.2.getD j 0
/-- RULE_ABOVE and the texts -/
def olP (hi : Nat → Nat → Int32) (X : lm_X) : Prop := isO hi X ∧ isTx hi X
theorem olP_fr {hi hi' : Nat → Nat → Int32} {X : lm_X} {lo up : Nat} (f : fr lo up hi hi') (hd : 64 ≤ lo) (O : olP hi X) : olP hi' X := by
  obtain ⟨⟨o1, o2, o3⟩, o4⟩ := O
  refine ⟨⟨o1, o2, fun j hj => ?_⟩, fun i hj => ?_⟩
  · rw [f 60 (by omega)]; exact o3 j hj
  · obtain ⟨q1, q2, q3, q4, q5, q6⟩ := o4 i hj
    refine ⟨q1, q2, q3, q4, ?_, fun j hj => ?_⟩
    · rw [f (1 + i) (by omega)]; exact q5
    · rw [f (31 + i) (by omega)]; exact q6 j hj
/-- shelves: what holds() tells, size, a, cells -/
abbrev ab_V : Type := Nat → Int32 × Nat × Nat × (Nat → Int64)
abbrev ab_K : Type := Option (lm_T × Nat × (Nat → Int32))
def okC (c : Int32) : Prop := c = -1 ∨ (∃ k : Nat, k ≤ 4 ∧ c = nI k) ∨ (∃ k : Nat, 1 ≤ k ∧ k ≤ 6 ∧ c = nI (10 + k))
def okV (V : ab_V) : Prop := ∀ j, j < 8 → okC (V j).1 ∧ (V j).2.1 ≤ 40 ∧ (V j).2.2.1 ≤ 99
def cV (hi : Nat → Nat → Int32) (hl : Nat → Nat → Int64) (V : ab_V) : Prop := ∀ j, j < 8 → hi (107 + 2 * j) 1 = (V j).1 ∧ hi (107 + 2 * j) 2 = nI (V j).2.1 ∧ hi (107 + 2 * j) 3 = nI (V j).2.2.1 ∧ ∀ i, i < 40 → hl (107 + 2 * j + 1) i = (V j).2.2.2 i
def cK (hi : Nat → Nat → Int32) (KO : ab_K) : Prop := match KO with
  | none => hi 64 3 = 0
  | some q => hi 64 3 = 1 ∧ isT hi 75 q.1 q.2.1 ∧ isR hi 75 q.2.2
def cP (hi0 : Nat → Nat → Int32) (hl0 : Nat → Nat → Int64) (hi : Nat → Nat → Int32) (hl : Nat → Nat → Int64) (X : lm_X) (C : Nat) (T : lm_T) (n : Nat) (R : Nat → Int32) (KO : ab_K) (V : ab_V) (ts : Nat) (tl F : Nat → Int32) : Prop := sh_A X ∧ olP hi X ∧ isT hi 65 T n ∧ isR hi 65 R ∧ fok hi T n C ∧ cV hi hl V ∧ (hi 95 1 = nI ts ∧ ∀ i, i < ts → hi 96 i = tl i) ∧ (∀ k, k < 5 → hi 106 k = F k) ∧ cK hi KO ∧ fr 64 123 hi0 hi ∧ frl 64 123 hl0 hl
def cQ (hi0 : Nat → Nat → Int32) (hl0 : Nat → Nat → Int64) (X : lm_X) (C : Nat) (v : Value) (T : lm_T) (n : Nat) (R : Nat → Int32) (KO : ab_K) (V : ab_V) (ts : Nat) (tl F : Nat → Int32) : Option Value → lm_H → Prop := fun r h1 => r = some v ∧ ∃ hi' hl', h1 = (hi', hl', X) ∧ cP hi0 hl0 hi' hl' X C T n R KO V ts tl F
theorem cV_fr {hi hi' : Nat → Nat → Int32} {hl : Nat → Nat → Int64} {V : ab_V} {lo up : Nat} (f : fr lo up hi hi') (hd : 123 ≤ lo ∨ up ≤ 107) (H : cV hi hl V) : cV hi' hl V := fun j hj => by
  rw [f (107 + 2 * j) (by omega)]; exact H j hj
theorem cK_fr {hi hi' : Nat → Nat → Int32} {KO : ab_K} {lo up : Nat} (f : fr lo up hi hi') (hd : (65 ≤ lo ∧ up ≤ 75) ∨ 85 ≤ lo) (H : cK hi KO) : cK hi' KO := by
  cases KO with
  | none => show hi' 64 3 = 0; rw [f 64 (by omega)]; exact H
  | some q => exact ⟨by rw [f 64 (by omega)]; exact H.1, isT_fr f (by omega) H.2.1, isR_fr f (by omega) H.2.2⟩
theorem fok_C {hi : Nat → Nat → Int32} {T : lm_T} {n C C' : Nat} (h : C ≤ C') (h2 : C' < 2147483648) (H : fok hi T n C) : fok hi T n C' := by
  obtain ⟨c, e, q1, q2, q3, q4, q5, q6⟩ := H
  exact ⟨c, e, q1, q2, q3, by omega, h2, q6⟩
section
variable {hi0 hi hi' : Nat → Nat → Int32} {hl0 hl hl' : Nat → Nat → Int64} {X : lm_X} {C n ts : Nat} {T : lm_T} {R : Nat → Int32} {KO : ab_K} {V : ab_V} {tl F : Nat → Int32}
theorem cq_ {C2 : Nat} {v : Value} (P : cP hi0 hl0 hi hl X C T n R KO V ts tl F) (h : C ≤ C2) (h2 : C2 < 2147483648) : cQ hi0 hl0 X C2 v T n R KO V ts tl F (some v) (hi, hl, X) := by
  obtain ⟨S, O, H, HR, FO, HV, HT, HF, HK, E, EL⟩ := P
  exact ⟨rfl, hi, hl, rfl, S, O, H, HR, fok_C h h2 FO, HV, HT, HF, HK, E, EL⟩
theorem cP_town {T' : lm_T} {n' C' : Nat} {R' : Nat → Int32} (P : cP hi0 hl0 hi hl X C T n R KO V ts tl F) (f : fr 65 75 hi hi') (H' : isT hi' 65 T' n') (HR' : isR hi' 65 R') (FO' : fok hi' T' n' C') : cP hi0 hl0 hi' hl X C' T' n' R' KO V ts tl F := by
  obtain ⟨S, O, H, HR, FO, HV, HT, HF, HK, E, EL⟩ := P
  exact ⟨S, olP_fr f (by decide) O, H', HR', FO', cV_fr f (by decide) HV, ⟨by rw [f 95 (by decide)]; exact HT.1, fun i hj => by rw [f 96 (by decide)]; exact HT.2 i hj⟩, fun k hk => by rw [f 106 (by decide)]; exact HF k hk, cK_fr f (by decide) HK, fr_trans E (fr_mono f (by decide)), EL⟩
theorem cP_fore (P : cP hi0 hl0 hi hl X C T n R KO V ts tl F) (f : fr 98 106 hi hi') (FO' : fok hi' T n C) : cP hi0 hl0 hi' hl X C T n R KO V ts tl F := by
  obtain ⟨S, O, H, HR, FO, HV, HT, HF, HK, E, EL⟩ := P
  exact ⟨S, olP_fr f (by decide) O, isT_fr f (by decide) H, isR_fr f (by decide) HR, FO', cV_fr f (by decide) HV, ⟨by rw [f 95 (by decide)]; exact HT.1, fun i hj => by rw [f 96 (by decide)]; exact HT.2 i hj⟩, fun k hk => by rw [f 106 (by decide)]; exact HF k hk, cK_fr f (by decide) HK, fr_trans E (fr_mono f (by decide)), EL⟩
theorem cP_tape {ts' : Nat} {tl' : Nat → Int32} (P : cP hi0 hl0 hi hl X C T n R KO V ts tl F) (f : fr 95 97 hi hi') (HT' : hi' 95 1 = nI ts' ∧ ∀ i, i < ts' → hi' 96 i = tl' i) : cP hi0 hl0 hi' hl X C T n R KO V ts' tl' F := by
  obtain ⟨S, O, H, HR, FO, HV, HT, HF, HK, E, EL⟩ := P
  exact ⟨S, olP_fr f (by decide) O, isT_fr f (by decide) H, isR_fr f (by decide) HR, fok_fr f (by decide) FO, cV_fr f (by decide) HV, HT', fun k hk => by rw [f 106 (by decide)]; exact HF k hk, cK_fr f (by decide) HK, fr_trans E (fr_mono f (by decide)), EL⟩
theorem cP_draft (P : cP hi0 hl0 hi hl X C T n R KO V ts tl F) (f : fr 85 95 hi hi') : cP hi0 hl0 hi' hl X C T n R KO V ts tl F := by
  obtain ⟨S, O, H, HR, FO, HV, HT, HF, HK, E, EL⟩ := P
  exact ⟨S, olP_fr f (by decide) O, isT_fr f (by decide) H, isR_fr f (by decide) HR, fok_fr f (by decide) FO, cV_fr f (by decide) HV, ⟨by rw [f 95 (by decide)]; exact HT.1, fun i hj => by rw [f 96 (by decide)]; exact HT.2 i hj⟩, fun k hk => by rw [f 106 (by decide)]; exact HF k hk, cK_fr f (by decide) HK, fr_trans E (fr_mono f (by decide)), EL⟩
theorem cP_ref {F' : Nat → Int32} (P : cP hi0 hl0 hi hl X C T n R KO V ts tl F) (f : fr 106 107 hi hi') (HF' : ∀ k, k < 5 → hi' 106 k = F' k) : cP hi0 hl0 hi' hl X C T n R KO V ts tl F' := by
  obtain ⟨S, O, H, HR, FO, HV, HT, HF, HK, E, EL⟩ := P
  exact ⟨S, olP_fr f (by decide) O, isT_fr f (by decide) H, isR_fr f (by decide) HR, fok_fr f (by decide) FO, cV_fr f (by decide) HV, ⟨by rw [f 95 (by decide)]; exact HT.1, fun i hj => by rw [f 96 (by decide)]; exact HT.2 i hj⟩, HF', cK_fr f (by decide) HK, fr_trans E (fr_mono f (by decide)), EL⟩
theorem cP_kept {h1 : Nat → Nat → Int32} {q : lm_T × Nat × (Nat → Int32)} (P : cP hi0 hl0 hi hl X C T n R KO V ts tl F) (f : fr 75 85 hi h1) (h7 : isT h1 75 q.1 q.2.1) (h8 : isR h1 75 q.2.2) : cP hi0 hl0 (lm_up h1 64 3 1) hl X C T n R (some q) V ts tl F := by
  obtain ⟨S, O, H, HR, FO, HV, HT, HF, HK, E, EL⟩ := P
  have f2 : fr 64 65 h1 (lm_up h1 64 3 1) := fr_up fr_rfl (by decide)
  exact ⟨S, olP_fr f2 (by decide) (olP_fr f (by decide) O), isT_fr f2 (by decide) (isT_fr f (by decide) H), isR_fr f2 (by decide) (isR_fr f (by decide) HR), fok_fr f2 (by decide) (fok_fr f (by decide) FO), cV_fr f2 (by decide) (cV_fr f (by decide) HV), ⟨by rw [f2 95 (by decide), f 95 (by decide)]; exact HT.1, fun i hj => by rw [f2 96 (by decide), f 96 (by decide)]; exact HT.2 i hj⟩, fun k hk => by rw [f2 106 (by decide), f 106 (by decide)]; exact HF k hk, ⟨lm_up_eq, isT_fr f2 (by decide) h7, isR_fr f2 (by decide) h8⟩, fr_trans (fr_trans E (fr_mono f (by decide))) (fr_mono f2 (by decide)), EL⟩
theorem cP_shelf {j : Nat} {c : Int32} {z a : Nat} {e : Nat → Int64} (hj : j < 8) (P : cP hi0 hl0 hi hl X C T n R KO V ts tl F) (f : ∀ b, b ≠ 107 + 2 * j → hi' b = hi b) (fl : ∀ b, b ≠ 107 + 2 * j + 1 → hl' b = hl b) (h1 : hi' (107 + 2 * j) 1 = c) (h2 : hi' (107 + 2 * j) 2 = nI z) (h3 : hi' (107 + 2 * j) 3 = nI a) (h4 : ∀ i, i < 40 → hl' (107 + 2 * j + 1) i = e i) : cP hi0 hl0 hi' hl' X C T n R KO (lm_u1 V j (c, z, a, e)) ts tl F := by
  obtain ⟨S, O, H, HR, FO, HV, HT, HF, HK, E, EL⟩ := P
  have g : fr 107 123 hi hi' := fun b hb => f b (by omega)
  refine ⟨S, olP_fr g (by decide) O, isT_fr g (by decide) H, isR_fr g (by decide) HR, fok_fr g (by decide) FO, fun k hk => ?_, ⟨by rw [g 95 (by decide)]; exact HT.1, fun i hj => by rw [g 96 (by decide)]; exact HT.2 i hj⟩, fun k hk => by rw [g 106 (by decide)]; exact HF k hk, cK_fr g (by decide) HK, fr_trans E (fr_mono g (by decide)), fun b hb => (fl b (by omega)).trans (EL b hb)⟩
  unfold lm_u1
  by_cases h : k = j
  · subst h; simp only [if_pos]; exact ⟨h1, h2, h3, h4⟩
  · rw [if_neg h, f (107 + 2 * k) (by omega), fl (107 + 2 * k + 1) (by omega)]; exact HV k hk
theorem isR_u {b k : Nat} {v : Int32} (hk : 10 ≤ k ∧ k ≤ 15) (H : isR hi b R) : isR (lm_up hi b k v) b (lm_u1 R k v) := by
  have e : ∀ j, hi b j = R j → lm_up hi b k v b j = lm_u1 R k v j := fun j h => by
    unfold lm_up lm_u1
    by_cases z : j = k
    · simp [z]
    · simp [z, h]
  obtain ⟨r1, r2, r3, r4, r5, r6, r7, r8⟩ := H
  refine ⟨e _ r1, e _ r2, e _ r3, e _ r4, e _ r5, e _ r6, ?_, ?_⟩
  · rw [lm_up_na (by omega), r7]; unfold lm_u1; rw [if_neg (by omega)]
  · rw [lm_up_na (by omega), r8]; unfold lm_u1; rw [if_neg (by omega)]
theorem cP_R {k : Nat} {v : Int32} (hk : 10 ≤ k ∧ k ≤ 15) (P : cP hi0 hl0 hi hl X C T n R KO V ts tl F) : cP hi0 hl0 (lm_up hi 65 k v) hl X C T n (lm_u1 R k v) KO V ts tl F := by
  have f : fr 65 75 hi (lm_up hi 65 k v) := fr_up fr_rfl (by decide)
  exact cP_town P f (isT_f (by omega) P.2.2.1) (isR_u hk P.2.2.2.1) (fok_same f (lm_up_nk (by omega)) P.2.2.2.2.1)
end
/-- refusals: how often each kind was told -/
def rfU (F : Nat → Int32) (w : Int32) : Nat → Int32 := lm_u1 F (-2 - w).toNatClampNeg (F (-2 - w).toNatClampNeg + 1)
def isW (w : Int32) : Prop := w = -2 ∨ w = -3 ∨ w = -4 ∨ w = -5 ∨ w = -6
def shK (c : Int32) : Int32 := if wi c 0 4 = true then 1 else if 10 < c then 2 else 0
def lkR (c e : Int32) : Int32 := if wi c 0 4 = true then -3 else if wi e 0 4 = true then -3 else if 10 < c then (if 10 < e then 0 else -4) else -4
def lkW (c : Int32) (z : Nat) (m : Int32) : Int32 := if 10 < c then -3 else if wi c 0 4 = true then (if nI z < m then -2 else 0) else -4
def hsC (i : Int32) (z : Nat) : Bool := !decide (i < 0) && decide (i < nI z)
def hsM (i m : Int32) (z : Nat) : Bool := !decide (i < 0) && !decide (m < 0) && !decide (nI z - i < m)
def fitV (c : Int32) (v : Int64) : Int64 := if c = 0 then v.toInt32.toInt8.toInt32.toInt64 else if c = 1 then v.toInt32.toInt16.toInt32.toInt64 else if c = 2 then v.toInt32.toInt64 else if c = 4 then (if v = 0 then 0 else 1) else v
def aon (x : Int32) (n : Nat) : Bool := decide (x = -1) || wi x 0 (nI n - 1)
theorem lkR_W {c e : Int32} (h : ¬ lkR c e = 0) : isW (lkR c e) := by
  unfold lkR isW at *
  split at h <;> rename_i h1
  · rw [if_pos h1]; decide
  · rw [if_neg h1]
    split at h <;> rename_i h2
    · rw [if_pos h2]; decide
    · rw [if_neg h2]
      split at h <;> rename_i h3
      · rw [if_pos h3]
        split at h <;> rename_i h4
        · exact absurd rfl h
        · rw [if_neg h4]; decide
      · rw [if_neg h3]; decide
theorem lkW_W {c m : Int32} {z : Nat} (h : ¬ lkW c z m = 0) : isW (lkW c z m) := by
  unfold lkW isW at *
  split at h <;> rename_i h1
  · rw [if_pos h1]; decide
  · rw [if_neg h1]
    split at h <;> rename_i h2
    · rw [if_pos h2]
      split at h <;> rename_i h3
      · rw [if_pos h3]; decide
      · exact absurd rfl h
    · rw [if_neg h2]; decide
/-- an answer by another name -/
theorem lm_c_v {d g : Nat} {as : List Value} {h h1 : lm_H} {x y : Int32} (hc : lm_c d g as h (some (.int x), h1)) (e : x = y) : lm_c d g as h (some (.int y), h1) := e ▸ hc
theorem wi_t {j n : Nat} (hj : j ≤ n) (hn : n < 2147483648) : wi (nI j) 0 (nI n) = true := by
  have h1 : ¬ nI j < 0 := nI_pos (by omega)
  have h2 : ¬ nI n < nI j := by rw [nI_lt_iff (by omega) (by omega)]; omega
  simp [wi, h1, h2]
theorem wi_t1 {j n : Nat} (h1 : 1 ≤ j) (hj : j ≤ n) (hn : n < 2147483648) : wi (nI j) 1 (nI n) = true := by
  have h1 : ¬ nI j < nI 1 := by rw [nI_lt_iff (by omega) (by omega)]; omega
  have h2 : ¬ nI n < nI j := by rw [nI_lt_iff (by omega) (by omega)]; omega
  have e : (1 : Int32) = nI 1 := rfl
  rw [e]
  simp [wi, h1, h2]
theorem wi_e {x : Int32} {n : Nat} (h : wi x 0 (nI n) = true) (hn : n < 2147483648) : ∃ j, x = nI j ∧ j ≤ n := by
  simp [wi] at h
  exact nI_mk (fun z => absurd z (Int32.not_lt.mpr h.1)) (fun z => absurd z (Int32.not_lt.mpr h.2)) hn
theorem wi_e1 {x : Int32} {n : Nat} (h : wi x 1 (nI n) = true) (hn : n < 2147483648) : ∃ j, x = nI j ∧ 1 ≤ j ∧ j ≤ n := by
  simp [wi] at h
  have h0 : ¬ x < 0 := fun z => by
    have q1 := Int32.le_iff_toInt_le.mp h.1
    have q2 := Int32.lt_iff_toInt_lt.mp z
    have e1 : (1 : Int32).toInt = 1 := rfl
    have e0 : (0 : Int32).toInt = 0 := rfl
    omega
  obtain ⟨j, rfl, hj⟩ := nI_mk h0 (fun z => absurd z (Int32.not_lt.mpr h.2)) hn
  refine ⟨j, rfl, ?_, hj⟩
  have q1 := Int32.le_iff_toInt_le.mp h.1
  have e1 : (1 : Int32).toInt = 1 := rfl
  rw [nI_ti (by omega), e1] at q1
  omega
/-- within 0 .. n - 1 -/
theorem wi_p {x : Int32} {n : Nat} (hn : n < 2147483648) : wi x 0 (nI n - 1) = true ↔ ∃ j, x = nI j ∧ j < n := by
  cases n with
  | zero =>
    constructor
    · intro h
      simp [wi] at h
      have q1 := Int32.le_iff_toInt_le.mp h.1
      have q2 := Int32.le_iff_toInt_le.mp h.2
      have e1 : (nI 0 - 1 : Int32).toInt = -1 := rfl
      have e0 : (0 : Int32).toInt = 0 := rfl
      omega
    · rintro ⟨j, -, h⟩; omega
  | succ n =>
    rw [nI_prd]
    constructor
    · intro h
      obtain ⟨j, rfl, h⟩ := wi_e h (by omega)
      exact ⟨j, rfl, by omega⟩
    · rintro ⟨j, rfl, h⟩
      exact wi_t (by omega) (by omega)
theorem hsC_wi {i : Int32} {z : Nat} (hz : z ≤ 40) : wi i 0 (nI z - 1) = hsC i z := by
  have q := wi_p (x := i) (n := z) (by omega)
  have r : hsC i z = true ↔ ∃ j, i = nI j ∧ j < z := by
    simp [hsC]
    constructor
    · rintro ⟨h1, h2⟩
      obtain ⟨e, h⟩ := nI_nat (x := i) (fun w => absurd w (Int32.not_lt.mpr h1))
      rw [e] at h2 ⊢
      rw [nI_lt_iff h (by omega)] at h2
      exact ⟨_, rfl, h2⟩
    · rintro ⟨j, rfl, h⟩
      exact ⟨Int32.not_lt.mp (nI_pos (by omega)), nI_lt h (by omega)⟩
  cases h1 : wi i 0 (nI z - 1) <;> cases h2 : hsC i z
  · rfl
  · exact absurd (q.mpr (r.mp h2)) (by rw [h1]; decide)
  · exact absurd (r.mpr (q.mp h1)) (by rw [h2]; decide)
  · rfl
theorem okC_row {c : Int32} (h : okC c) : wi c 0 4 = true ↔ ∃ k : Nat, k ≤ 4 ∧ c = nI k := by
  constructor
  · intro w
    obtain ⟨j, rfl, hj⟩ := wi_e (n := 4) w (by decide)
    exact ⟨j, hj, rfl⟩
  · rintro ⟨k, hk, rfl⟩; exact wi_t (n := 4) hk (by decide)
theorem okC_rule {c : Int32} (h : okC c) : 10 < c ↔ ∃ k : Nat, 1 ≤ k ∧ k ≤ 6 ∧ c = nI (10 + k) := by
  constructor
  · intro w
    rcases h with rfl | ⟨k, hk, rfl⟩ | h
    · exact absurd w (by decide)
    · have := (nI_lt_iff (a := 10) (b := k) (by decide) (by omega)).mp w; omega
    · exact h
  · rintro ⟨k, h1, h6, rfl⟩; exact nI_lt (a := 10) (by omega) (by omega)
theorem x_within {d : Nat} {hi : Nat → Nat → Int32} {hl : Nat → Nat → Int64} {X : lm_X} {x lo up : Int32} : lm_c d 74 [.int x, .int lo, .int up] (hi, hl, X) (some (.int (bz (wi x lo up))), (hi, hl, X)) := by
  refine lm_c_of (lm_w_in (Nat.le_of_ble_eq_true rfl) ?_)
  show lm_wp d 74 0 [.int x, .int lo, .int up] [] (hi, hl, X) _
  refine w_N 2 2 [.int x, .int lo, .int up] [.int x, .int lo] rfl ?_
  refine w_icmp_gt (t := 14) rfl rfl (fun c1 => ?_) (fun c1 => ?_)
  · refine w_N 1 15 [.int x, .int lo, .int up] [.int 0] rfl ?_
    refine w_rz rfl rfl (by decide) ?_
    show (some (Value.int 0), _) = _
    simp [wi, bz, c1]
  · refine w_N 2 7 [.int x, .int lo, .int up] [.int up, .int x] rfl ?_
    refine w_icmp_gt (t := 14) rfl rfl (fun c2 => ?_) (fun c2 => ?_)
    · refine w_N 1 15 [.int x, .int lo, .int up] [.int 0] rfl ?_
      refine w_rz rfl rfl (by decide) ?_
      show (some (Value.int 0), _) = _
      simp [wi, bz, c1, c2]
    · refine w_N 2 15 [.int x, .int lo, .int up] [.int 1] rfl ?_
      refine w_rz rfl rfl (by decide) ?_
      show (some (Value.int 1), _) = _
      simp [wi, bz, c1, c2]
theorem x_isShelf {d : Nat} {hi : Nat → Nat → Int32} {hl : Nat → Nat → Int64} {X : lm_X} {x : Int32} : lm_c (d + 1) 75 [.int x] (hi, hl, X) (some (.int (bz (wi x 0 7))), (hi, hl, X)) := by
  refine lm_c_of (lm_w_in (Nat.le_of_ble_eq_true rfl) ?_)
  show lm_wp (d + 1) 75 0 [.int x] [] (hi, hl, X) _
  refine w_N 3 4 [.int x] [.int 7, .int 0, .int x] rfl ?_
  refine w_cc rfl x_within ?_
  show lm_wp _ 75 7 [.int x] [.int (bz (wi x 0 7))] (hi, hl, X) _
  refine w_rz rfl rfl (bz_or _) ?_
  rfl
theorem x_isShelf1 {d : Nat} {hi : Nat → Nat → Int32} {hl : Nat → Nat → Int64} {X : lm_X} {x : Int32} (h : wi x 0 7 = true) : lm_c (d + 1) 75 [.int x] (hi, hl, X) (some (.int 1), (hi, hl, X)) := lm_c_v x_isShelf (by rw [h]; rfl)
theorem x_isHalf {d : Nat} {hi : Nat → Nat → Int32} {hl : Nat → Nat → Int64} {X : lm_X} {x : Int32} : lm_c (d + 1) 76 [.int x] (hi, hl, X) (some (.int (bz (wi x 0 1))), (hi, hl, X)) := by
  refine lm_c_of (lm_w_in (Nat.le_of_ble_eq_true rfl) ?_)
  show lm_wp (d + 1) 76 0 [.int x] [] (hi, hl, X) _
  refine w_N 3 3 [.int x] [.int 1, .int 0, .int x] rfl ?_
  refine w_cc rfl x_within ?_
  show lm_wp _ 76 6 [.int x] [.int (bz (wi x 0 1))] (hi, hl, X) _
  refine w_rz rfl rfl (bz_or _) ?_
  rfl
theorem x_isHalf1 {d : Nat} {hi : Nat → Nat → Int32} {hl : Nat → Nat → Int64} {X : lm_X} {x : Int32} (h : wi x 0 1 = true) : lm_c (d + 1) 76 [.int x] (hi, hl, X) (some (.int 1), (hi, hl, X)) := lm_c_v x_isHalf (by rw [h]; rfl)
theorem x_isAhead {d : Nat} {hi : Nat → Nat → Int32} {hl : Nat → Nat → Int64} {X : lm_X} {x : Int32} : lm_c (d + 1) 77 [.int x] (hi, hl, X) (some (.int (bz (wi x 1 4))), (hi, hl, X)) := by
  refine lm_c_of (lm_w_in (Nat.le_of_ble_eq_true rfl) ?_)
  show lm_wp (d + 1) 77 0 [.int x] [] (hi, hl, X) _
  refine w_N 3 3 [.int x] [.int 4, .int 1, .int x] rfl ?_
  refine w_cc rfl x_within ?_
  show lm_wp _ 77 6 [.int x] [.int (bz (wi x 1 4))] (hi, hl, X) _
  refine w_rz rfl rfl (bz_or _) ?_
  rfl
theorem x_isAhead1 {d : Nat} {hi : Nat → Nat → Int32} {hl : Nat → Nat → Int64} {X : lm_X} {x : Int32} (h : wi x 1 4 = true) : lm_c (d + 1) 77 [.int x] (hi, hl, X) (some (.int 1), (hi, hl, X)) := lm_c_v x_isAhead (by rw [h]; rfl)
theorem x_within1 {d : Nat} {hi : Nat → Nat → Int32} {hl : Nat → Nat → Int64} {X : lm_X} {x lo up : Int32} (h : wi x lo up = true) : lm_c d 74 [.int x, .int lo, .int up] (hi, hl, X) (some (.int 1), (hi, hl, X)) := lm_c_v x_within (by rw [h]; rfl)
theorem x_isAct {d : Nat} {hi : Nat → Nat → Int32} {hl : Nat → Nat → Int64} {X : lm_X} {x : Int32} {n : Nat} {T : lm_T} (S : sh_A X) (H : isT hi 65 T n) : lm_c (d + 1) 78 [.ref 64, .int x] (hi, hl, X) (some (.int (bz (wi x 0 (nI n - 1)))), (hi, hl, X)) := by
  refine lm_c_of (lm_w_in (Nat.le_of_ble_eq_true rfl) ?_)
  show lm_wp (d + 1) 78 0 [.ref 64, .int x] [] (hi, hl, X) _
  refine w_N 3 3 [.ref 64, .int x] [.ref 64, .int 0, .int x] rfl ?_
  refine w_gr 65 rfl rfl rfl (A_k S 64 (by decide)) (A_r S 64 0 (by decide)) ?_
  refine w_gi (v := nI n) rfl rfl rfl (T_kd (A_T65 S)) (isTn H) ?_
  refine w_N 2 11 [.ref 64, .int x] [.int ((nI n) - 1), .int 0, .int x] rfl ?_
  refine w_cc rfl x_within ?_
  show lm_wp _ 78 14 [.ref 64, .int x] [.int (bz (wi x 0 ((nI n) - 1)))] (hi, hl, X) _
  refine w_rz rfl rfl (bz_or _) ?_
  rfl
theorem x_isAct1 {d : Nat} {hi : Nat → Nat → Int32} {hl : Nat → Nat → Int64} {X : lm_X} {x : Int32} {n : Nat} {T : lm_T} (S : sh_A X) (H : isT hi 65 T n) (h : wi x 0 (nI n - 1) = true) : lm_c (d + 1) 78 [.ref 64, .int x] (hi, hl, X) (some (.int 1), (hi, hl, X)) := lm_c_v (x_isAct S H) (by rw [h]; rfl)
theorem x_isActOrNone {d : Nat} {hi : Nat → Nat → Int32} {hl : Nat → Nat → Int64} {X : lm_X} {x : Int32} {n : Nat} {T : lm_T} (S : sh_A X) (H : isT hi 65 T n) : lm_c (d + 2) 79 [.ref 64, .int x] (hi, hl, X) (some (.int (bz (aon x n))), (hi, hl, X)) := by
  refine lm_c_of (lm_w_in (Nat.le_of_ble_eq_true rfl) ?_)
  show lm_wp (d + 2) 79 0 [.ref 64, .int x] [] (hi, hl, X) _
  refine w_N 2 2 [.ref 64, .int x] [.int (-1), .int x] rfl ?_
  refine w_icmp_eq (t := 13) rfl rfl (fun c1 => ?_) (fun c1 => ?_)
  · refine w_N 2 18 [.ref 64, .int x] [.int 1] rfl ?_
    refine w_rz rfl rfl (by decide) ?_
    show (some (Value.int 1), _) = _
    simp [aon, bz, c1]
  · refine w_N 2 7 [.ref 64, .int x] [.int x, .ref 64] rfl ?_
    refine w_cc (w_vst rfl rfl rfl (Nat.le_of_ble_eq_true rfl) (Nat.le_of_ble_eq_true rfl) (A_k S 64 (by decide))) (x_isAct S H) ?_
    show lm_wp _ 79 10 [.ref 64, .int x] [.int (bz (wi x 0 (nI n - 1)))] (hi, hl, X) _
    refine w_zeq (t := 17) rfl rfl (fun c2 => ?_) (fun c2 => ?_)
    · refine w_N 1 18 [.ref 64, .int x] [.int 0] rfl ?_
      refine w_rz rfl rfl (by decide) ?_
      show (some (Value.int 0), _) = _
      simp [aon, bz, c1, c2]
    · refine w_N 2 18 [.ref 64, .int x] [.int 1] rfl ?_
      refine w_rz rfl rfl (by decide) ?_
      show (some (Value.int 1), _) = _
      simp [aon, bz, c1, c2]
theorem s_isRow {d : Nat} {hi : Nat → Nat → Int32} {hl : Nat → Nat → Int64} {X : lm_X} {q : Nat} {c : Int32} (Q : sh_Sf X q) (q1 : hi q 1 = c) : lm_c d 20 [.ref q] (hi, hl, X) (some (.int (bz (wi c 0 4))), (hi, hl, X)) := by
  refine lm_c_of (lm_w_in (Nat.le_of_ble_eq_true rfl) ?_)
  show lm_wp d 20 0 [.ref q] [] (hi, hl, X) _
  refine w_N 1 1 [.ref q] [.ref q] rfl ?_
  refine w_gi (v := c) rfl rfl rfl (Sf_kd Q) (q1) ?_
  refine w_if_lt (t := 19) rfl rfl (fun c1 => ?_) (fun c1 => ?_)
  · refine w_N 1 20 [.ref q] [.int 0] rfl ?_
    refine w_rz rfl rfl (by decide) ?_
    show (some (Value.int 0), _) = _
    simp [wi, bz, c1]
  · refine w_N 1 8 [.ref q] [.ref q] rfl ?_
    refine w_gi (v := c) rfl rfl rfl (Sf_kd Q) (q1) ?_
    refine w_N 1 12 [.ref q] [.int 4, .int c] rfl ?_
    refine w_icmp_gt (t := 19) rfl rfl (fun c2 => ?_) (fun c2 => ?_)
    · refine w_N 1 20 [.ref q] [.int 0] rfl ?_
      refine w_rz rfl rfl (by decide) ?_
      show (some (Value.int 0), _) = _
      simp [wi, bz, c1, c2]
    · refine w_N 2 20 [.ref q] [.int 1] rfl ?_
      refine w_rz rfl rfl (by decide) ?_
      show (some (Value.int 1), _) = _
      simp [wi, bz, c1, c2]
theorem s_isRule {d : Nat} {hi : Nat → Nat → Int32} {hl : Nat → Nat → Int64} {X : lm_X} {q : Nat} {c : Int32} (Q : sh_Sf X q) (q1 : hi q 1 = c) : lm_c d 21 [.ref q] (hi, hl, X) (some (.int (bz (decide (10 < c)))), (hi, hl, X)) := by
  refine lm_c_of (lm_w_in (Nat.le_of_ble_eq_true rfl) ?_)
  show lm_wp d 21 0 [.ref q] [] (hi, hl, X) _
  refine w_N 1 1 [.ref q] [.ref q] rfl ?_
  refine w_gi (v := c) rfl rfl rfl (Sf_kd Q) (q1) ?_
  refine w_N 1 6 [.ref q] [.int 10, .int c] rfl ?_
  refine w_icmp_le (t := 13) rfl rfl (fun c1 => ?_) (fun c1 => ?_)
  · refine w_N 1 14 [.ref q] [.int 0] rfl ?_
    refine w_rz rfl rfl (by decide) ?_
    show (some (Value.int 0), _) = _
    simp [bz, c1]
  · refine w_N 2 14 [.ref q] [.int 1] rfl ?_
    refine w_rz rfl rfl (by decide) ?_
    show (some (Value.int 1), _) = _
    simp [bz, c1]
theorem s_hasCell {d : Nat} {hi : Nat → Nat → Int32} {hl : Nat → Nat → Int64} {X : lm_X} {q z : Nat} {i : Int32} (Q : sh_Sf X q) (q2 : hi q 2 = nI z) : lm_c d 25 [.ref q, .int i] (hi, hl, X) (some (.int (bz (hsC i z))), (hi, hl, X)) := by
  refine lm_c_of (lm_w_in (Nat.le_of_ble_eq_true rfl) ?_)
  show lm_wp d 25 0 [.ref q, .int i] [] (hi, hl, X) _
  refine w_N 1 1 [.ref q, .int i] [.int i] rfl ?_
  refine w_if_lt (t := 16) rfl rfl (fun c1 => ?_) (fun c1 => ?_)
  · refine w_N 1 17 [.ref q, .int i] [.int 0] rfl ?_
    refine w_rz rfl rfl (by decide) ?_
    show (some (Value.int 0), _) = _
    simp [hsC, bz, c1]
  · refine w_N 2 6 [.ref q, .int i] [.ref q, .int i] rfl ?_
    refine w_gi (v := nI z) rfl rfl rfl (Sf_kd Q) (q2) ?_
    refine w_icmp_ge (t := 16) rfl rfl (fun c2 => ?_) (fun c2 => ?_)
    · refine w_N 1 17 [.ref q, .int i] [.int 0] rfl ?_
      refine w_rz rfl rfl (by decide) ?_
      show (some (Value.int 0), _) = _
      simp [hsC, bz, c1, c2]
    · refine w_N 2 17 [.ref q, .int i] [.int 1] rfl ?_
      refine w_rz rfl rfl (by decide) ?_
      show (some (Value.int 1), _) = _
      simp [hsC, bz, c1, c2]
theorem s_hasCells {d : Nat} {hi : Nat → Nat → Int32} {hl : Nat → Nat → Int64} {X : lm_X} {q z : Nat} {i m : Int32} (Q : sh_Sf X q) (q2 : hi q 2 = nI z) : lm_c d 26 [.ref q, .int i, .int m] (hi, hl, X) (some (.int (bz (hsM i m z))), (hi, hl, X)) := by
  refine lm_c_of (lm_w_in (Nat.le_of_ble_eq_true rfl) ?_)
  show lm_wp d 26 0 [.ref q, .int i, .int m] [] (hi, hl, X) _
  refine w_N 1 1 [.ref q, .int i, .int m] [.int i] rfl ?_
  refine w_if_lt (t := 22) rfl rfl (fun c1 => ?_) (fun c1 => ?_)
  · refine w_N 1 23 [.ref q, .int i, .int m] [.int 0] rfl ?_
    refine w_rz rfl rfl (by decide) ?_
    show (some (Value.int 0), _) = _
    simp [hsM, bz, c1]
  · refine w_N 1 5 [.ref q, .int i, .int m] [.int m] rfl ?_
    refine w_if_lt (t := 22) rfl rfl (fun c2 => ?_) (fun c2 => ?_)
    · refine w_N 1 23 [.ref q, .int i, .int m] [.int 0] rfl ?_
      refine w_rz rfl rfl (by decide) ?_
      show (some (Value.int 0), _) = _
      simp [hsM, bz, c1, c2]
    · refine w_N 2 10 [.ref q, .int i, .int m] [.ref q, .int m] rfl ?_
      refine w_gi (v := nI z) rfl rfl rfl (Sf_kd Q) (q2) ?_
      refine w_N 2 15 [.ref q, .int i, .int m] [.int ((nI z) - i), .int m] rfl ?_
      refine w_icmp_gt (t := 22) rfl rfl (fun c3 => ?_) (fun c3 => ?_)
      · refine w_N 1 23 [.ref q, .int i, .int m] [.int 0] rfl ?_
        refine w_rz rfl rfl (by decide) ?_
        show (some (Value.int 0), _) = _
        simp [hsM, bz, c1, c2, c3]
      · refine w_N 2 23 [.ref q, .int i, .int m] [.int 1] rfl ?_
        refine w_rz rfl rfl (by decide) ?_
        show (some (Value.int 1), _) = _
        simp [hsM, bz, c1, c2, c3]
theorem s_takeRow {d : Nat} {hi : Nat → Nat → Int32} {hl : Nat → Nat → Int64} {X : lm_X} {q : Nat} {x y : Int32} (Q : sh_Sf X q) : lm_c (d + 1) 23 [.ref q, .int x, .int y] (hi, hl, X) (none, (lm_up (lm_up hi q 1 x) q 2 y, lm_row hl (q + 1) (flr (hl (q + 1)) 40 0), X)) := by
  refine lm_c_of (lm_w_in (Nat.le_of_ble_eq_true rfl) ?_)
  show lm_wp (d + 1) 23 0 [.ref q, .int x, .int y] [] (hi, hl, X) _
  refine w_N 2 2 [.ref q, .int x, .int y] [.int x, .ref q] rfl ?_
  refine w_pi rfl rfl rfl rfl (Sf_kd Q) (Sf_64 Q) ?_
  refine w_N 2 7 [.ref q, .int x, .int y] [.int y, .ref q] rfl ?_
  refine w_pi rfl rfl rfl rfl (Sf_kd Q) (Sf_64 Q) ?_
  refine w_N 1 11 [.ref q, .int x, .int y] [.ref q] rfl ?_
  refine w_gr (q + 1) rfl rfl rfl (Sf_kd Q) (Sf_r0 Q) ?_
  refine w_N 1 15 [.ref q, .int x, .int y] [.long 0, .ref (q + 1)] rfl ?_
  refine w_cc rfl (c_fillL (Sf_k0 Q) (Nat.le_trans (Sf_64 Q) (Nat.le_add_right _ _)) (Sf_l0 Q) (by decide)) ?_
  show lm_wp _ 23 18 [.ref q, .int x, .int y] [] (lm_up (lm_up hi q 1 x) q 2 y, (lm_row hl (q + 1) (flr (hl (q + 1)) 40 0)), X) _
  refine w_rv rfl rfl ?_
  rfl
theorem s_takeRule {d : Nat} {hi : Nat → Nat → Int32} {hl : Nat → Nat → Int64} {X : lm_X} {q : Nat} {x y : Int32} (Q : sh_Sf X q) : lm_c d 24 [.ref q, .int x, .int y] (hi, hl, X) (none, (lm_up (lm_up hi q 1 (10 + x)) q 3 y, hl, X)) := by
  refine lm_c_of (lm_w_in (Nat.le_of_ble_eq_true rfl) ?_)
  show lm_wp d 24 0 [.ref q, .int x, .int y] [] (hi, hl, X) _
  refine w_N 4 5 [.ref q, .int x, .int y] [.int (10 + x), .ref q] rfl ?_
  refine w_pi rfl rfl rfl rfl (Sf_kd Q) (Sf_64 Q) ?_
  refine w_N 2 10 [.ref q, .int x, .int y] [.int y, .ref q] rfl ?_
  refine w_pi rfl rfl rfl rfl (Sf_kd Q) (Sf_64 Q) ?_
  refine w_rv rfl rfl ?_
  rfl
theorem s_put {d : Nat} {hi : Nat → Nat → Int32} {hl : Nat → Nat → Int64} {X : lm_X} {q i : Nat} {c : Int32} {v : Int64} (Q : sh_Sf X q) (q1 : hi q 1 = c) (hj : i < 40) : lm_c d 27 [.ref q, .int (nI i), .long v] (hi, hl, X) (none, (hi, lm_up hl (q + 1) i (fitV c v), X)) := by
  refine lm_c_of (lm_w_in (Nat.le_of_ble_eq_true rfl) ?_)
  show lm_wp d 27 0 [.ref q, .int (nI i), .long v, lm_jk] [] (hi, hl, X) _
  refine w_N 1 1 [.ref q, .int (nI i), .long v, lm_jk] [.ref q] rfl ?_
  refine w_gi (v := c) rfl rfl rfl (Sf_kd Q) (q1) ?_
  refine lm_by (x := c) 0 ?_ ?_
  · intro c1
    refine w_ts (t := 40) rfl (by decide) (by rw [c1]; rfl) ?_
    refine w_N 1 41 [.ref q, .int (nI i), .long v, lm_jk] [.ref q] rfl ?_
    refine w_gr (q + 1) rfl rfl rfl (Sf_kd Q) (Sf_r0 Q) ?_
    refine w_N 5 49 [.ref q, .int (nI i), .long v, lm_jk] [.long v.toInt32.toInt8.toInt32.toInt64, .int (nI i), .ref (q + 1)] rfl ?_
    refine w_ls i rfl (Sf_k0 Q) (Nat.le_trans (Sf_64 Q) (Nat.le_add_right _ _)) (Sf_l0 Q) rfl hj (by decide) ?_
    refine w_N 1 105 [.ref q, .int (nI i), .long v, lm_jk] [] rfl ?_
    refine w_rv rfl rfl ?_
    show (none, (hi, lm_up hl (q + 1) i v.toInt32.toInt8.toInt32.toInt64, X)) = _
    have e : fitV c v = v.toInt32.toInt8.toInt32.toInt64 := by
      unfold fitV
      rw [if_pos c1]
    rw [e]
  intro c1_0
  refine lm_by (x := c) 1 ?_ ?_
  · intro c1
    refine w_ts (t := 53) rfl (by decide) (by rw [c1]; rfl) ?_
    refine w_N 1 54 [.ref q, .int (nI i), .long v, lm_jk] [.ref q] rfl ?_
    refine w_gr (q + 1) rfl rfl rfl (Sf_kd Q) (Sf_r0 Q) ?_
    refine w_N 5 62 [.ref q, .int (nI i), .long v, lm_jk] [.long v.toInt32.toInt16.toInt32.toInt64, .int (nI i), .ref (q + 1)] rfl ?_
    refine w_ls i rfl (Sf_k0 Q) (Nat.le_trans (Sf_64 Q) (Nat.le_add_right _ _)) (Sf_l0 Q) rfl hj (by decide) ?_
    refine w_N 1 105 [.ref q, .int (nI i), .long v, lm_jk] [] rfl ?_
    refine w_rv rfl rfl ?_
    show (none, (hi, lm_up hl (q + 1) i v.toInt32.toInt16.toInt32.toInt64, X)) = _
    have e : fitV c v = v.toInt32.toInt16.toInt32.toInt64 := by
      unfold fitV
      rw [if_neg c1_0]
      rw [if_pos c1]
    rw [e]
  intro c1_1
  refine lm_by (x := c) 2 ?_ ?_
  · intro c1
    refine w_ts (t := 66) rfl (by decide) (by rw [c1]; rfl) ?_
    refine w_N 1 67 [.ref q, .int (nI i), .long v, lm_jk] [.ref q] rfl ?_
    refine w_gr (q + 1) rfl rfl rfl (Sf_kd Q) (Sf_r0 Q) ?_
    refine w_N 4 74 [.ref q, .int (nI i), .long v, lm_jk] [.long v.toInt32.toInt64, .int (nI i), .ref (q + 1)] rfl ?_
    refine w_ls i rfl (Sf_k0 Q) (Nat.le_trans (Sf_64 Q) (Nat.le_add_right _ _)) (Sf_l0 Q) rfl hj (by decide) ?_
    refine w_N 1 105 [.ref q, .int (nI i), .long v, lm_jk] [] rfl ?_
    refine w_rv rfl rfl ?_
    show (none, (hi, lm_up hl (q + 1) i v.toInt32.toInt64, X)) = _
    have e : fitV c v = v.toInt32.toInt64 := by
      unfold fitV
      rw [if_neg c1_0]
      rw [if_neg c1_1]
      rw [if_pos c1]
    rw [e]
  intro c1_2
  refine lm_by (x := c) 3 ?_ ?_
  · intro c1
    refine w_ts (t := 98) rfl (by decide) (by rw [c1]; rfl) ?_
    refine w_N 1 99 [.ref q, .int (nI i), .long v, lm_jk] [.ref q] rfl ?_
    refine w_gr (q + 1) rfl rfl rfl (Sf_kd Q) (Sf_r0 Q) ?_
    refine w_N 2 104 [.ref q, .int (nI i), .long v, lm_jk] [.long v, .int (nI i), .ref (q + 1)] rfl ?_
    refine w_ls i rfl (Sf_k0 Q) (Nat.le_trans (Sf_64 Q) (Nat.le_add_right _ _)) (Sf_l0 Q) rfl hj (by decide) ?_
    refine w_rv rfl rfl ?_
    show (none, (hi, lm_up hl (q + 1) i v, X)) = _
    have e : fitV c v = v := by
      rw [c1]; rfl
    rw [e]
  intro c1_3
  refine lm_by (x := c) 4 ?_ ?_
  · intro c1
    refine w_ts (t := 78) rfl (by decide) (by rw [c1]; rfl) ?_
    refine w_N 1 79 [.ref q, .int (nI i), .long v, lm_jk] [.ref q] rfl ?_
    refine w_gr (q + 1) rfl rfl rfl (Sf_kd Q) (Sf_r0 Q) ?_
    refine w_N 4 86 [.ref q, .int (nI i), .long v, lm_jk] [.int (lg_cmp v 0), .int (nI i), .ref (q + 1)] rfl ?_
    refine w_if_eq (t := 93) rfl rfl (fun c2 => ?_) (fun c2 => ?_)
    · refine w_N 1 94 [.ref q, .int (nI i), .long v, lm_jk] [.long 0, .int (nI i), .ref (q + 1)] rfl ?_
      refine w_ls i rfl (Sf_k0 Q) (Nat.le_trans (Sf_64 Q) (Nat.le_add_right _ _)) (Sf_l0 Q) rfl hj (by decide) ?_
      refine w_N 1 105 [.ref q, .int (nI i), .long v, lm_jk] [] rfl ?_
      refine w_rv rfl rfl ?_
      show (none, (hi, lm_up hl (q + 1) i 0, X)) = _
      have e : fitV c v = 0 := by
        unfold fitV
        rw [if_neg c1_0]
        rw [if_neg c1_1]
        rw [if_neg c1_2]
        rw [if_pos c1]
        rw [if_pos ((lgc_eq _ _).mp c2)]
      rw [e]
    · refine w_N 2 94 [.ref q, .int (nI i), .long v, lm_jk] [.long 1, .int (nI i), .ref (q + 1)] rfl ?_
      refine w_ls i rfl (Sf_k0 Q) (Nat.le_trans (Sf_64 Q) (Nat.le_add_right _ _)) (Sf_l0 Q) rfl hj (by decide) ?_
      refine w_N 1 105 [.ref q, .int (nI i), .long v, lm_jk] [] rfl ?_
      refine w_rv rfl rfl ?_
      show (none, (hi, lm_up hl (q + 1) i 1, X)) = _
      have e : fitV c v = 1 := by
        unfold fitV
        rw [if_neg c1_0]
        rw [if_neg c1_1]
        rw [if_neg c1_2]
        rw [if_pos c1]
        rw [if_neg (fun z => c2 ((lgc_eq _ _).mpr z))]
      rw [e]
  intro c1_4
  refine w_ts (t := 98) rfl (by decide) (congrArg (lm_tg _) (lm_sw_n c1_0 (lm_sw_n c1_1 (lm_sw_n c1_2 (lm_sw_n c1_3 (lm_sw_n c1_4 (lm_sw_0))))))) ?_
  refine w_N 1 99 [.ref q, .int (nI i), .long v, lm_jk] [.ref q] rfl ?_
  refine w_gr (q + 1) rfl rfl rfl (Sf_kd Q) (Sf_r0 Q) ?_
  refine w_N 2 104 [.ref q, .int (nI i), .long v, lm_jk] [.long v, .int (nI i), .ref (q + 1)] rfl ?_
  refine w_ls i rfl (Sf_k0 Q) (Nat.le_trans (Sf_64 Q) (Nat.le_add_right _ _)) (Sf_l0 Q) rfl hj (by decide) ?_
  refine w_rv rfl rfl ?_
  show (none, (hi, lm_up hl (q + 1) i v, X)) = _
  have e : fitV c v = v := by
    unfold fitV
    rw [if_neg c1_0]
    rw [if_neg c1_1]
    rw [if_neg c1_2]
    rw [if_neg c1_4]
  rw [e]
theorem isW_k {w : Int32} (h : isW w) : ∃ k, k < 5 ∧ -2 - w = nI k ∧ (-2 - w).toNatClampNeg = k := by
  rcases h with rfl | rfl | rfl | rfl | rfl
  · exact ⟨0, by decide, rfl, rfl⟩
  · exact ⟨1, by decide, rfl, rfl⟩
  · exact ⟨2, by decide, rfl, rfl⟩
  · exact ⟨3, by decide, rfl, rfl⟩
  · exact ⟨4, by decide, rfl, rfl⟩
theorem x_refuse {d : Nat} {hi : Nat → Nat → Int32} {hl : Nat → Nat → Int64} {X : lm_X} {hi0 : Nat → Nat → Int32} {hl0 : Nat → Nat → Int64} {C n ts : Nat} {T : lm_T} {R : Nat → Int32} {KO : ab_K} {V : ab_V} {tl F : Nat → Int32} (P : cP hi0 hl0 hi hl X C T n R KO V ts tl F) {w : Int32} (hw : isW w) : lm_w d 72 [.ref 64, .int w] (hi, hl, X) (fun r h1 => r = some (.int w) ∧ ∃ hi', h1 = (hi', hl, X) ∧ cP hi0 hl0 hi' hl X C T n R KO V ts tl (rfU F w)) := by
  obtain ⟨S, O, H, HR, FO, HV, HT, HF, HK, E0, EL0⟩ := id P
  obtain ⟨k, hk, e1, e2⟩ := isW_k hw
  refine lm_w_in (Nat.le_of_ble_eq_true rfl) ?_
  show lm_wp d 72 0 [.ref 64, .int w] [] (hi, hl, X) _
  refine w_N 1 1 [.ref 64, .int w] [.ref 64] rfl ?_
  refine w_gr 106 rfl rfl rfl (A_k S 64 (by decide)) (A_r S 64 9 (by decide)) ?_
  refine w_N 4 9 [.ref 64, .int w] [.int ((-2) - w), .ref 106, .int ((-2) - w), .ref 106] rfl ?_
  refine w_ia k (v := F k) rfl (A_k S 106 (by decide)) (show X.2.2.1 106 = 5 from A_l S 106 (by decide)) e1 hk (by decide) (HF k hk) ?_
  refine w_N 2 12 [.ref 64, .int w] [.int ((F k) + 1), .int ((-2) - w), .ref 106] rfl ?_
  refine w_is k rfl (A_k S 106 (by decide)) (by decide) (show X.2.2.1 106 = 5 from A_l S 106 (by decide)) e1 hk (by decide) ?_
  refine w_N 1 14 [.ref 64, .int w] [.int w] rfl ?_
  refine w_ri rfl rfl ?_
  refine ⟨rfl, _, rfl, cP_ref P (fr_up fr_rfl (by decide)) (fun j hj => ?_)⟩
  unfold rfU lm_u1
  rw [e2]
  by_cases z : j = k
  · subst z; rw [lm_up_eq, if_pos rfl]
  · rw [lm_up_nk z, if_neg z]; exact HF j hj
theorem x_refuseGain {d : Nat} {hi : Nat → Nat → Int32} {hl : Nat → Nat → Int64} {X : lm_X} {hi0 : Nat → Nat → Int32} {hl0 : Nat → Nat → Int64} {C n ts : Nat} {T : lm_T} {R : Nat → Int32} {KO : ab_K} {V : ab_V} {tl F : Nat → Int32} (P : cP hi0 hl0 hi hl X C T n R KO V ts tl F) {w : Int32} (hw : isW w) : lm_w (d + 1) 73 [.ref 64, .int w] (hi, hl, X) (fun r h1 => r = some (.int (-1000000 + w)) ∧ ∃ hi', h1 = (hi', hl, X) ∧ cP hi0 hl0 hi' hl X C T n R KO V ts tl (rfU F w)) := by
  obtain ⟨S, O, H, HR, FO, HV, HT, HF, HK, E0, EL0⟩ := id P
  refine lm_w_in (Nat.le_of_ble_eq_true rfl) ?_
  show lm_wp (d + 1) 73 0 [.ref 64, .int w] [] (hi, hl, X) _
  refine w_N 3 4 [.ref 64, .int w] [.int w, .ref 64, .int (-1000000)] rfl ?_
  refine w_ca (w_vst rfl rfl rfl (Nat.le_of_ble_eq_true rfl) (Nat.le_of_ble_eq_true rfl) (A_k S 64 (by decide))) (x_refuse P hw) ?_
  rintro _ _ ⟨rfl, hi9, rfl, P9⟩
  show lm_wp _ 73 7 [.ref 64, .int w] [.int w, .int (-1000000)] (hi9, hl, X) _
  refine w_N 1 8 [.ref 64, .int w] [.int ((-1000000) + w)] rfl ?_
  refine w_ri rfl rfl ?_
  exact ⟨rfl, _, rfl, P9⟩
theorem x_lackRules {d : Nat} {hi : Nat → Nat → Int32} {hl : Nat → Nat → Int64} {X : lm_X} {hi0 : Nat → Nat → Int32} {hl0 : Nat → Nat → Int64} {C n ts : Nat} {T : lm_T} {R : Nat → Int32} {KO : ab_K} {V : ab_V} {tl F : Nat → Int32} (P : cP hi0 hl0 hi hl X C T n R KO V ts tl F) {j k : Nat} (hj : j < 8) (hk : k < 8) : lm_c (d + 1) 80 [.ref 64, .int (nI j), .int (nI k)] (hi, hl, X) (some (.int (lkR (V j).1 (V k).1)), (hi, hl, X)) := by
  obtain ⟨S, O, H, HR, FO, HV, HT, HF, HK, E0, EL0⟩ := id P
  refine lm_c_of (lm_w_in (Nat.le_of_ble_eq_true rfl) ?_)
  show lm_wp (d + 1) 80 0 [.ref 64, .int (nI j), .int (nI k)] [] (hi, hl, X) _
  refine w_N 1 1 [.ref 64, .int (nI j), .int (nI k)] [.ref 64] rfl ?_
  refine w_gr 97 rfl rfl rfl (A_k S 64 (by decide)) (A_r S 64 5 (by decide)) ?_
  refine w_N 1 5 [.ref 64, .int (nI j), .int (nI k)] [.int (nI j), .ref 97] rfl ?_
  refine w_aa j (107 + 2 * j) rfl ⟨by rw [A_k S 97 (by decide)]; decide, by rw [A_k S 97 (by decide)]; decide⟩ (show X.2.2.1 97 = 8 from A_l S 97 (by decide)) rfl hj (by decide) (A_sv S hj) ?_
  refine w_cc (w_vst rfl rfl rfl (Nat.le_of_ble_eq_true rfl) (Nat.le_of_ble_eq_true rfl) (Sf_kd (A_Sf S hj))) (s_isRow (A_Sf S hj) ((HV j hj).1)) ?_
  show lm_wp _ 80 9 [.ref 64, .int (nI j), .int (nI k)] [.int (bz (wi ((V j).1) 0 4))] (hi, hl, X) _
  refine w_zne (t := 24) rfl rfl (fun c1 => ?_) (fun c1 => ?_)
  · refine w_N 1 26 [.ref 64, .int (nI j), .int (nI k)] [.int (-3)] rfl ?_
    refine w_ri rfl rfl ?_
    show (some (Value.int (-3)), _) = _
    unfold lkR
    simp [c1]
  · refine w_N 1 13 [.ref 64, .int (nI j), .int (nI k)] [.ref 64] rfl ?_
    refine w_gr 97 rfl rfl rfl (A_k S 64 (by decide)) (A_r S 64 5 (by decide)) ?_
    refine w_N 1 17 [.ref 64, .int (nI j), .int (nI k)] [.int (nI k), .ref 97] rfl ?_
    refine w_aa k (107 + 2 * k) rfl ⟨by rw [A_k S 97 (by decide)]; decide, by rw [A_k S 97 (by decide)]; decide⟩ (show X.2.2.1 97 = 8 from A_l S 97 (by decide)) rfl hk (by decide) (A_sv S hk) ?_
    refine w_cc (w_vst rfl rfl rfl (Nat.le_of_ble_eq_true rfl) (Nat.le_of_ble_eq_true rfl) (Sf_kd (A_Sf S hk))) (s_isRow (A_Sf S hk) ((HV k hk).1)) ?_
    show lm_wp _ 80 21 [.ref 64, .int (nI j), .int (nI k)] [.int (bz (wi ((V k).1) 0 4))] (hi, hl, X) _
    refine w_zeq (t := 27) rfl rfl (fun c2 => ?_) (fun c2 => ?_)
    · refine w_N 1 28 [.ref 64, .int (nI j), .int (nI k)] [.ref 64] rfl ?_
      refine w_gr 97 rfl rfl rfl (A_k S 64 (by decide)) (A_r S 64 5 (by decide)) ?_
      refine w_N 1 32 [.ref 64, .int (nI j), .int (nI k)] [.int (nI j), .ref 97] rfl ?_
      refine w_aa j (107 + 2 * j) rfl ⟨by rw [A_k S 97 (by decide)]; decide, by rw [A_k S 97 (by decide)]; decide⟩ (show X.2.2.1 97 = 8 from A_l S 97 (by decide)) rfl hj (by decide) (A_sv S hj) ?_
      refine w_cc (w_vst rfl rfl rfl (Nat.le_of_ble_eq_true rfl) (Nat.le_of_ble_eq_true rfl) (Sf_kd (A_Sf S hj))) (s_isRule (A_Sf S hj) ((HV j hj).1)) ?_
      show lm_wp _ 80 36 [.ref 64, .int (nI j), .int (nI k)] [.int (bz (decide (10 < (V j).1)))] (hi, hl, X) _
      refine w_zeq (t := 55) rfl rfl (fun c3 => ?_) (fun c3 => ?_)
      · refine w_N 1 57 [.ref 64, .int (nI j), .int (nI k)] [.int (-4)] rfl ?_
        refine w_ri rfl rfl ?_
        show (some (Value.int (-4)), _) = _
        unfold lkR
        simp [c1, c2, (of_decide_eq_false c3)]
      · refine w_N 1 40 [.ref 64, .int (nI j), .int (nI k)] [.ref 64] rfl ?_
        refine w_gr 97 rfl rfl rfl (A_k S 64 (by decide)) (A_r S 64 5 (by decide)) ?_
        refine w_N 1 44 [.ref 64, .int (nI j), .int (nI k)] [.int (nI k), .ref 97] rfl ?_
        refine w_aa k (107 + 2 * k) rfl ⟨by rw [A_k S 97 (by decide)]; decide, by rw [A_k S 97 (by decide)]; decide⟩ (show X.2.2.1 97 = 8 from A_l S 97 (by decide)) rfl hk (by decide) (A_sv S hk) ?_
        refine w_cc (w_vst rfl rfl rfl (Nat.le_of_ble_eq_true rfl) (Nat.le_of_ble_eq_true rfl) (Sf_kd (A_Sf S hk))) (s_isRule (A_Sf S hk) ((HV k hk).1)) ?_
        show lm_wp _ 80 48 [.ref 64, .int (nI j), .int (nI k)] [.int (bz (decide (10 < (V k).1)))] (hi, hl, X) _
        refine w_zeq (t := 55) rfl rfl (fun c4 => ?_) (fun c4 => ?_)
        · refine w_N 1 57 [.ref 64, .int (nI j), .int (nI k)] [.int (-4)] rfl ?_
          refine w_ri rfl rfl ?_
          show (some (Value.int (-4)), _) = _
          unfold lkR
          simp [c1, c2, (of_decide_eq_true c3), (of_decide_eq_false c4)]
        · refine w_N 2 57 [.ref 64, .int (nI j), .int (nI k)] [.int 0] rfl ?_
          refine w_ri rfl rfl ?_
          show (some (Value.int 0), _) = _
          unfold lkR
          simp [c1, c2, (of_decide_eq_true c3), (of_decide_eq_true c4)]
    · refine w_N 1 26 [.ref 64, .int (nI j), .int (nI k)] [.int (-3)] rfl ?_
      refine w_ri rfl rfl ?_
      show (some (Value.int (-3)), _) = _
      unfold lkR
      simp [c1, c2]
theorem x_lackRow {d : Nat} {hi : Nat → Nat → Int32} {hl : Nat → Nat → Int64} {X : lm_X} {hi0 : Nat → Nat → Int32} {hl0 : Nat → Nat → Int64} {C n ts : Nat} {T : lm_T} {R : Nat → Int32} {KO : ab_K} {V : ab_V} {tl F : Nat → Int32} (P : cP hi0 hl0 hi hl X C T n R KO V ts tl F) {j  : Nat} {m : Int32} (hj : j < 8) : lm_c (d + 1) 81 [.ref 64, .int (nI j), .int m] (hi, hl, X) (some (.int (lkW (V j).1 (V j).2.1 m)), (hi, hl, X)) := by
  obtain ⟨S, O, H, HR, FO, HV, HT, HF, HK, E0, EL0⟩ := id P
  refine lm_c_of (lm_w_in (Nat.le_of_ble_eq_true rfl) ?_)
  show lm_wp (d + 1) 81 0 [.ref 64, .int (nI j), .int m] [] (hi, hl, X) _
  refine w_N 1 1 [.ref 64, .int (nI j), .int m] [.ref 64] rfl ?_
  refine w_gr 97 rfl rfl rfl (A_k S 64 (by decide)) (A_r S 64 5 (by decide)) ?_
  refine w_N 1 5 [.ref 64, .int (nI j), .int m] [.int (nI j), .ref 97] rfl ?_
  refine w_aa j (107 + 2 * j) rfl ⟨by rw [A_k S 97 (by decide)]; decide, by rw [A_k S 97 (by decide)]; decide⟩ (show X.2.2.1 97 = 8 from A_l S 97 (by decide)) rfl hj (by decide) (A_sv S hj) ?_
  refine w_cc (w_vst rfl rfl rfl (Nat.le_of_ble_eq_true rfl) (Nat.le_of_ble_eq_true rfl) (Sf_kd (A_Sf S hj))) (s_isRule (A_Sf S hj) ((HV j hj).1)) ?_
  show lm_wp _ 81 9 [.ref 64, .int (nI j), .int m] [.int (bz (decide (10 < (V j).1)))] (hi, hl, X) _
  refine w_zeq (t := 15) rfl rfl (fun c1 => ?_) (fun c1 => ?_)
  · refine w_N 1 16 [.ref 64, .int (nI j), .int m] [.ref 64] rfl ?_
    refine w_gr 97 rfl rfl rfl (A_k S 64 (by decide)) (A_r S 64 5 (by decide)) ?_
    refine w_N 1 20 [.ref 64, .int (nI j), .int m] [.int (nI j), .ref 97] rfl ?_
    refine w_aa j (107 + 2 * j) rfl ⟨by rw [A_k S 97 (by decide)]; decide, by rw [A_k S 97 (by decide)]; decide⟩ (show X.2.2.1 97 = 8 from A_l S 97 (by decide)) rfl hj (by decide) (A_sv S hj) ?_
    refine w_cc (w_vst rfl rfl rfl (Nat.le_of_ble_eq_true rfl) (Nat.le_of_ble_eq_true rfl) (Sf_kd (A_Sf S hj))) (s_isRow (A_Sf S hj) ((HV j hj).1)) ?_
    show lm_wp _ 81 24 [.ref 64, .int (nI j), .int m] [.int (bz (wi ((V j).1) 0 4))] (hi, hl, X) _
    refine w_zne (t := 30) rfl rfl (fun c2 => ?_) (fun c2 => ?_)
    · refine w_N 2 32 [.ref 64, .int (nI j), .int m] [.ref 64, .int m] rfl ?_
      refine w_gr 97 rfl rfl rfl (A_k S 64 (by decide)) (A_r S 64 5 (by decide)) ?_
      refine w_N 1 36 [.ref 64, .int (nI j), .int m] [.int (nI j), .ref 97, .int m] rfl ?_
      refine w_aa j (107 + 2 * j) rfl ⟨by rw [A_k S 97 (by decide)]; decide, by rw [A_k S 97 (by decide)]; decide⟩ (show X.2.2.1 97 = 8 from A_l S 97 (by decide)) rfl hj (by decide) (A_sv S hj) ?_
      refine w_gi (v := nI (V j).2.1) rfl rfl rfl (Sf_kd (A_Sf S hj)) ((HV j hj).2.1) ?_
      refine w_icmp_gt (t := 47) rfl rfl (fun c3 => ?_) (fun c3 => ?_)
      · refine w_N 1 49 [.ref 64, .int (nI j), .int m] [.int (-2)] rfl ?_
        refine w_ri rfl rfl ?_
        show (some (Value.int (-2)), _) = _
        unfold lkW
        simp [(of_decide_eq_false c1), c2, c3]
      · refine w_N 2 49 [.ref 64, .int (nI j), .int m] [.int 0] rfl ?_
        refine w_ri rfl rfl ?_
        show (some (Value.int 0), _) = _
        unfold lkW
        simp [(of_decide_eq_false c1), c2, c3]
    · refine w_N 1 29 [.ref 64, .int (nI j), .int m] [.int (-4)] rfl ?_
      refine w_ri rfl rfl ?_
      show (some (Value.int (-4)), _) = _
      unfold lkW
      simp [(of_decide_eq_false c1), c2]
  · refine w_N 1 14 [.ref 64, .int (nI j), .int m] [.int (-3)] rfl ?_
    refine w_ri rfl rfl ?_
    show (some (Value.int (-3)), _) = _
    unfold lkW
    simp [(of_decide_eq_true c1)]
