/-! the reference's objects: b the object, its arrays b + 1 .. b + 48 -/
def mKds : List Nat := [17, 1, 1, 1, 6, 2, 2, 2, 2, 2, 2, 2, 2, 2, 1, 1, 1, 1, 5, 1, 1, 1, 1, 1, 1, 1, 1, 1, 1, 1, 5, 1, 1, 1, 1, 1, 5, 1, 1, 1, 1, 1, 1, 5, 1, 1, 1, 1, 1]
def mLns : List Nat := [0, 8, 8, 8, 8, 40, 40, 40, 40, 40, 40, 40, 40, 40, 8, 8, 250, 8, 10, 7, 7, 7, 7, 7, 7, 7, 7, 7, 7, 4, 2, 12, 12, 2, 4, 4, 5, 2, 2, 2, 2, 2, 5, 5, 2, 2, 2, 2, 2]
def mRf : List (Option Nat) := [some 1, some 2, some 3, some 4, some 13, some 14, some 15, some 16, none, some 17, none, some 18, none, some 29, none, none, some 30, some 33, none, none, some 34, none, none, none, none, none, none, none, none, some 35, none, none, none, some 36, some 42, some 43]
def sh_M (X : lm_X) (b : Nat) : Prop := 64 ≤ b ∧ (∀ o, o < 49 → X.2.1 (b + o) = mKds.getD o 0) ∧ (∀ o, 0 < o ∧ o < 49 → X.2.2.1 (b + o) = mLns.getD o 0) ∧ (∀ k o, mRf.getD k none = some o → X.1 b k = some (b + o)) ∧ (∀ i, i < 8 → X.1 (b + 4) i = some (b + (5 + i))) ∧ (∀ a, a < 10 → X.1 (b + 18) a = some (b + (19 + a))) ∧ (∀ h, h < 2 → X.1 (b + 30) h = some (b + (31 + h))) ∧ (∀ k, k < 5 → X.1 (b + 36) k = some (b + (37 + k))) ∧ (∀ k, k < 5 → X.1 (b + 43) k = some (b + (44 + k)))
section
variable {X : lm_X} {b : Nat}
theorem M_64 (S : sh_M X b) : 64 ≤ b := S.1
theorem M_kd (S : sh_M X b) : X.2.1 b = 10 + 7 := S.2.1 0 (by decide)
theorem M_k (S : sh_M X b) (o : Nat) (h : o < 49) : X.2.1 (b + o) = mKds.getD o 0 := S.2.1 o h
theorem M_l (S : sh_M X b) (o : Nat) (h : 0 < o ∧ o < 49) : X.2.2.1 (b + o) = mLns.getD o 0 := S.2.2.1 o h
theorem M_r (S : sh_M X b) {k o : Nat} (h : mRf.getD k none = some o) : X.1 b k = some (b + o) := S.2.2.2.1 k o h
theorem M_kk (S : sh_M X b) {o : Nat} (h : o < 49 ∧ 4 ≤ mKds.getD o 0 ∧ mKds.getD o 0 ≤ 6) : 4 ≤ X.2.1 (b + o) ∧ X.2.1 (b + o) ≤ 6 := by rw [M_k S o h.1]; exact h.2
theorem M_ror (S : sh_M X b) {a : Nat} (h : a < 8) : X.1 (b + 4) a = some (b + (5 + a)) := S.2.2.2.2.1 a h
theorem M_rok (S : sh_M X b) {a : Nat} (h : a < 8) : X.2.1 (b + (5 + a)) = 2 := by
  have e : ∀ a, a < 8 → mKds.getD (5 + a) 0 = 2 := by decide
  rw [M_k S (5 + a) (by omega), e a h]
theorem M_rol (S : sh_M X b) {a : Nat} (h : a < 8) : X.2.2.1 (b + (5 + a)) = 40 := by
  have e : ∀ a, a < 8 → mLns.getD (5 + a) 0 = 40 := by decide
  rw [M_l S (5 + a) (by omega), e a h]
theorem M_acr (S : sh_M X b) {a : Nat} (h : a < 10) : X.1 (b + 18) a = some (b + (19 + a)) := S.2.2.2.2.2.1 a h
theorem M_ack (S : sh_M X b) {a : Nat} (h : a < 10) : X.2.1 (b + (19 + a)) = 1 := by
  have e : ∀ a, a < 10 → mKds.getD (19 + a) 0 = 1 := by decide
  rw [M_k S (19 + a) (by omega), e a h]
theorem M_acl (S : sh_M X b) {a : Nat} (h : a < 10) : X.2.2.1 (b + (19 + a)) = 7 := by
  have e : ∀ a, a < 10 → mLns.getD (19 + a) 0 = 7 := by decide
  rw [M_l S (19 + a) (by omega), e a h]
theorem M_wor (S : sh_M X b) {a : Nat} (h : a < 2) : X.1 (b + 30) a = some (b + (31 + a)) := S.2.2.2.2.2.2.1 a h
theorem M_wok (S : sh_M X b) {a : Nat} (h : a < 2) : X.2.1 (b + (31 + a)) = 1 := by
  have e : ∀ a, a < 2 → mKds.getD (31 + a) 0 = 1 := by decide
  rw [M_k S (31 + a) (by omega), e a h]
theorem M_wol (S : sh_M X b) {a : Nat} (h : a < 2) : X.2.2.1 (b + (31 + a)) = 12 := by
  have e : ∀ a, a < 2 → mLns.getD (31 + a) 0 = 12 := by decide
  rw [M_l S (31 + a) (by omega), e a h]
theorem M_bgr (S : sh_M X b) {a : Nat} (h : a < 5) : X.1 (b + 36) a = some (b + (37 + a)) := S.2.2.2.2.2.2.2.1 a h
theorem M_bgk (S : sh_M X b) {a : Nat} (h : a < 5) : X.2.1 (b + (37 + a)) = 1 := by
  have e : ∀ a, a < 5 → mKds.getD (37 + a) 0 = 1 := by decide
  rw [M_k S (37 + a) (by omega), e a h]
theorem M_bgl (S : sh_M X b) {a : Nat} (h : a < 5) : X.2.2.1 (b + (37 + a)) = 2 := by
  have e : ∀ a, a < 5 → mLns.getD (37 + a) 0 = 2 := by decide
  rw [M_l S (37 + a) (by omega), e a h]
theorem M_mor (S : sh_M X b) {a : Nat} (h : a < 5) : X.1 (b + 43) a = some (b + (44 + a)) := S.2.2.2.2.2.2.2.2 a h
theorem M_mok (S : sh_M X b) {a : Nat} (h : a < 5) : X.2.1 (b + (44 + a)) = 1 := by
  have e : ∀ a, a < 5 → mKds.getD (44 + a) 0 = 1 := by decide
  rw [M_k S (44 + a) (by omega), e a h]
theorem M_mol (S : sh_M X b) {a : Nat} (h : a < 5) : X.2.2.1 (b + (44 + a)) = 2 := by
  have e : ∀ a, a < 5 → mLns.getD (44 + a) 0 = 2 := by decide
  rw [M_l S (44 + a) (by omega), e a h]
end
/-! the town's data in the reference; a state (its half aside); what changes while a state does -/
def rT (hi : Nat → Nat → Int32) (b : Nat) (T : lm_T) (n : Nat) : Prop := (∀ k, k < 7 → ∀ a, a < n → hi (b + (19 + a)) k = T k a) ∧ (∀ h, h < 2 → ∀ w, w < 12 → hi (b + (31 + h)) w = T 7 (12 * h + w)) ∧ hi b 10 = nI n ∧ n ≤ 10
def rS (hi : Nat → Nat → Int32) (b : Nat) (s : Int32) : Prop := hi b 12 = s_marks s ∧ ∀ c, c < 4 → hi (b + 29) c = s_count s (nI c)
def rX (hi hi' : Nat → Nat → Int32) (b : Nat) : Prop := (∀ a, a ≠ b → a ≠ b + 29 → hi' a = hi a) ∧ (∀ j, j ≠ 12 → j ≠ 14 → hi' b j = hi b j) ∧ (∀ j, 4 ≤ j → hi' (b + 29) j = hi (b + 29) j)
theorem rTa {hi : Nat → Nat → Int32} {b n k a : Nat} {T : lm_T} (H : rT hi b T n) (hk : k < 7) (ha : a < n) : hi (b + (19 + a)) k = T k a := H.1 k hk a ha
theorem rTw {hi : Nat → Nat → Int32} {b n h w : Nat} {T : lm_T} (H : rT hi b T n) (hh : h < 2) (hw : w < 12) : hi (b + (31 + h)) w = T 7 (12 * h + w) := H.2.1 h hh w hw
theorem rTn {hi : Nat → Nat → Int32} {b n : Nat} {T : lm_T} (H : rT hi b T n) : hi b 10 = nI n := H.2.2.1
theorem rTle {hi : Nat → Nat → Int32} {b n : Nat} {T : lm_T} (H : rT hi b T n) : n ≤ 10 := H.2.2.2
theorem rT_fr {hi hi' : Nat → Nat → Int32} {b n lo up : Nat} {T : lm_T} (f : fr lo up hi hi') (hd : b + 33 ≤ lo ∨ up ≤ b) (H : rT hi b T n) : rT hi' b T n := by
  have hn := rTle H
  refine ⟨fun k hk a ha => ?_, fun h hh w hw => ?_, ?_, H.2.2.2⟩
  · rw [f _ (by omega)]; exact H.1 k hk a ha
  · rw [f _ (by omega)]; exact H.2.1 h hh w hw
  · rw [f _ (by omega)]; exact H.2.2.1
theorem rS_fr {hi hi' : Nat → Nat → Int32} {b lo up : Nat} {s : Int32} (f : fr lo up hi hi') (hd : b + 30 ≤ lo ∨ up ≤ b) (H : rS hi b s) : rS hi' b s := by
  unfold rS
  rw [f b (by omega), f (b + 29) (by omega)]
  exact H
theorem rX_rfl {hi : Nat → Nat → Int32} {b : Nat} : rX hi hi b := ⟨fun _ _ _ => rfl, fun _ _ _ => rfl, fun _ _ => rfl⟩
theorem rX_trans {h0 h1 h2 : Nat → Nat → Int32} {b : Nat} (f : rX h0 h1 b) (g : rX h1 h2 b) : rX h0 h2 b :=
  ⟨fun a h1 h2 => (g.1 a h1 h2).trans (f.1 a h1 h2), fun j h1 h2 => (g.2.1 j h1 h2).trans (f.2.1 j h1 h2), fun j h => (g.2.2 j h).trans (f.2.2 j h)⟩
theorem rT_X {hi hi' : Nat → Nat → Int32} {b n : Nat} {T : lm_T} (f : rX hi hi' b) (H : rT hi b T n) : rT hi' b T n := by
  have hn := rTle H
  refine ⟨fun k hk a ha => ?_, fun h hh w hw => ?_, ?_, H.2.2.2⟩
  · rw [f.1 _ (by omega) (by omega)]; exact H.1 k hk a ha
  · rw [f.1 _ (by omega) (by omega)]; exact H.2.1 h hh w hw
  · rw [f.2.1 _ (by decide) (by decide)]; exact H.2.2.1
/-- a state put back: nothing has changed but lo .. up - 1 -/
theorem rX_back {h0 h1 h2 h3 : Nat → Nat → Int32} {b lo up : Nat} {s : Int32} (f : rX h0 h1 b) (g : fr lo up h1 h2) (k : rX h2 h3 b) (hd : b + 30 ≤ lo ∨ up ≤ b) (H0 : rS h0 b s) (H3 : rS h3 b s) (hD : h3 b 14 = h0 b 14) : fr lo up h0 h3 := by
  intro a ha
  by_cases e1 : a = b
  · subst e1
    funext j
    by_cases e2 : j = 12
    · subst e2; rw [H0.1, H3.1]
    · by_cases e3 : j = 14
      · subst e3; exact hD
      · rw [k.2.1 j e2 e3, g a (by omega), f.2.1 j e2 e3]
  · by_cases e2 : a = b + 29
    · subst e2
      funext j
      by_cases e3 : j < 4
      · rw [H0.2 j e3, H3.2 j e3]
      · rw [k.2.2 j (by omega), g _ (by omega), f.2.2 j (by omega)]
    · rw [k.1 a e1 e2, g a ha, f.1 a e1 e2]
theorem rS_1 {hi : Nat → Nat → Int32} {b : Nat} {s s' v : Int32} (H : rS hi b s) (hv : v = s_marks s') (hc : ∀ e, e < 4 → s_count s' (nI e) = s_count s (nI e)) : rS (lm_up hi b 12 v) b s' := by
  refine ⟨by simp [lm_up, hv], fun c h => ?_⟩
  rw [lm_up_na (by omega), hc c h]; exact H.2 c h
theorem rS_2 {hi : Nat → Nat → Int32} {b c : Nat} {s s' v w : Int32} (H : rS hi b s) (hv : v = s_marks s') (hc : ∀ e, e < 4 → s_count s' (nI e) = if e = c then w else s_count s (nI e)) : rS (lm_up (lm_up hi b 12 v) (b + 29) c w) b s' := by
  refine ⟨by simp [lm_up, hv], fun e h => ?_⟩
  rw [hc e h]
  by_cases q : e = c
  · subst q; rw [if_pos rfl, lm_up_eq]
  · rw [if_neg q, lm_up_nk q, lm_up_na (by omega)]; exact H.2 e h
theorem rS_3 {hi : Nat → Nat → Int32} {b c : Nat} {s s' w : Int32} (H : rS hi b s) (hv : s_marks s' = s_marks s) (hc : ∀ e, e < 4 → s_count s' (nI e) = if e = c then w else s_count s (nI e)) : rS (lm_up hi (b + 29) c w) b s' := by
  refine ⟨by rw [lm_up_na (by omega), hv]; exact H.1, fun e h => ?_⟩
  rw [hc e h]
  by_cases q : e = c
  · subst q; rw [if_pos rfl, lm_up_eq]
  · rw [if_neg q, lm_up_nk q]; exact H.2 e h
theorem rX_m {h0 h1 : Nat → Nat → Int32} {b k : Nat} {v : Int32} (f : rX h0 h1 b) (hk : k = 12 ∨ k = 14) : rX h0 (lm_up h1 b k v) b :=
  ⟨fun a e1 e2 => (lm_up_rw e1).trans (f.1 a e1 e2), fun j e1 e2 => (lm_up_nk (by omega)).trans (f.2.1 j e1 e2), fun j e => (lm_up_na (by omega)).trans (f.2.2 j e)⟩
theorem rX_c {h0 h1 : Nat → Nat → Int32} {b c : Nat} {v : Int32} (f : rX h0 h1 b) (hc : c < 4) : rX h0 (lm_up h1 (b + 29) c v) b :=
  ⟨fun a e1 e2 => (lm_up_rw e2).trans (f.1 a e1 e2), fun j e1 e2 => (lm_up_na (by omega)).trans (f.2.1 j e1 e2), fun j e => (lm_up_nk (by omega)).trans (f.2.2 j e)⟩
/-! bits -/
theorem bt_lit (m : Nat) (hm : m < 8) {i : Nat} (hi : i < 32) : bt (1 <<< (nI m &&& 31)) i = decide (m = i) := by
  rw [sh_lit (by omega), show (1 : Int32) = nI 1 from rfl, sl_nI (by omega), bt_nI hi, Nat.one_mul, Nat.testBit_two_pow]
theorem std_marks {s : Int32} {m : Nat} (hm : m < 8) : s_std (s_marks s) (nI m) = s_std s (nI m) := by
  rw [std_bt hm, std_bt hm, bt_marks (by omega)]
  simp [hm]
theorem needs_eq {s : Int32} {x : Nat} (hx : x < 256) : (nI x &&& (s_marks s ^^^ (-1)) = 0) ↔ (s &&& nI x = nI x) := by
  have hb : ∀ i, i < 32 → 8 ≤ i → bt (nI x) i = false := fun i hi h8 => by
    rw [bt_nI hi]
    exact Nat.testBit_lt_two_pow (Nat.lt_of_lt_of_le hx (Nat.pow_le_pow_right (n := 2) (by decide) h8))
  have z : ∀ i, i < 32 → bt 0 i = false := by decide
  constructor
  · intro h
    apply bt_ext
    intro i hi
    rw [bt_and]
    by_cases h8 : i < 8
    · have := congrArg (fun q => bt q i) h
      simp only [bt_and, bt_xor, bt_marks hi, bt_m1 hi, z i hi, h8, decide_true, Bool.true_and] at this
      revert this
      cases bt s i <;> cases bt (nI x) i <;> decide
    · rw [hb i hi (by omega), Bool.and_false]
  · intro h
    apply bt_ext
    intro i hi
    rw [bt_and, bt_xor, bt_marks hi, bt_m1 hi, z i hi]
    by_cases h8 : i < 8
    · have := congrArg (fun q => bt q i) h
      simp only [bt_and] at this
      revert this
      simp only [h8, decide_true, Bool.true_and]
      cases bt s i <;> cases bt (nI x) i <;> decide
    · rw [hb i hi (by omega), Bool.false_and]
theorem bars_eq {s : Int32} {x : Nat} (hx : x < 256) : (nI x &&& s_marks s = 0) ↔ (s &&& nI x = 0) := by
  have e : nI x &&& s_marks s = s &&& nI x := by
    apply bt_ext
    intro i hi
    rw [bt_and, bt_and, bt_marks hi]
    by_cases h8 : i < 8
    · simp [h8, Bool.and_comm]
    · have : bt (nI x) i = false := by
        rw [bt_nI hi]
        exact Nat.testBit_lt_two_pow (Nat.lt_of_lt_of_le hx (Nat.pow_le_pow_right (n := 2) (by decide) (show 8 ≤ i by omega)))
      simp [this]
  rw [e]
theorem or_turn {s : Int32} {m : Nat} (hm : m < 8) (h : s_std s (nI m) = false) : s_marks s ||| (1 <<< (nI m &&& 31)) = s_marks (s_turn s (nI m)) := by
  rw [std_bt hm] at h
  apply bt_ext
  intro i hi
  rw [bt_or, bt_lit m hm hi, bt_marks hi, bt_marks hi, bt_turn hm hi]
  by_cases e : m = i
  · subst e; simp [h, hm]
  · simp [e]
theorem and_turn {s : Int32} {m : Nat} (hm : m < 8) (h : s_std s (nI m) = true) : s_marks s &&& ((1 <<< (nI m &&& 31)) ^^^ (-1)) = s_marks (s_turn s (nI m)) := by
  rw [std_bt hm] at h
  apply bt_ext
  intro i hi
  rw [bt_and, bt_xor, bt_lit m hm hi, bt_m1 hi, bt_marks hi, bt_marks hi, bt_turn hm hi]
  by_cases e : m = i
  · subst e; simp [h]
  · simp [e]
theorem alw_k {T : lm_T} {a hf : Nat} {s : Int32} (h : alw T (a + 1) hf s = true) : (T 0 a = 1 → s_std s (T 1 a) = false) ∧ (T 0 a = 2 → s_std s (T 1 a) = true) ∧ (T 0 a = 4 → s_std s (T 1 a) = false ∧ ¬ s_count s (T 2 a) < T 3 a) ∧ (T 0 a = 5 → s_std s (T 1 a) = true ∧ ¬ 23 < s_count s (T 2 a) + T 3 a) := by
  simp only [alw] at h
  split at h
  · cases h
  · split at h
    · cases h
    · split at h
      · cases h
      · refine ⟨fun e => ?_, fun e => ?_, fun e => ?_, fun e => ?_⟩
        · simpa [e] using h
        · simpa [e] using h
        · simpa [e] using h
        · simpa [e] using h
theorem rem2 {D : Nat} (h : D < 2147483648) : nI D - nI D / 2 * 2 = nI (D % 2) := by
  apply Int32.toInt_inj.mp
  have e1 : (nI D / 2).toInt = (D / 2 : Nat) := by
    rw [Int32.toInt_div, nI_ti h, show (2 : Int32).toInt = 2 from rfl, show ((D : Int).tdiv 2) = ((D / 2 : Nat) : Int) from (Int.tdiv_eq_ediv_of_nonneg (by omega)).trans (Int.natCast_ediv D 2).symm, Int.bmod_eq_of_le (by simp; omega) (by simp; omega)]
  have e2 : nI D / 2 = nI (D / 2) := by
    apply Int32.toInt_inj.mp
    rw [e1, nI_ti (by omega)]
  rw [e2, show (2 : Int32) = nI 2 from rfl, nI_mul', nI_sub (by omega)]
  congr 2
  omega
