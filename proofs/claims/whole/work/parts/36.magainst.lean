set_option maxRecDepth 16384
/-! the reference: mostAgainst -/
theorem ags_bd {T : lm_T} {n kd a : Nat} (hT : okT T n) : ∀ k s, k ≤ 4 → bd (ags T n kd a k s) 52272 := by
  have h1 : ∀ (f : Int32 → Int32) (C : Int), (∀ t, bd (f t) C) → C ≤ 39204 → ∀ s m, 1 ≤ m → bd (agl T f s m) (13068 + C) := by
    intro f C hf hC s m
    have hw := awk_lt s
    have hC0 : 0 ≤ C := by have := hf 0; unfold bd at this; omega
    have hv : ∀ i, bd (val T (awk s) (aft T i s) + f (s_next (aft T i s))) (13068 + C) := fun i => bd_add (val_bd hT hw) (hf _) (by omega)
    induction m with
    | zero => intro h; omega
    | succ m im =>
      intro _
      by_cases h0 : alw T m (awk s) s = true
      · rw [show agl T f s (m + 1) = _ from if_pos h0]
        unfold mx
        split
        · exact hv m
        · rcases Nat.eq_zero_or_pos m with rfl | hm
          · rename_i h9; exact absurd (bd_low (hv 0) (by omega)) h9
          · exact im hm
      · rw [show agl T f s (m + 1) = _ from if_neg h0]
        rcases Nat.eq_zero_or_pos m with rfl | hm
        · exact absurd rfl h0
        · exact im hm
  have h2 : ∀ k s, k < 3 → bd (ags T n kd a k s) 13068 := by
    intro k s hk
    rw [ags_eq]
    have e : agf T n kd a k = fun _ => 0 := if_pos hk
    rw [e]
    exact bd_mono (h1 (fun _ => 0) 0 (fun _ => ⟨by decide, by decide⟩) (by decide) s (n + 1) (by omega)) (by decide)
  intro k s hk
  by_cases h3 : k < 3
  · exact bd_mono (h2 k s h3) (by decide)
  · rw [ags_eq]
    have e : agf T n kd a k = fun t => ags T n kd a (k - 2) (oth T n kd a t) := if_neg h3
    rw [e]
    exact bd_mono (h1 _ 13068 (fun t => h2 _ _ (by omega)) (by decide) s (n + 1) (by omega)) (by decide)
theorem agf_bd {T : lm_T} {n kd a k : Nat} (hT : okT T n) (hk : k ≤ 5) (t : Int32) : bd (agf T n kd a k t) 52272 := by
  unfold agf
  split
  · show bd 0 52272; exact ⟨by decide, by decide⟩
  · exact ags_bd hT _ _ (by omega)
theorem agl_1 {T : lm_T} {n kd a k : Nat} {s : Int32} (hT : okT T n) (hk : k ≤ 5) : agl T (agf T n kd a k) s 1 = val T (awk s) (aft T 0 s) + agf T n kd a k (s_next (aft T 0 s)) := by
  show mx (-2000000000) _ = _
  unfold mx
  exact if_pos (bd_low (bd_add (val_bd hT (awk_lt s)) (agf_bd hT hk _) (by decide)) (by decide))
/-- what mostAgainst answers: on one's own day, on the other's -/
def agw (T : lm_T) (n kd a k : Nat) (own : Bool) (s : Int32) : Int32 := if own = true then (if k = 0 then 0 else ags T n kd a k s) else agf T n kd a (k + 1) s
theorem agw_o {T : lm_T} {n kd a k : Nat} {s : Int32} : agw T n kd a (k + 1) false s = agw T n kd a k true (oth T n kd a s) := by
  unfold agw agf
  rw [if_neg (by decide), if_pos rfl]
  by_cases h : k = 0
  · subst h; rfl
  · rw [if_neg (by omega), if_neg h]; rfl
theorem agw_f {T : lm_T} {n kd a k : Nat} {s : Int32} : agw T n kd a k false s = agf T n kd a (k + 1) s := if_neg (by decide)
def AG (d k : Nat) : Prop := ∀ (hi : Nat → Nat → Int32) (hl : Nat → Nat → Int64) (X : lm_X) (b n D kd a hf : Nat) (T : lm_T) (s x : Int32), sh_M X b → rT hi b T n → okT T n → rS hi b s → hi b 14 = nI D → awk s = D % 2 → D + (k + 5) < 2147483648 → hf < 2 → 1 ≤ kd → kd ≤ 6 → a ≤ 99 → x = nI k → lm_w d 200 [.ref b, .int (nI kd), .int (nI a), .int x, .int (nI hf)] (hi, hl, X) (fun v h1 => ∃ hi', v = some (.int (agw T n kd a k (decide (awk s = hf)) s)) ∧ h1 = (hi', hl, X) ∧ fr (b + 36) (b + 49) hi hi')
theorem AG_0 {d : Nat} : AG d 0 := by
  intro hi hl X b n D kd a hf T s x S H hT HS HD hw hD hhf k1 k6 ha hx
  subst hx
  refine lm_w_in (Nat.le_of_ble_eq_true rfl) ?_
  show lm_wp d 200 0 [.ref b, .int (nI kd), .int (nI a), .int 0, .int (nI hf), lm_jk, lm_jk, lm_jk, lm_jk, lm_jk, lm_jk] [] (hi, hl, X) _
  refine w_N 1 1 [.ref b, .int (nI kd), .int (nI a), .int 0, .int (nI hf), lm_jk, lm_jk, lm_jk, lm_jk, lm_jk, lm_jk] [.int 0] rfl ?_
  refine w_if_ne_f (t := 6) rfl rfl (by decide) ?_
  refine w_N 1 5 [.ref b, .int (nI kd), .int (nI a), .int 0, .int (nI hf), lm_jk, lm_jk, lm_jk, lm_jk, lm_jk, lm_jk] [.int 0] rfl ?_
  refine w_ri rfl rfl ?_
  refine ⟨hi, ?_, rfl, fr_rfl⟩
  have e : agw T n kd a 0 (decide (awk s = hf)) s = 0 := by
    unfold agw agf
    split <;> rfl
  rw [e]
theorem m_ma1 {d : Nat} {hi : Nat → Nat → Int32} {hl : Nat → Nat → Int64} {X : lm_X} {b n D k kd a : Nat} {T : lm_T} {s : Int32} (S : sh_M X b) (hT : okT T n) (hw : awk s = D % 2) (hD : D + (k + 6) < 2147483648) (hk : k < 4) (k1 : 1 ≤ kd) (k6 : kd ≤ 6) (ha : a ≤ 99) (hB : AG (d + 7) k) {P : Option Value → lm_H → Prop} (k' : ∀ (hi' : Nat → Nat → Int32) (c ms : Int32) (x9 x10 : Value), fr (b + 36) (b + 49) hi hi' → ms = agl T (agf T n kd a (k + 1)) s (n + 1) → lm_wp (d + 8) 200 191 [.ref b, .int (nI kd), .int (nI a), .int (nI (k + 1)), .int (nI (awk s)), .long (stg s), lm_jk, .int ms, .int c, x9, x10] [] (hi', hl, X) P) : ∀ (j m : Nat) (hi' : Nat → Nat → Int32) (ms : Int32) (mk : Int32) (x9 : Value) (x10 : Value), m + j = n → (ms = agl T (agf T n kd a (k + 1)) s (m + 1)) → (mk = nI m) → (rT hi' b T n) → (rS hi' b s) → (hi' b 14 = nI D) → (fr (b + 36) (b + 49) hi hi') → lm_wp (d + 8) 200 81 [.ref b, .int (nI kd), .int (nI a), .int (nI (k + 1)), .int (nI (awk s)), .long (stg s), lm_jk, .int ms, .int mk, x9, x10] [] (hi', hl, X) P := by
  intro j
  induction j with
  | zero =>
    intro m hi' ms mk x9 x10 hm e1 e4 H0 HS0 HD0 F0
    have hn10 := rTle H0
    refine w_N 2 84 [.ref b, .int (nI kd), .int (nI a), .int (nI (k + 1)), .int (nI (awk s)), .long (stg s), lm_jk, .int ms, .int mk, x9, x10] [.ref b, .int mk] rfl ?_
    refine w_gi (v := nI n) rfl rfl rfl (M_kd S) (rTn H0) ?_
    refine w_icmp_ge_t (t := 191) rfl rfl (by rw [e4, show m = n by omega]; exact fun z => Int32.lt_irrefl z) ?_
    obtain rfl : m = n := by omega
    exact k' hi' _ _ _ _ F0 e1
  | succ j ih =>
    intro m hi' ms mk x9 x10 hm e1 e4 H0 HS0 HD0 F0
    have hn10 := rTle H0
    have hne : ¬ mk = -1 := fun z => by rw [e4] at z; have := (aI_none (i := m + 1) (by omega)).mp z; omega
    refine w_N 2 84 [.ref b, .int (nI kd), .int (nI a), .int (nI (k + 1)), .int (nI (awk s)), .long (stg s), lm_jk, .int ms, .int mk, x9, x10] [.ref b, .int mk] rfl ?_
    refine w_gi (v := nI n) rfl rfl rfl (M_kd S) (rTn H0) ?_
    refine w_icmp_ge_f (t := 191) rfl rfl (by rw [e4]; exact nI_lt (by omega) (by omega)) ?_
    refine w_N 2 93 [.ref b, .int (nI kd), .int (nI a), .int (nI (k + 1)), .int (nI (awk s)), .long (stg s), lm_jk, .int ms, .int mk, x9, x10] [.int (-1), .int mk] rfl ?_
    refine w_icmp_eq_f (t := 107) rfl rfl hne ?_
    refine w_N 3 101 [.ref b, .int (nI kd), .int (nI a), .int (nI (k + 1)), .int (nI (awk s)), .long (stg s), lm_jk, .int ms, .int mk, x9, x10] [.int (nI (awk s)), .int mk, .ref b] rfl ?_
    refine w_cc (w_vst rfl rfl rfl (Nat.le_of_ble_eq_true rfl) (Nat.le_of_ble_eq_true rfl) (M_kd S)) (m_canBeE (d := d + 6) S H0 HS0 hT e4 rfl (by omega)) ?_
    show lm_wp _ 200 104 [.ref b, .int (nI kd), .int (nI a), .int (nI (k + 1)), .int (nI (awk s)), .long (stg s), lm_jk, .int ms, .int mk, x9, x10] [.int (bz (alw T (m + 1) (awk s) s))] (hi', hl, X) _
    refine w_zeq (t := 185) rfl rfl (fun c1 => ?_) (fun c1 => ?_)
    · refine w_N 2 81 [.ref b, .int (nI kd), .int (nI a), .int (nI (k + 1)), .int (nI (awk s)), .long (stg s), lm_jk, .int ms, .int (mk + 1), x9, x10] [] rfl ?_
      have eb : agl T (agf T n kd a (k + 1)) s (m + 2) = agl T (agf T n kd a (k + 1)) s (m + 1) := if_neg (by rw [c1]; decide)
      exact ih (m + 1) hi' _ _ _ _ (by omega) (by rw [eb]; exact e1) (by rw [e4, nI_succ]) H0 HS0 HD0 F0
    · refine w_N 2 110 [.ref b, .int (nI kd), .int (nI a), .int (nI (k + 1)), .int (nI (awk s)), .long (stg s), lm_jk, .int ms, .int mk, x9, x10] [.int mk, .ref b] rfl ?_
      refine w_ca (w_vst rfl rfl rfl (Nat.le_of_ble_eq_true rfl) (Nat.le_of_ble_eq_true rfl) (M_kd S)) (m_doIt (hf := awk s) (i := m + 1) S H0 HS0 hT e4 (show m + 1 ≤ n by omega) c1) ?_
      rintro _ _ ⟨hi1, rfl, rfl, HS1, X1, D1⟩
      have H1 := rT_X X1 H0
      have D1a := D1.trans HD0
      show lm_wp _ 200 113 [.ref b, .int (nI kd), .int (nI a), .int (nI (k + 1)), .int (nI (awk s)), .long (stg s), lm_jk, .int ms, .int mk, x9, x10] [] (hi1, hl, X) _
      refine w_N 2 116 [.ref b, .int (nI kd), .int (nI a), .int (nI (k + 1)), .int (nI (awk s)), .long (stg s), lm_jk, .int ms, .int mk, x9, x10] [.int (nI (awk s)), .ref b] rfl ?_
      refine w_cc (w_vst rfl rfl rfl (Nat.le_of_ble_eq_true rfl) (Nat.le_of_ble_eq_true rfl) (M_kd S)) (m_valueOfE (d := d + 6) S H1 HS1 rfl (awk_lt s)) ?_
      show lm_wp _ 200 119 [.ref b, .int (nI kd), .int (nI a), .int (nI (k + 1)), .int (nI (awk s)), .long (stg s), lm_jk, .int ms, .int mk, x9, x10] [.int (val T (awk s) (aft T (m + 1) s))] (hi1, hl, X) _
      refine w_N 3 123 [.ref b, .int (nI kd), .int (nI a), .int (nI (k + 1)), .int (nI (awk s)), .long (stg s), lm_jk, .int ms, .int mk, .int (val T (awk s) (aft T (m + 1) s)), x10] [.ref b, .ref b] rfl ?_
      refine w_gi (v := nI D) rfl rfl rfl (M_kd S) (D1a) ?_
      refine w_N 2 128 [.ref b, .int (nI kd), .int (nI a), .int (nI (k + 1)), .int (nI (awk s)), .long (stg s), lm_jk, .int ms, .int mk, .int (val T (awk s) (aft T (m + 1) s)), x10] [.int ((nI D) + 1), .ref b] rfl ?_
      refine w_pi rfl rfl rfl rfl (M_kd S) (M_64 S) ?_
      refine w_N 8 141 [.ref b, .int (nI kd), .int (nI a), .int (nI (k + 1)), .int (nI (awk s)), .long (stg s), lm_jk, .int ms, .int mk, .int (val T (awk s) (aft T (m + 1) s)), x10] [.int (nI (awk s)), .int ((nI (k + 1)) - 1), .int (nI a), .int (nI kd), .ref b, .int (val T (awk s) (aft T (m + 1) s))] rfl ?_
      have eD : (nI D + 1 : Int32) = nI (D + 1) := (nI_succ D).symm
      have haw : awk (s_next (aft T (m + 1) s)) = 1 - awk s := by rw [awk_next, (aft_ok (hf := awk s) hT (show m + 1 ≤ n by omega) c1).2]
      have hdc : decide (awk (s_next (aft T (m + 1) s)) = awk s) = false := decide_eq_false (by have := awk_lt s; omega)
      have XU := rX_m (v := nI D + 1) (k := 14) X1 (Or.inr rfl)
      have HSU : rS (lm_up hi1 b 14 (nI D + 1)) b (aft T (m + 1) s) := ⟨by rw [lm_up_nk (by decide)]; exact HS1.1, fun c hc => by rw [lm_up_na (by omega)]; exact HS1.2 c hc⟩
      refine w_ca (w_vst rfl rfl rfl (Nat.le_of_ble_eq_true rfl) (Nat.le_of_ble_eq_true rfl) (M_kd S)) (hB _ _ _ _ _ (D + 1) _ _ (awk s) _ (s_next (aft T (m + 1) s)) _ S (rT_X XU H0) hT (rS_next HSU) (lm_up_eq.trans eD) (by rw [haw]; omega) (by omega) (awk_lt s) k1 k6 ha (nI_prd k)) ?_
      rintro _ _ ⟨hi2, rfl, rfl, F2⟩
      rw [hdc, agw_f]
      have D2 : hi2 b 14 = nI (D + 1) := by rw [F2 b (by omega), lm_up_eq, eD]
      show lm_wp _ 200 144 [.ref b, .int (nI kd), .int (nI a), .int (nI (k + 1)), .int (nI (awk s)), .long (stg s), lm_jk, .int ms, .int mk, .int (val T (awk s) (aft T (m + 1) s)), x10] [.int (agf T n kd a (k + 1) (s_next (aft T (m + 1) s))), .int (val T (awk s) (aft T (m + 1) s))] (hi2, hl, X) _
      refine w_N 4 149 [.ref b, .int (nI kd), .int (nI a), .int (nI (k + 1)), .int (nI (awk s)), .long (stg s), lm_jk, .int ms, .int mk, .int (val T (awk s) (aft T (m + 1) s)), .int ((val T (awk s) (aft T (m + 1) s)) + (agf T n kd a (k + 1) (s_next (aft T (m + 1) s))))] [.ref b, .ref b] rfl ?_
      refine w_gi (v := nI (D + 1)) rfl rfl rfl (M_kd S) (D2) ?_
      refine w_N 2 154 [.ref b, .int (nI kd), .int (nI a), .int (nI (k + 1)), .int (nI (awk s)), .long (stg s), lm_jk, .int ms, .int mk, .int (val T (awk s) (aft T (m + 1) s)), .int ((val T (awk s) (aft T (m + 1) s)) + (agf T n kd a (k + 1) (s_next (aft T (m + 1) s))))] [.int ((nI (D + 1)) - 1), .ref b] rfl ?_
      refine w_pi rfl rfl rfl rfl (M_kd S) (M_64 S) ?_
      refine w_N 2 160 [.ref b, .int (nI kd), .int (nI a), .int (nI (k + 1)), .int (nI (awk s)), .long (stg s), lm_jk, .int ms, .int mk, .int (val T (awk s) (aft T (m + 1) s)), .int ((val T (awk s) (aft T (m + 1) s)) + (agf T n kd a (k + 1) (s_next (aft T (m + 1) s))))] [.long (stg s), .ref b] rfl ?_
      refine w_ca (w_vst rfl rfl rfl (Nat.le_of_ble_eq_true rfl) (Nat.le_of_ble_eq_true rfl) (M_kd S)) (lm_w_dep (d := 0) (by omega) (m_putBack (s := s) S)) ?_
      rintro _ _ ⟨hi3, rfl, rfl, HS3, X3, D3⟩
      have D3a : hi3 b 14 = nI D := by rw [D3, lm_up_eq]; exact nI_prd D
      have F3 : fr (b + 36) (b + 49) hi' hi3 := rX_back XU F2 (rX_trans (rX_m rX_rfl (Or.inr rfl)) X3) (by omega) HS0 HS3 (by rw [D3a, HD0])
      show lm_wp _ 200 163 [.ref b, .int (nI kd), .int (nI a), .int (nI (k + 1)), .int (nI (awk s)), .long (stg s), lm_jk, .int ms, .int mk, .int (val T (awk s) (aft T (m + 1) s)), .int ((val T (awk s) (aft T (m + 1) s)) + (agf T n kd a (k + 1) (s_next (aft T (m + 1) s))))] [] (hi3, hl, X) _
      refine w_N 2 166 [.ref b, .int (nI kd), .int (nI a), .int (nI (k + 1)), .int (nI (awk s)), .long (stg s), lm_jk, .int ms, .int mk, .int (val T (awk s) (aft T (m + 1) s)), .int ((val T (awk s) (aft T (m + 1) s)) + (agf T n kd a (k + 1) (s_next (aft T (m + 1) s))))] [.int (-1), .int mk] rfl ?_
      refine w_icmp_eq_f (t := 176) rfl rfl hne ?_
      refine w_N 2 173 [.ref b, .int (nI kd), .int (nI a), .int (nI (k + 1)), .int (nI (awk s)), .long (stg s), lm_jk, .int ms, .int mk, .int (val T (awk s) (aft T (m + 1) s)), .int ((val T (awk s) (aft T (m + 1) s)) + (agf T n kd a (k + 1) (s_next (aft T (m + 1) s))))] [.int ms, .int ((val T (awk s) (aft T (m + 1) s)) + (agf T n kd a (k + 1) (s_next (aft T (m + 1) s))))] rfl ?_
      refine w_icmp_le (t := 181) rfl rfl (fun c2 => ?_) (fun c2 => ?_)
      · refine w_N 4 81 [.ref b, .int (nI kd), .int (nI a), .int (nI (k + 1)), .int (nI (awk s)), .long (stg s), lm_jk, .int ms, .int (mk + 1), .int (val T (awk s) (aft T (m + 1) s)), .int ((val T (awk s) (aft T (m + 1) s)) + (agf T n kd a (k + 1) (s_next (aft T (m + 1) s))))] [] rfl ?_
        have eb : agl T (agf T n kd a (k + 1)) s (m + 2) = mx (agl T (agf T n kd a (k + 1)) s (m + 1)) (val T (awk s) (aft T (m + 1) s) + agf T n kd a (k + 1) (s_next (aft T (m + 1) s))) := if_pos c1
        have em : mx (agl T (agf T n kd a (k + 1)) s (m + 1)) (val T (awk s) (aft T (m + 1) s) + agf T n kd a (k + 1) (s_next (aft T (m + 1) s))) = agl T (agf T n kd a (k + 1)) s (m + 1) := if_neg (by rw [← e1]; exact c2)
        exact ih (m + 1) hi3 _ _ _ _ (by omega) (by rw [eb, em]; exact e1) (by rw [e4, nI_succ]) (rT_fr F3 (by omega) H0) HS3 D3a (fr_trans F0 F3)
      · refine w_N 5 81 [.ref b, .int (nI kd), .int (nI a), .int (nI (k + 1)), .int (nI (awk s)), .long (stg s), lm_jk, .int ((val T (awk s) (aft T (m + 1) s)) + (agf T n kd a (k + 1) (s_next (aft T (m + 1) s)))), .int (mk + 1), .int (val T (awk s) (aft T (m + 1) s)), .int ((val T (awk s) (aft T (m + 1) s)) + (agf T n kd a (k + 1) (s_next (aft T (m + 1) s))))] [] rfl ?_
        have eb : agl T (agf T n kd a (k + 1)) s (m + 2) = mx (agl T (agf T n kd a (k + 1)) s (m + 1)) (val T (awk s) (aft T (m + 1) s) + agf T n kd a (k + 1) (s_next (aft T (m + 1) s))) := if_pos c1
        have em : mx (agl T (agf T n kd a (k + 1)) s (m + 1)) (val T (awk s) (aft T (m + 1) s) + agf T n kd a (k + 1) (s_next (aft T (m + 1) s))) = val T (awk s) (aft T (m + 1) s) + agf T n kd a (k + 1) (s_next (aft T (m + 1) s)) := if_pos (by rw [← e1]; exact c2)
        exact ih (m + 1) hi3 _ _ _ _ (by omega) (by rw [eb, em]) (by rw [e4, nI_succ]) (rT_fr F3 (by omega) H0) HS3 D3a (fr_trans F0 F3)
theorem AG_of {d k : Nat} (hk : k < 4) (hB : AG (d + 7) k) : AG (d + 8) (k + 1) := by
  intro hi hl X b n D kd a hf T s x S H hT HS HD hw hD hhf k1 k6 ha hx
  subst hx
  have hn10 := rTle H
  have hw2 := awk_lt s
  have hk0 : ¬ nI (k + 1) = 0 := fun z => by have := (nI_inj (a := k + 1) (b := 0) (by omega) (by omega)).mp z; omega
  have hch := chs_ok T n kd a s hn10
  refine lm_w_in (Nat.le_of_ble_eq_true rfl) ?_
  show lm_wp (d + 8) 200 0 [.ref b, .int (nI kd), .int (nI a), .int (nI (k + 1)), .int (nI hf), lm_jk, lm_jk, lm_jk, lm_jk, lm_jk, lm_jk] [] (hi, hl, X) _
  refine w_N 1 1 [.ref b, .int (nI kd), .int (nI a), .int (nI (k + 1)), .int (nI hf), lm_jk, lm_jk, lm_jk, lm_jk, lm_jk, lm_jk] [.int (nI (k + 1))] rfl ?_
  refine w_if_ne_t (t := 6) rfl rfl hk0 ?_
  refine w_N 1 7 [.ref b, .int (nI kd), .int (nI a), .int (nI (k + 1)), .int (nI hf), lm_jk, lm_jk, lm_jk, lm_jk, lm_jk, lm_jk] [.ref b] rfl ?_
  refine w_cc (w_vst rfl rfl rfl (Nat.le_of_ble_eq_true rfl) (Nat.le_of_ble_eq_true rfl) (M_kd S)) (m_standing S HS) ?_
  show lm_wp _ 200 10 [.ref b, .int (nI kd), .int (nI a), .int (nI (k + 1)), .int (nI hf), lm_jk, lm_jk, lm_jk, lm_jk, lm_jk, lm_jk] [.long (stg s)] (hi, hl, X) _
  refine w_N 2 13 [.ref b, .int (nI kd), .int (nI a), .int (nI (k + 1)), .int (nI hf), .long (stg s), lm_jk, lm_jk, lm_jk, lm_jk, lm_jk] [.ref b] rfl ?_
  refine w_gi (v := nI D) rfl rfl rfl (M_kd S) (HD) ?_
  refine w_N 1 17 [.ref b, .int (nI kd), .int (nI a), .int (nI (k + 1)), .int (nI hf), .long (stg s), lm_jk, lm_jk, lm_jk, lm_jk, lm_jk] [.int 2, .int (nI D)] rfl ?_
  refine w_rem rfl (by decide) ?_
  rw [hrem hw (by omega)]
  refine w_N 1 20 [.ref b, .int (nI kd), .int (nI a), .int (nI (k + 1)), .int (nI hf), .long (stg s), lm_jk, lm_jk, lm_jk, lm_jk, lm_jk] [.int (nI hf), .int (nI (awk s))] rfl ?_
  refine w_icmp_eq (t := 75) rfl rfl (fun c1 => ?_) (fun c1 => ?_)
  · refine w_N 4 81 [.ref b, .int (nI kd), .int (nI a), .int (nI (k + 1)), .int (nI hf), .long (stg s), lm_jk, .int 0, .int (-1), lm_jk, lm_jk] [] rfl ?_
    obtain rfl : awk s = hf := (nI_inj (by omega) (by omega)).mp c1
    refine w_N 2 84 [.ref b, .int (nI kd), .int (nI a), .int (nI (k + 1)), .int (nI (awk s)), .long (stg s), lm_jk, .int 0, .int (-1), lm_jk, lm_jk] [.ref b, .int (-1)] rfl ?_
    refine w_gi (v := nI n) rfl rfl rfl (M_kd S) (rTn H) ?_
    refine w_icmp_ge_f (t := 191) rfl rfl (aI_lt (i := 0) (by decide) (by omega) |>.mpr (by omega)) ?_
    refine w_N 2 93 [.ref b, .int (nI kd), .int (nI a), .int (nI (k + 1)), .int (nI (awk s)), .long (stg s), lm_jk, .int 0, .int (-1), lm_jk, lm_jk] [.int (-1), .int (-1)] rfl ?_
    refine w_icmp_eq_t (t := 107) rfl rfl (by decide) ?_
    refine w_N 2 110 [.ref b, .int (nI kd), .int (nI a), .int (nI (k + 1)), .int (nI (awk s)), .long (stg s), lm_jk, .int 0, .int (-1), lm_jk, lm_jk] [.int (-1), .ref b] rfl ?_
    refine w_ca (w_vst rfl rfl rfl (Nat.le_of_ble_eq_true rfl) (Nat.le_of_ble_eq_true rfl) (M_kd S)) (m_doIt (hf := awk s) (i := 0) S H HS hT rfl (Nat.zero_le n) rfl) ?_
    rintro _ _ ⟨hi1, rfl, rfl, HS1, X1, D1⟩
    have H1 := rT_X X1 H
    have D1a := D1.trans HD
    show lm_wp _ 200 113 [.ref b, .int (nI kd), .int (nI a), .int (nI (k + 1)), .int (nI (awk s)), .long (stg s), lm_jk, .int 0, .int (-1), lm_jk, lm_jk] [] (hi1, hl, X) _
    refine w_N 2 116 [.ref b, .int (nI kd), .int (nI a), .int (nI (k + 1)), .int (nI (awk s)), .long (stg s), lm_jk, .int 0, .int (-1), lm_jk, lm_jk] [.int (nI (awk s)), .ref b] rfl ?_
    refine w_cc (w_vst rfl rfl rfl (Nat.le_of_ble_eq_true rfl) (Nat.le_of_ble_eq_true rfl) (M_kd S)) (m_valueOfE (d := d + 6) S H1 HS1 rfl (awk_lt s)) ?_
    show lm_wp _ 200 119 [.ref b, .int (nI kd), .int (nI a), .int (nI (k + 1)), .int (nI (awk s)), .long (stg s), lm_jk, .int 0, .int (-1), lm_jk, lm_jk] [.int (val T (awk s) (aft T 0 s))] (hi1, hl, X) _
    refine w_N 3 123 [.ref b, .int (nI kd), .int (nI a), .int (nI (k + 1)), .int (nI (awk s)), .long (stg s), lm_jk, .int 0, .int (-1), .int (val T (awk s) (aft T 0 s)), lm_jk] [.ref b, .ref b] rfl ?_
    refine w_gi (v := nI D) rfl rfl rfl (M_kd S) (D1a) ?_
    refine w_N 2 128 [.ref b, .int (nI kd), .int (nI a), .int (nI (k + 1)), .int (nI (awk s)), .long (stg s), lm_jk, .int 0, .int (-1), .int (val T (awk s) (aft T 0 s)), lm_jk] [.int ((nI D) + 1), .ref b] rfl ?_
    refine w_pi rfl rfl rfl rfl (M_kd S) (M_64 S) ?_
    refine w_N 8 141 [.ref b, .int (nI kd), .int (nI a), .int (nI (k + 1)), .int (nI (awk s)), .long (stg s), lm_jk, .int 0, .int (-1), .int (val T (awk s) (aft T 0 s)), lm_jk] [.int (nI (awk s)), .int ((nI (k + 1)) - 1), .int (nI a), .int (nI kd), .ref b, .int (val T (awk s) (aft T 0 s))] rfl ?_
    have eD : (nI D + 1 : Int32) = nI (D + 1) := (nI_succ D).symm
    have haw : awk (s_next (aft T 0 s)) = 1 - awk s := by rw [awk_next, (aft_ok (hf := awk s) hT (Nat.zero_le n) rfl).2]
    have hdc : decide (awk (s_next (aft T 0 s)) = awk s) = false := decide_eq_false (by have := awk_lt s; omega)
    have XU := rX_m (v := nI D + 1) (k := 14) X1 (Or.inr rfl)
    have HSU : rS (lm_up hi1 b 14 (nI D + 1)) b (aft T 0 s) := ⟨by rw [lm_up_nk (by decide)]; exact HS1.1, fun c hc => by rw [lm_up_na (by omega)]; exact HS1.2 c hc⟩
    refine w_ca (w_vst rfl rfl rfl (Nat.le_of_ble_eq_true rfl) (Nat.le_of_ble_eq_true rfl) (M_kd S)) (hB _ _ _ _ _ (D + 1) _ _ (awk s) _ (s_next (aft T 0 s)) _ S (rT_X XU H) hT (rS_next HSU) (lm_up_eq.trans eD) (by rw [haw]; omega) (by omega) (awk_lt s) k1 k6 ha (nI_prd k)) ?_
    rintro _ _ ⟨hi2, rfl, rfl, F2⟩
    rw [hdc, agw_f]
    have D2 : hi2 b 14 = nI (D + 1) := by rw [F2 b (by omega), lm_up_eq, eD]
    show lm_wp _ 200 144 [.ref b, .int (nI kd), .int (nI a), .int (nI (k + 1)), .int (nI (awk s)), .long (stg s), lm_jk, .int 0, .int (-1), .int (val T (awk s) (aft T 0 s)), lm_jk] [.int (agf T n kd a (k + 1) (s_next (aft T 0 s))), .int (val T (awk s) (aft T 0 s))] (hi2, hl, X) _
    refine w_N 4 149 [.ref b, .int (nI kd), .int (nI a), .int (nI (k + 1)), .int (nI (awk s)), .long (stg s), lm_jk, .int 0, .int (-1), .int (val T (awk s) (aft T 0 s)), .int ((val T (awk s) (aft T 0 s)) + (agf T n kd a (k + 1) (s_next (aft T 0 s))))] [.ref b, .ref b] rfl ?_
    refine w_gi (v := nI (D + 1)) rfl rfl rfl (M_kd S) (D2) ?_
    refine w_N 2 154 [.ref b, .int (nI kd), .int (nI a), .int (nI (k + 1)), .int (nI (awk s)), .long (stg s), lm_jk, .int 0, .int (-1), .int (val T (awk s) (aft T 0 s)), .int ((val T (awk s) (aft T 0 s)) + (agf T n kd a (k + 1) (s_next (aft T 0 s))))] [.int ((nI (D + 1)) - 1), .ref b] rfl ?_
    refine w_pi rfl rfl rfl rfl (M_kd S) (M_64 S) ?_
    refine w_N 2 160 [.ref b, .int (nI kd), .int (nI a), .int (nI (k + 1)), .int (nI (awk s)), .long (stg s), lm_jk, .int 0, .int (-1), .int (val T (awk s) (aft T 0 s)), .int ((val T (awk s) (aft T 0 s)) + (agf T n kd a (k + 1) (s_next (aft T 0 s))))] [.long (stg s), .ref b] rfl ?_
    refine w_ca (w_vst rfl rfl rfl (Nat.le_of_ble_eq_true rfl) (Nat.le_of_ble_eq_true rfl) (M_kd S)) (lm_w_dep (d := 0) (by omega) (m_putBack (s := s) S)) ?_
    rintro _ _ ⟨hi3, rfl, rfl, HS3, X3, D3⟩
    have D3a : hi3 b 14 = nI D := by rw [D3, lm_up_eq]; exact nI_prd D
    have F3 : fr (b + 36) (b + 49) hi hi3 := rX_back XU F2 (rX_trans (rX_m rX_rfl (Or.inr rfl)) X3) (by omega) HS HS3 (by rw [D3a, HD])
    show lm_wp _ 200 163 [.ref b, .int (nI kd), .int (nI a), .int (nI (k + 1)), .int (nI (awk s)), .long (stg s), lm_jk, .int 0, .int (-1), .int (val T (awk s) (aft T 0 s)), .int ((val T (awk s) (aft T 0 s)) + (agf T n kd a (k + 1) (s_next (aft T 0 s))))] [] (hi3, hl, X) _
    refine w_N 2 166 [.ref b, .int (nI kd), .int (nI a), .int (nI (k + 1)), .int (nI (awk s)), .long (stg s), lm_jk, .int 0, .int (-1), .int (val T (awk s) (aft T 0 s)), .int ((val T (awk s) (aft T 0 s)) + (agf T n kd a (k + 1) (s_next (aft T 0 s))))] [.int (-1), .int (-1)] rfl ?_
    refine w_icmp_eq_t (t := 176) rfl rfl (by decide) ?_
    refine w_N 5 81 [.ref b, .int (nI kd), .int (nI a), .int (nI (k + 1)), .int (nI (awk s)), .long (stg s), lm_jk, .int ((val T (awk s) (aft T 0 s)) + (agf T n kd a (k + 1) (s_next (aft T 0 s)))), .int 0, .int (val T (awk s) (aft T 0 s)), .int ((val T (awk s) (aft T 0 s)) + (agf T n kd a (k + 1) (s_next (aft T 0 s))))] [] rfl ?_
    refine m_ma1 (hi := hi) (k := k) S hT hw (by omega) hk k1 k6 ha hB (fun hi4 c ms x9 x10 F4 q0 => ?_) n 0 hi3 _ _ _ _ (by omega) (agl_1 hT (by omega)).symm rfl (rT_fr F3 (by omega) H) HS3 D3a F3
    refine w_N 1 193 _ [.int ms] rfl ?_
    refine w_ri rfl rfl ?_
    refine ⟨hi4, ?_, rfl, F4⟩
    rw [q0, decide_eq_true (show awk s = awk s from rfl)]
    unfold agw
    rw [if_pos rfl, if_neg (by omega), ags_eq]
  · refine w_N 4 27 [.ref b, .int (nI kd), .int (nI a), .int (nI (k + 1)), .int (nI hf), .long (stg s), lm_jk, lm_jk, lm_jk, lm_jk, lm_jk] [.int (nI a), .int (nI kd), .ref b, .ref b] rfl ?_
    refine w_ca (w_vst rfl rfl rfl (Nat.le_of_ble_eq_true rfl) (Nat.le_of_ble_eq_true rfl) (M_kd S)) (m_chosen (d := d) (kd := kd) S H HS hT HD hw (by omega) ha k1 k6 rfl rfl) ?_
    rintro _ _ ⟨hi0, rfl, rfl, F0⟩
    have H0 := rT_fr F0 (by omega) H
    have HS0 := rS_fr F0 (by omega) HS
    have HD0 : hi0 b 14 = nI D := by rw [F0 b (by omega)]; exact HD
    show lm_wp _ 200 30 [.ref b, .int (nI kd), .int (nI a), .int (nI (k + 1)), .int (nI hf), .long (stg s), lm_jk, lm_jk, lm_jk, lm_jk, lm_jk] [.int (aI (chs T n kd a s)), .ref b] (hi0, hl, X) _
    refine w_ca (w_vst rfl rfl rfl (Nat.le_of_ble_eq_true rfl) (Nat.le_of_ble_eq_true rfl) (M_kd S)) (m_doIt (hf := awk s) (i := chs T n kd a s) S H0 HS0 hT rfl hch.1 hch.2) ?_
    rintro _ _ ⟨hi1, rfl, rfl, HS1, X1, D1⟩
    have H1 := rT_X X1 H0
    have D1a := D1.trans HD0
    show lm_wp _ 200 33 [.ref b, .int (nI kd), .int (nI a), .int (nI (k + 1)), .int (nI hf), .long (stg s), lm_jk, lm_jk, lm_jk, lm_jk, lm_jk] [] (hi1, hl, X) _
    refine w_N 2 35 [.ref b, .int (nI kd), .int (nI a), .int (nI (k + 1)), .int (nI hf), .long (stg s), lm_jk, lm_jk, lm_jk, lm_jk, lm_jk] [.ref b, .ref b] rfl ?_
    refine w_gi (v := nI D) rfl rfl rfl (M_kd S) (D1a) ?_
    refine w_N 2 40 [.ref b, .int (nI kd), .int (nI a), .int (nI (k + 1)), .int (nI hf), .long (stg s), lm_jk, lm_jk, lm_jk, lm_jk, lm_jk] [.int ((nI D) + 1), .ref b] rfl ?_
    refine w_pi rfl rfl rfl rfl (M_kd S) (M_64 S) ?_
    refine w_N 7 51 [.ref b, .int (nI kd), .int (nI a), .int (nI (k + 1)), .int (nI hf), .long (stg s), lm_jk, lm_jk, lm_jk, lm_jk, lm_jk] [.int (nI hf), .int ((nI (k + 1)) - 1), .int (nI a), .int (nI kd), .ref b] rfl ?_
    have eD : (nI D + 1 : Int32) = nI (D + 1) := (nI_succ D).symm
    have haw : awk (s_next (aft T (chs T n kd a s) s)) = 1 - awk s := by rw [awk_next, (aft_ok (hf := awk s) hT hch.1 hch.2).2]
    have hne : awk s ≠ hf := fun z => c1 (by rw [z])
    have hdc : decide (awk (s_next (aft T (chs T n kd a s) s)) = hf) = true := decide_eq_true (by omega)
    have hdd : decide (awk s = hf) = false := decide_eq_false hne
    have XU := rX_m (v := nI D + 1) (k := 14) X1 (Or.inr rfl)
    have HSU : rS (lm_up hi1 b 14 (nI D + 1)) b (aft T (chs T n kd a s) s) := ⟨by rw [lm_up_nk (by decide)]; exact HS1.1, fun c hc => by rw [lm_up_na (by omega)]; exact HS1.2 c hc⟩
    refine w_ca (w_vst rfl rfl rfl (Nat.le_of_ble_eq_true rfl) (Nat.le_of_ble_eq_true rfl) (M_kd S)) (hB _ _ _ _ _ (D + 1) _ _ hf _ (s_next (aft T (chs T n kd a s) s)) _ S (rT_X XU H0) hT (rS_next HSU) (lm_up_eq.trans eD) (by rw [haw]; omega) (by omega) hhf k1 k6 ha (nI_prd k)) ?_
    rintro _ _ ⟨hi2, rfl, rfl, F2⟩
    rw [hdc]
    have D2 : hi2 b 14 = nI (D + 1) := by rw [F2 b (by omega), lm_up_eq, eD]
    show lm_wp _ 200 54 [.ref b, .int (nI kd), .int (nI a), .int (nI (k + 1)), .int (nI hf), .long (stg s), lm_jk, lm_jk, lm_jk, lm_jk, lm_jk] [.int (agw T n kd a k true (s_next (aft T (chs T n kd a s) s)))] (hi2, hl, X) _
    refine w_N 3 58 [.ref b, .int (nI kd), .int (nI a), .int (nI (k + 1)), .int (nI hf), .long (stg s), lm_jk, .int (agw T n kd a k true (s_next (aft T (chs T n kd a s) s))), lm_jk, lm_jk, lm_jk] [.ref b, .ref b] rfl ?_
    refine w_gi (v := nI (D + 1)) rfl rfl rfl (M_kd S) (D2) ?_
    refine w_N 2 63 [.ref b, .int (nI kd), .int (nI a), .int (nI (k + 1)), .int (nI hf), .long (stg s), lm_jk, .int (agw T n kd a k true (s_next (aft T (chs T n kd a s) s))), lm_jk, lm_jk, lm_jk] [.int ((nI (D + 1)) - 1), .ref b] rfl ?_
    refine w_pi rfl rfl rfl rfl (M_kd S) (M_64 S) ?_
    refine w_N 2 69 [.ref b, .int (nI kd), .int (nI a), .int (nI (k + 1)), .int (nI hf), .long (stg s), lm_jk, .int (agw T n kd a k true (s_next (aft T (chs T n kd a s) s))), lm_jk, lm_jk, lm_jk] [.long (stg s), .ref b] rfl ?_
    refine w_ca (w_vst rfl rfl rfl (Nat.le_of_ble_eq_true rfl) (Nat.le_of_ble_eq_true rfl) (M_kd S)) (lm_w_dep (d := 0) (by omega) (m_putBack (s := s) S)) ?_
    rintro _ _ ⟨hi3, rfl, rfl, HS3, X3, D3⟩
    have D3a : hi3 b 14 = nI D := by rw [D3, lm_up_eq]; exact nI_prd D
    have F3 : fr (b + 36) (b + 49) hi0 hi3 := rX_back XU F2 (rX_trans (rX_m rX_rfl (Or.inr rfl)) X3) (by omega) HS0 HS3 (by rw [D3a, HD0])
    show lm_wp _ 200 72 [.ref b, .int (nI kd), .int (nI a), .int (nI (k + 1)), .int (nI hf), .long (stg s), lm_jk, .int (agw T n kd a k true (s_next (aft T (chs T n kd a s) s))), lm_jk, lm_jk, lm_jk] [] (hi3, hl, X) _
    refine w_N 1 74 [.ref b, .int (nI kd), .int (nI a), .int (nI (k + 1)), .int (nI hf), .long (stg s), lm_jk, .int (agw T n kd a k true (s_next (aft T (chs T n kd a s) s))), lm_jk, lm_jk, lm_jk] [.int (agw T n kd a k true (s_next (aft T (chs T n kd a s) s)))] rfl ?_
    refine w_ri rfl rfl ?_
    refine ⟨hi3, ?_, rfl, fr_trans F0 F3⟩
    rw [hdd, agw_o]
    rfl
theorem AG_all : ∀ k d, k < 5 → AG (d + k + 8) k := by
  intro k
  induction k with
  | zero => intro d _; exact AG_0
  | succ k ih => intro d h; exact AG_of (d := d + k + 1) (by omega) (ih d (by omega))
theorem m_mostAgainst {d : Nat} {hi : Nat → Nat → Int32} {hl : Nat → Nat → Int64} {X : lm_X} {b n D : Nat} {T : lm_T} {s : Int32} (S : sh_M X b) (H : rT hi b T n) (HS : rS hi b s) (hT : okT T n) {k kd a hf : Nat} {x y z w : Int32} (HD : hi b 14 = nI D) (hw : awk s = D % 2) (hD : D + 10 < 2147483648) (h1 : 1 ≤ k) (h4 : k ≤ 4) (k1 : 1 ≤ kd) (k6 : kd ≤ 6) (ha : a ≤ 99) (hz : z = nI kd) (hq : w = nI a) (hx : x = nI k) (hy : y = nI (awk s)) : lm_w (d + 12) 200 [.ref b, .int z, .int w, .int x, .int y] (hi, hl, X) (fun v h1 => ∃ hi', v = some (.int (ags T n kd a k s)) ∧ h1 = (hi', hl, X) ∧ fr (b + 36) (b + 49) hi hi') := by
  subst hz hq hx hy
  refine lm_w_mono (lm_w_dep (d := d + k + 8) (by omega) (AG_all k d (by omega) _ _ _ _ _ D _ _ (awk s) _ _ _ S H hT HS HD hw (by omega) (awk_lt s) k1 k6 ha rfl)) ?_
  rintro v h ⟨hi', rfl, rfl, F⟩
  refine ⟨hi', ?_, rfl, F⟩
  rw [decide_eq_true (show awk s = awk s from rfl)]
  unfold agw
  rw [if_pos rfl, if_neg (by omega)]
