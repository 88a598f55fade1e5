set_option maxRecDepth 16384
/-! town() -/
theorem lm_c_det {d f : Nat} {as : List Value} {h : lm_H} {r r' : Option Value × lm_H} (h1 : lm_c d f as h r) (h2 : lm_c d f as h r') : r = r' := by
  obtain ⟨-, n, hn⟩ := h1
  obtain ⟨-, m, hm⟩ := h2
  have q1 := lm_ex_le2 (Nat.le_max_left n m) hn
  have q2 := lm_ex_le2 (Nat.le_max_right n m) hm
  rw [q1] at q2
  cases q2
  rfl
theorem lm_w_and {d f : Nat} {as : List Value} {h : lm_H} {P Q : Option Value → lm_H → Prop} (h1 : lm_w d f as h P) (h2 : lm_w d f as h Q) : lm_w d f as h (fun v h1 => P v h1 ∧ Q v h1) := by
  obtain ⟨v, k, c, p⟩ := h1
  obtain ⟨v', k', c', q⟩ := h2
  have e := lm_c_det c c'
  cases e
  exact ⟨v, k, c, p, q⟩
theorem m_tf1_ {d : Nat} {hi : Nat → Nat → Int32} {hl : Nat → Nat → Int64} {X : lm_X} {b q : Nat} (S : sh_M X b) (S2 : sh_M X q) (hd : b + 49 ≤ q ∨ q + 49 ≤ b) {P : Option Value → lm_H → Prop} (k : ∀ (mk : Int32) (hi' : Nat → Nat → Int32), fr (b + 19) (b + 29) hi hi' → (∀ a, a < 10 → ∀ k, k < 7 → hi' (b + (19 + a)) k = hi (q + (19 + a)) k) → lm_wp (d + 1) 222 37 [.ref b, .ref q, .int mk] [] (hi', hl, X) P) : ∀ (j m : Nat) (hi' : Nat → Nat → Int32) (mk : Int32), m + j = 10 → (mk = nI m) → (fr (b + 19) (b + 29) hi hi') → (∀ a, a < m → ∀ k, k < 7 → hi' (b + (19 + a)) k = hi (q + (19 + a)) k) → lm_wp (d + 1) 222 10 [.ref b, .ref q, .int mk] [] (hi', hl, X) P := by
  intro j
  induction j with
  | zero =>
    intro m hi' mk hm e2 F0 J0
    refine w_N 2 13 [.ref b, .ref q, .int mk] [.int 10, .int mk] rfl ?_
    refine w_icmp_ge_t (t := 37) rfl rfl (by rw [e2, show m = 10 by omega]; decide) ?_
    obtain rfl : m = 10 := by omega
    exact k _ hi' F0 J0
  | succ j ih =>
    intro m hi' mk hm e2 F0 J0
    refine w_N 2 13 [.ref b, .ref q, .int mk] [.int 10, .int mk] rfl ?_
    refine w_icmp_ge_f (t := 37) rfl rfl (by rw [e2]; exact nI_lt (b := 10) (by omega) (by decide)) ?_
    refine w_N 1 17 [.ref b, .ref q, .int mk] [.ref q] rfl ?_
    refine w_gr (q + 18) rfl rfl rfl (M_kd S2) (M_r S2 (k := 11) (o := 18) rfl) ?_
    refine w_N 1 21 [.ref b, .ref q, .int mk] [.int mk, .ref (q + 18)] rfl ?_
    refine w_aa m (q + (19 + m)) rfl (M_kk S2 (o := 18) (by decide)) (show X.2.2.1 (q + 18) = 10 from M_l S2 18 (by decide)) e2 (by omega) (by decide) (M_acr S2 (by omega)) ?_
    refine w_N 1 23 [.ref b, .ref q, .int mk] [.ref b, .ref (q + (19 + m))] rfl ?_
    refine w_gr (b + 18) rfl rfl rfl (M_kd S) (M_r S (k := 11) (o := 18) rfl) ?_
    refine w_N 1 27 [.ref b, .ref q, .int mk] [.int mk, .ref (b + 18), .ref (q + (19 + m))] rfl ?_
    refine w_aa m (b + (19 + m)) rfl (M_kk S (o := 18) (by decide)) (show X.2.2.1 (b + 18) = 10 from M_l S 18 (by decide)) e2 (by omega) (by decide) (M_acr S (by omega)) ?_
    refine w_ca rfl (m_overW (N := 7) (M_ack S2 (by omega)) (M_ack S (by omega)) (M_acl S2 (by omega)) (M_acl S (by omega)) (by have := M_64 S; omega) (by omega) (by decide)) ?_
    rintro _ _ ⟨hi2, rfl, rfl, A2, B2⟩
    show lm_wp _ 222 31 [.ref b, .ref q, .int mk] [] (hi2, hl, X) _
    refine w_N 2 10 [.ref b, .ref q, .int (mk + 1)] [] rfl ?_
    refine ih (m + 1) hi2 _ (by omega) (by rw [e2, nI_succ]) (fun a ha => (B2 a (by omega)).trans (F0 a ha)) (fun a ha k hk => ?_)
    by_cases h : a = m
    · subst h; rw [A2 k hk, F0 _ (by omega)]
    · rw [B2 _ (by omega)]; exact J0 a (by omega) k hk
theorem m_tf28 {d : Nat} {hi : Nat → Nat → Int32} {hl : Nat → Nat → Int64} {X : lm_X} {b q n : Nat} {T : lm_T} {R : Nat → Int32} (S : sh_M X b) (S2 : sh_M X q) (H : rT hi q T n) (HR : rR hi q R) (hk : R 15 = 0 ∨ R 15 = 1) (hd : b + 49 ≤ q ∨ q + 49 ≤ b) : lm_w (d + 1) 222 [.ref b, .ref q] (hi, hl, X) (fun v h1 => ∃ hi', v = none ∧ h1 = (hi', hl, X) ∧ hi' b 28 = hi b 28) := by
  refine lm_w_in (Nat.le_of_ble_eq_true rfl) ?_
  show lm_wp (d + 1) 222 0 [.ref b, .ref q, lm_jk] [] (hi, hl, X) _
  refine w_N 2 2 [.ref b, .ref q, lm_jk] [.ref q, .ref b] rfl ?_
  refine w_gi (v := nI n) rfl rfl rfl (M_kd S2) (rTn H) ?_
  refine w_pi rfl rfl rfl rfl (M_kd S) (M_64 S) ?_
  refine w_N 2 10 [.ref b, .ref q, .int 0] [] rfl ?_
  refine m_tf1_ (hi := lm_up hi b 10 (nI n)) S S2 hd (fun mk h0 E0 J0 => ?_) 10 0 _ _ rfl rfl fr_rfl (fun a ha => by omega)
  refine w_N 2 39 [.ref b, .ref q, .int mk] [.ref q, .ref b] rfl ?_
  refine w_gi (v := s_marks (R 10)) rfl rfl rfl (M_kd S2) ((congrFun (E0 q (by omega)) _).trans ((lm_up_na (by omega)).trans (HR.1.1))) ?_
  refine w_pi rfl rfl rfl rfl (M_kd S) (M_64 S) ?_
  refine w_N 1 46 [.ref b, .ref q, .int mk] [.ref q] rfl ?_
  refine w_gr (q + 29) rfl rfl rfl (M_kd S2) (M_r S2 (k := 13) (o := 29) rfl) ?_
  refine w_N 1 50 [.ref b, .ref q, .int mk] [.ref b, .ref (q + 29)] rfl ?_
  refine w_gr (b + 29) rfl rfl rfl (M_kd S) (M_r S (k := 13) (o := 29) rfl) ?_
  refine w_ca rfl (m_overW (N := 4) (show X.2.1 (q + 29) = 1 from M_k S2 29 (by decide)) (show X.2.1 (b + 29) = 1 from M_k S 29 (by decide)) (show X.2.2.1 (q + 29) = 4 from M_l S2 29 (by decide)) (show X.2.2.1 (b + 29) = 4 from M_l S 29 (by decide)) (by have := M_64 S; omega) (by omega) (by decide)) ?_
  rintro _ _ ⟨hk1, rfl, rfl, A1, B1⟩
  show lm_wp _ 222 56 [.ref b, .ref q, .int mk] [] (hk1, hl, X) _
  refine w_N 2 58 [.ref b, .ref q, .int mk] [.ref q, .ref b] rfl ?_
  refine w_gi (v := R 12) rfl rfl rfl (M_kd S2) ((congrFun (B1 _ (by omega)) _).trans ((lm_up_na (by omega)).trans ((congrFun (E0 q (by omega)) _).trans ((lm_up_na (by omega)).trans (HR.2.2.1))))) ?_
  refine w_pi rfl rfl rfl rfl (M_kd S) (M_64 S) ?_
  refine w_N 2 66 [.ref b, .ref q, .int mk] [.ref q, .ref b] rfl ?_
  refine w_gi (v := R 11) rfl rfl rfl (M_kd S2) ((lm_up_na (by omega)).trans ((congrFun (B1 _ (by omega)) _).trans ((lm_up_na (by omega)).trans ((congrFun (E0 q (by omega)) _).trans ((lm_up_na (by omega)).trans (HR.2.1)))))) ?_
  refine w_pi rfl rfl rfl rfl (M_kd S) (M_64 S) ?_
  refine w_N 1 73 [.ref b, .ref q, .int mk] [.ref q] rfl ?_
  refine w_gr (q + 30) rfl rfl rfl (M_kd S2) (M_r S2 (k := 16) (o := 30) rfl) ?_
  refine w_N 1 77 [.ref b, .ref q, .int mk] [.int 0, .ref (q + 30)] rfl ?_
  refine w_aa 0 (q + 31) rfl (M_kk S2 (o := 30) (by decide)) (show X.2.2.1 (q + 30) = 2 from M_l S2 30 (by decide)) rfl (by decide) (by decide) (M_wor S2 (by decide)) ?_
  refine w_N 1 79 [.ref b, .ref q, .int mk] [.ref b, .ref (q + 31)] rfl ?_
  refine w_gr (b + 30) rfl rfl rfl (M_kd S) (M_r S (k := 16) (o := 30) rfl) ?_
  refine w_N 1 83 [.ref b, .ref q, .int mk] [.int 0, .ref (b + 30), .ref (q + 31)] rfl ?_
  refine w_aa 0 (b + 31) rfl (M_kk S (o := 30) (by decide)) (show X.2.2.1 (b + 30) = 2 from M_l S 30 (by decide)) rfl (by decide) (by decide) (M_wor S (by decide)) ?_
  refine w_ca rfl (m_overW (N := 12) (show X.2.1 (q + 31) = 1 from M_k S2 31 (by decide)) (show X.2.1 (b + 31) = 1 from M_k S 31 (by decide)) (show X.2.2.1 (q + 31) = 12 from M_l S2 31 (by decide)) (show X.2.2.1 (b + 31) = 12 from M_l S 31 (by decide)) (by have := M_64 S; omega) (by omega) (by decide)) ?_
  rintro _ _ ⟨hk2, rfl, rfl, A2, B2⟩
  show lm_wp _ 222 87 [.ref b, .ref q, .int mk] [] (hk2, hl, X) _
  refine w_N 1 88 [.ref b, .ref q, .int mk] [.ref q] rfl ?_
  refine w_gr (q + 30) rfl rfl rfl (M_kd S2) (M_r S2 (k := 16) (o := 30) rfl) ?_
  refine w_N 1 92 [.ref b, .ref q, .int mk] [.int 1, .ref (q + 30)] rfl ?_
  refine w_aa 1 (q + 32) rfl (M_kk S2 (o := 30) (by decide)) (show X.2.2.1 (q + 30) = 2 from M_l S2 30 (by decide)) rfl (by decide) (by decide) (M_wor S2 (by decide)) ?_
  refine w_N 1 94 [.ref b, .ref q, .int mk] [.ref b, .ref (q + 32)] rfl ?_
  refine w_gr (b + 30) rfl rfl rfl (M_kd S) (M_r S (k := 16) (o := 30) rfl) ?_
  refine w_N 1 98 [.ref b, .ref q, .int mk] [.int 1, .ref (b + 30), .ref (q + 32)] rfl ?_
  refine w_aa 1 (b + 32) rfl (M_kk S (o := 30) (by decide)) (show X.2.2.1 (b + 30) = 2 from M_l S 30 (by decide)) rfl (by decide) (by decide) (M_wor S (by decide)) ?_
  refine w_ca rfl (m_overW (N := 12) (show X.2.1 (q + 32) = 1 from M_k S2 32 (by decide)) (show X.2.1 (b + 32) = 1 from M_k S 32 (by decide)) (show X.2.2.1 (q + 32) = 12 from M_l S2 32 (by decide)) (show X.2.2.1 (b + 32) = 12 from M_l S 32 (by decide)) (by have := M_64 S; omega) (by omega) (by decide)) ?_
  rintro _ _ ⟨hk3, rfl, rfl, A3, B3⟩
  show lm_wp _ 222 102 [.ref b, .ref q, .int mk] [] (hk3, hl, X) _
  refine w_N 1 103 [.ref b, .ref q, .int mk] [.ref q] rfl ?_
  refine w_gr (q + 33) rfl rfl rfl (M_kd S2) (M_r S2 (k := 17) (o := 33) rfl) ?_
  refine w_N 1 107 [.ref b, .ref q, .int mk] [.ref b, .ref (q + 33)] rfl ?_
  refine w_gr (b + 33) rfl rfl rfl (M_kd S) (M_r S (k := 17) (o := 33) rfl) ?_
  refine w_ca rfl (m_overW (N := 2) (show X.2.1 (q + 33) = 1 from M_k S2 33 (by decide)) (show X.2.1 (b + 33) = 1 from M_k S 33 (by decide)) (show X.2.2.1 (q + 33) = 2 from M_l S2 33 (by decide)) (show X.2.2.1 (b + 33) = 2 from M_l S 33 (by decide)) (by have := M_64 S; omega) (by omega) (by decide)) ?_
  rintro _ _ ⟨hk4, rfl, rfl, A4, B4⟩
  show lm_wp _ 222 113 [.ref b, .ref q, .int mk] [] (hk4, hl, X) _
  refine w_N 2 115 [.ref b, .ref q, .int mk] [.ref q, .ref b] rfl ?_
  refine w_gi (v := R 15) rfl rfl rfl (M_kd S2) ((congrFun (B4 _ (by omega)) _).trans ((congrFun (B3 _ (by omega)) _).trans ((congrFun (B2 _ (by omega)) _).trans ((lm_up_na (by omega)).trans ((lm_up_na (by omega)).trans ((congrFun (B1 _ (by omega)) _).trans ((lm_up_na (by omega)).trans ((congrFun (E0 q (by omega)) _).trans ((lm_up_na (by omega)).trans (HR.2.2.2.2.2.1)))))))))) ?_
  refine w_pb rfl rfl rfl rfl (M_kd S) (M_64 S) (by first | assumption | exact bz_or _) ?_
  refine w_N 2 123 [.ref b, .ref q, .int mk] [.ref q, .ref b] rfl ?_
  refine w_gi (v := hi q 19) rfl rfl rfl (M_kd S2) ((lm_up_na (by omega)).trans ((congrFun (B4 _ (by omega)) _).trans ((congrFun (B3 _ (by omega)) _).trans ((congrFun (B2 _ (by omega)) _).trans ((lm_up_na (by omega)).trans ((lm_up_na (by omega)).trans ((congrFun (B1 _ (by omega)) _).trans ((lm_up_na (by omega)).trans ((congrFun (E0 q (by omega)) _).trans ((lm_up_na (by omega)).trans (rfl))))))))))) ?_
  refine w_pi rfl rfl rfl rfl (M_kd S) (M_64 S) ?_
  refine w_N 1 130 [.ref b, .ref q, .int mk] [.ref q] rfl ?_
  refine w_gr (q + 34) rfl rfl rfl (M_kd S2) (M_r S2 (k := 20) (o := 34) rfl) ?_
  refine w_N 1 134 [.ref b, .ref q, .int mk] [.ref b, .ref (q + 34)] rfl ?_
  refine w_gr (b + 34) rfl rfl rfl (M_kd S) (M_r S (k := 20) (o := 34) rfl) ?_
  refine w_ca rfl (m_overW (N := 4) (show X.2.1 (q + 34) = 1 from M_k S2 34 (by decide)) (show X.2.1 (b + 34) = 1 from M_k S 34 (by decide)) (show X.2.2.1 (q + 34) = 4 from M_l S2 34 (by decide)) (show X.2.2.1 (b + 34) = 4 from M_l S 34 (by decide)) (by have := M_64 S; omega) (by omega) (by decide)) ?_
  rintro _ _ ⟨hk5, rfl, rfl, A5, B5⟩
  show lm_wp _ 222 140 [.ref b, .ref q, .int mk] [] (hk5, hl, X) _
  refine w_N 2 142 [.ref b, .ref q, .int mk] [.ref q, .ref b] rfl ?_
  refine w_gi (v := R 13) rfl rfl rfl (M_kd S2) ((congrFun (B5 _ (by omega)) _).trans ((lm_up_na (by omega)).trans ((lm_up_na (by omega)).trans ((congrFun (B4 _ (by omega)) _).trans ((congrFun (B3 _ (by omega)) _).trans ((congrFun (B2 _ (by omega)) _).trans ((lm_up_na (by omega)).trans ((lm_up_na (by omega)).trans ((congrFun (B1 _ (by omega)) _).trans ((lm_up_na (by omega)).trans ((congrFun (E0 q (by omega)) _).trans ((lm_up_na (by omega)).trans (HR.2.2.2.1))))))))))))) ?_
  refine w_pi rfl rfl rfl rfl (M_kd S) (M_64 S) ?_
  refine w_rv rfl rfl ?_
  refine ⟨_, rfl, rfl, ?_⟩
  exact (lm_up_nk (by decide)).trans ((congrFun (B5 _ (by omega)) _).trans ((lm_up_nk (by decide)).trans ((lm_up_nk (by decide)).trans ((congrFun (B4 _ (by omega)) _).trans ((congrFun (B3 _ (by omega)) _).trans ((congrFun (B2 _ (by omega)) _).trans ((lm_up_nk (by decide)).trans ((lm_up_nk (by decide)).trans ((congrFun (B1 _ (by omega)) _).trans ((lm_up_nk (by decide)).trans ((congrFun (E0 b (by omega)) _).trans (lm_up_nk (by decide)))))))))))))
section
variable {hi0 hi hi' : Nat → Nat → Int32} {hl0 hl : Nat → Nat → Int64} {X0 X : lm_X} {C n n' ts : Nat} {T T' : lm_T} {R R' : Nat → Int32} {KO : ab_K} {V : ab_V} {tl F : Nat → Int32}
theorem cP_rd (P : cP hi0 hl0 hi hl X C T n R KO V ts tl F) (f : fr 85 96 hi hi') : cP hi0 hl0 (lm_up hi' 95 1 0) hl X C T n R KO V 0 tl F := by
  obtain ⟨S, O, H, HR, FO, HV, HT, HF, HK, E, EL⟩ := P
  have g : fr 85 96 hi (lm_up hi' 95 1 0) := fr_up f (by decide)
  exact ⟨S, olP_fr g (by decide) O, isT_fr g (by decide) H, isR_fr g (by decide) HR, fok_fr g (by decide) FO, cV_fr g (by decide) HV, ⟨lm_up_eq, fun i hj => by omega⟩, fun k hk => by rw [g 106 (by decide)]; exact HF k hk, cK_fr g (by decide) HK, fr_trans E (fr_mono g (by decide)), EL⟩
theorem mP_rd (P : mP hi0 hl0 X0 hi hl X T n R KO V ts tl F) (f : ∀ a, (a < 123 ∨ 172 ≤ a ∨ (124 ≤ a ∧ a < 141)) → hi' a = hi a) (h8 : hi' 123 8 = 0) (H' : rT hi' 123 T' n') (HR' : rR hi' 123 R') : mP hi0 hl0 X0 hi' hl X T' n' R' KO V 0 tl F := by
  obtain ⟨SR, O, H, HR, HV, HT, HF, HK, E, EL, EX⟩ := P
  have g : fr 123 172 hi hi' := fun a ha => f a (by omega)
  exact ⟨SR, olP_fr g (by decide) O, H', HR', mV_f (fun a h1 h2 => f a (by omega)) HV, ⟨h8, fun i hj => by omega⟩, fun k hk => by rw [f 140 (by decide)]; exact HF k hk, mK_fr g (by decide) HK, fr_trans E (fr_mono g (by decide)), EL, EX⟩
end
theorem x_town_f {hi : Nat → Nat → Int32} {hl : Nat → Nat → Int64} {X : lm_X} {hi0 : Nat → Nat → Int32} {hl0 : Nat → Nat → Int64} {C n ts : Nat} {T : lm_T} {R : Nat → Int32} {KO : ab_K} {V : ab_V} {tl F : Nat → Int32} (P : cP hi0 hl0 hi hl X C T n R KO V ts tl F) {B D : Nat} (Z : okZ B D T n R KO V ts tl) {f : Nat} (hr : ∀ hi hl X, sh_A X → olP hi X → isT hi 85 T n → isR hi 85 R → hi 95 1 = nI ts → (∀ i, i < ts → hi 96 i = tl i) → lm_w 31 38 [.ref 95, .ref 85] (hi, hl, X) (rdF hi hl X f)) (hC : C + 25 < 2147483648) : lm_w 32 97 [.ref 64] (hi, hl, X) (cQ hi0 hl0 X (C + 25) (.int ((-20) - nI f)) T n R KO V 0 tl (rfU F (-2))) := by
  obtain ⟨S, O, H, HR, FO, HV, HT, HF, HK, E0, EL0⟩ := id P
  obtain ⟨hT, hO, hV, hts, htl, hDB, hB0, hKO⟩ := id Z
  refine lm_w_in (Nat.le_of_ble_eq_true rfl) ?_
  show lm_wp 32 97 0 [.ref 64, lm_jk, lm_jk] [] (hi, hl, X) _
  refine w_N 1 1 [.ref 64, lm_jk, lm_jk] [.ref 64] rfl ?_
  refine w_gr 85 rfl rfl rfl (A_k S 64 (by decide)) (A_r S 64 2 (by decide)) ?_
  refine w_N 1 5 [.ref 64, lm_jk, lm_jk] [.ref 64, .ref 85] rfl ?_
  refine w_gr 65 rfl rfl rfl (A_k S 64 (by decide)) (A_r S 64 0 (by decide)) ?_
  refine w_ca (w_vst rfl rfl rfl (Nat.le_of_ble_eq_true rfl) (Nat.le_of_ble_eq_true rfl) (T_kd (A_T85 S))) (t_become (d := 31) (A_T85 S) (A_T65 S) H HR hO.2.2.2.2.1 (by decide)) ?_
  rintro _ _ ⟨h5x, rfl, rfl, H5, R5, c5, f5⟩
  have P := cP_draft P f5
  obtain ⟨S, O, H, HR, FO, HV, HT, HF, HK, E0, EL0⟩ := id P
  show lm_wp _ 97 11 [.ref 64, lm_jk, lm_jk] [] (h5x, hl, X) _
  refine w_N 1 12 [.ref 64, lm_jk, lm_jk] [.ref 64] rfl ?_
  refine w_gr 95 rfl rfl rfl (A_k S 64 (by decide)) (A_r S 64 4 (by decide)) ?_
  refine w_N 1 16 [.ref 64, lm_jk, lm_jk] [.ref 64, .ref 95] rfl ?_
  refine w_gr 85 rfl rfl rfl (A_k S 64 (by decide)) (A_r S 64 2 (by decide)) ?_
  refine w_ca (w_vst rfl rfl rfl (Nat.le_of_ble_eq_true rfl) (Nat.le_of_ble_eq_true rfl) (A_k S 95 (by decide))) (hr _ _ _ S O H5 R5 HT.1 HT.2) ?_
  rintro _ _ ⟨rfl, h6x, rfl, F6, k6⟩
  show lm_wp _ 97 22 [.ref 64, lm_jk, lm_jk] [.int (-1)] (h6x, hl, X) _
  refine w_N 2 24 [.ref 64, .int (-1), lm_jk] [.ref 64] rfl ?_
  refine w_gr 95 rfl rfl rfl (A_k S 64 (by decide)) (A_r S 64 4 (by decide)) ?_
  refine w_gi (v := nI f) rfl rfl rfl (A_k S 95 (by decide)) (k6) ?_
  refine w_N 2 32 [.ref 64, .int (-1), .int (nI f)] [.ref 64] rfl ?_
  refine w_gr 95 rfl rfl rfl (A_k S 64 (by decide)) (A_r S 64 4 (by decide)) ?_
  refine w_N 1 36 [.ref 64, .int (-1), .int (nI f)] [.int 0, .ref 95] rfl ?_
  refine w_pi rfl rfl rfl rfl (A_k S 95 (by decide)) (by decide) ?_
  refine w_N 2 41 [.ref 64, .int (-1), .int (nI f)] [.int (-1), .int (-1)] rfl ?_
  refine w_icmp_ne_f (t := 56) rfl rfl (by decide) ?_
  refine w_N 2 47 [.ref 64, .int (-1), .int (nI f)] [.int (-2), .ref 64] rfl ?_
  have P := cP_rd P F6
  refine w_ca (w_vst rfl rfl rfl (Nat.le_of_ble_eq_true rfl) (Nat.le_of_ble_eq_true rfl) (A_k S 64 (by decide))) (x_refuse (d := 31) P (by unfold isW; decide)) ?_
  rintro _ _ ⟨rfl, hi9, rfl, P9⟩
  show lm_wp _ 97 50 [.ref 64, .int (-1), .int (nI f)] [.int (-2)] (hi9, hl, X) _
  refine w_N 4 55 [.ref 64, .int (-1), .int (nI f)] [.int ((-20) - (nI f))] rfl ?_
  refine w_ri rfl rfl ?_
  exact cq_ P9 (by omega) hC
theorem x_town {hi : Nat → Nat → Int32} {hl : Nat → Nat → Int64} {X : lm_X} {hi0 : Nat → Nat → Int32} {hl0 : Nat → Nat → Int64} {C n ts : Nat} {T : lm_T} {R : Nat → Int32} {KO : ab_K} {V : ab_V} {tl F : Nat → Int32} (P : cP hi0 hl0 hi hl X C T n R KO V ts tl F) {B D : Nat} (Z : okZ B D T n R KO V ts tl) {T' : lm_T} {n' k' : Nat} {R' : Nat → Int32} (oR : okR R' D) (hk : k' ≤ 250) (hr : ∀ hi hl X, sh_A X → olP hi X → isT hi 85 T n → isR hi 85 R → hi 95 1 = nI ts → (∀ i, i < ts → hi 96 i = tl i) → lm_w 31 38 [.ref 95, .ref 85] (hi, hl, X) (rdT hi hl X T' n' R' k')) (hC : C + 25 < 2147483648) : lm_w 32 97 [.ref 64] (hi, hl, X) (cQ hi0 hl0 X (C + 25) (.int (nI k')) T' n' (lm_u1 R' 15 0) KO V 0 tl F) := by
  obtain ⟨S, O, H, HR, FO, HV, HT, HF, HK, E0, EL0⟩ := id P
  obtain ⟨hT, hO, hV, hts, htl, hDB, hB0, hKO⟩ := id Z
  refine lm_w_in (Nat.le_of_ble_eq_true rfl) ?_
  show lm_wp 32 97 0 [.ref 64, lm_jk, lm_jk] [] (hi, hl, X) _
  refine w_N 1 1 [.ref 64, lm_jk, lm_jk] [.ref 64] rfl ?_
  refine w_gr 85 rfl rfl rfl (A_k S 64 (by decide)) (A_r S 64 2 (by decide)) ?_
  refine w_N 1 5 [.ref 64, lm_jk, lm_jk] [.ref 64, .ref 85] rfl ?_
  refine w_gr 65 rfl rfl rfl (A_k S 64 (by decide)) (A_r S 64 0 (by decide)) ?_
  refine w_ca (w_vst rfl rfl rfl (Nat.le_of_ble_eq_true rfl) (Nat.le_of_ble_eq_true rfl) (T_kd (A_T85 S))) (t_become (d := 31) (A_T85 S) (A_T65 S) H HR hO.2.2.2.2.1 (by decide)) ?_
  rintro _ _ ⟨h5x, rfl, rfl, H5, R5, c5, f5⟩
  have P := cP_draft P f5
  obtain ⟨S, O, H, HR, FO, HV, HT, HF, HK, E0, EL0⟩ := id P
  show lm_wp _ 97 11 [.ref 64, lm_jk, lm_jk] [] (h5x, hl, X) _
  refine w_N 1 12 [.ref 64, lm_jk, lm_jk] [.ref 64] rfl ?_
  refine w_gr 95 rfl rfl rfl (A_k S 64 (by decide)) (A_r S 64 4 (by decide)) ?_
  refine w_N 1 16 [.ref 64, lm_jk, lm_jk] [.ref 64, .ref 95] rfl ?_
  refine w_gr 85 rfl rfl rfl (A_k S 64 (by decide)) (A_r S 64 2 (by decide)) ?_
  refine w_ca (w_vst rfl rfl rfl (Nat.le_of_ble_eq_true rfl) (Nat.le_of_ble_eq_true rfl) (A_k S 95 (by decide))) (hr _ _ _ S O H5 R5 HT.1 HT.2) ?_
  rintro _ _ ⟨rfl, h6x, rfl, F6, H6, R6⟩
  show lm_wp _ 97 22 [.ref 64, lm_jk, lm_jk] [.int (nI k')] (h6x, hl, X) _
  refine w_N 2 24 [.ref 64, .int (nI k'), lm_jk] [.ref 64] rfl ?_
  refine w_gr 95 rfl rfl rfl (A_k S 64 (by decide)) (A_r S 64 4 (by decide)) ?_
  refine w_gi (v := h6x 95 2) rfl rfl rfl (A_k S 95 (by decide)) (rfl) ?_
  refine w_N 2 32 [.ref 64, .int (nI k'), .int (h6x 95 2)] [.ref 64] rfl ?_
  refine w_gr 95 rfl rfl rfl (A_k S 64 (by decide)) (A_r S 64 4 (by decide)) ?_
  refine w_N 1 36 [.ref 64, .int (nI k'), .int (h6x 95 2)] [.int 0, .ref 95] rfl ?_
  refine w_pi rfl rfl rfl rfl (A_k S 95 (by decide)) (by decide) ?_
  refine w_N 2 41 [.ref 64, .int (nI k'), .int (h6x 95 2)] [.int (-1), .int (nI k')] rfl ?_
  refine w_icmp_ne_t (t := 56) rfl rfl (nI_n1 (by omega)) ?_
  refine w_N 1 57 [.ref 64, .int (nI k'), .int (h6x 95 2)] [.ref 64] rfl ?_
  refine w_gr 65 rfl rfl rfl (A_k S 64 (by decide)) (A_r S 64 0 (by decide)) ?_
  refine w_N 1 61 [.ref 64, .int (nI k'), .int (h6x 95 2)] [.ref 64, .ref 65] rfl ?_
  refine w_gr 85 rfl rfl rfl (A_k S 64 (by decide)) (A_r S 64 2 (by decide)) ?_
  obtain ⟨h7x, e7⟩ : ∃ q, q = lm_up h6x 95 1 0 := ⟨_, rfl⟩
  rw [← e7]
  have P := cP_rd P F6
  rw [← e7] at P
  have g7 : fr 95 96 h6x h7x := by rw [e7]; exact fr_up fr_rfl (by decide)
  have H7 := isT_fr g7 (by decide) H6
  have R7 := isR_fr g7 (by decide) R6
  clear e7
  obtain ⟨S, O, H, HR, FO, HV, HT, HF, HK, E0, EL0⟩ := id P
  refine w_ca (w_vst rfl rfl rfl (Nat.le_of_ble_eq_true rfl) (Nat.le_of_ble_eq_true rfl) (T_kd (A_T65 S))) (t_become (d := 31) (A_T65 S) (A_T85 S) H7 R7 oR.2.2.2.2.1 (by decide)) ?_
  rintro _ _ ⟨h8x, rfl, rfl, H8, R8, c8, f8⟩
  have P := cP_town P f8 H8 R8 (fok_ch f8 c8 (by omega) FO)
  show lm_wp _ 97 67 [.ref 64, .int (nI k'), .int (h6x 95 2)] [] (h8x, hl, X) _
  refine w_N 1 68 [.ref 64, .int (nI k'), .int (h6x 95 2)] [.ref 64] rfl ?_
  refine w_gr 65 rfl rfl rfl (A_k S 64 (by decide)) (A_r S 64 0 (by decide)) ?_
  refine w_N 1 72 [.ref 64, .int (nI k'), .int (h6x 95 2)] [.int 0, .ref 65] rfl ?_
  refine w_pb rfl rfl rfl rfl (T_kd (A_T65 S)) (T_64 (A_T65 S)) (by decide) ?_
  refine w_N 1 76 [.ref 64, .int (nI k'), .int (h6x 95 2)] [.int (nI k')] rfl ?_
  refine w_ri rfl rfl ?_
  exact cq_ (cP_R (k := 15) (by decide) P) (by omega) hC
theorem m_refX {d : Nat} {hi : Nat → Nat → Int32} {hl : Nat → Nat → Int64} {X : lm_X} {k : Nat} {w x : Int32} (S : sh_M X 123) (hk : k < 5) (e1 : -w = nI (2 + k)) (hx : hi 140 (2 + k) = x) : lm_c d 132 [.ref 123, .int w] (hi, hl, X) (some (.int w), (lm_up hi 140 (2 + k) (x + 1), hl, X)) := by
  refine lm_c_of (lm_w_in (Nat.le_of_ble_eq_true rfl) ?_)
  show lm_wp d 132 0 [.ref 123, .int w] [] (hi, hl, X) _
  refine w_N 1 1 [.ref 123, .int w] [.ref 123] rfl ?_
  refine w_gr 140 rfl rfl rfl (M_kd S) (M_r S (k := 9) (o := 17) rfl) ?_
  refine w_N 3 7 [.ref 123, .int w] [.int (-w), .ref 140, .int (-w), .ref 140] rfl ?_
  refine w_ia (2 + k) (v := x) rfl (show X.2.1 (140) = 1 from M_k S 17 (by decide)) (show X.2.2.1 (140) = 8 from M_l S 17 (by decide)) e1 (by omega) (by decide) (hx) ?_
  refine w_N 2 10 [.ref 123, .int w] [.int (x + 1), .int (-w), .ref 140] rfl ?_
  refine w_is (2 + k) rfl (show X.2.1 (140) = 1 from M_k S 17 (by decide)) (by decide) (show X.2.2.1 (140) = 8 from M_l S 17 (by decide)) e1 (by omega) (by decide) ?_
  refine w_N 1 12 [.ref 123, .int w] [.int w] rfl ?_
  refine w_ri rfl rfl ?_
  rfl
theorem y_town_f {hi : Nat → Nat → Int32} {hl : Nat → Nat → Int64} {X : lm_X} {hi0 : Nat → Nat → Int32} {hl0 : Nat → Nat → Int64} {X0 : lm_X} {n ts : Nat} {T : lm_T} {R : Nat → Int32} {KO : ab_K} {V : ab_V} {tl F : Nat → Int32} (P : mP hi0 hl0 X0 hi hl X T n R KO V ts tl F) {B D : Nat} (Z : okZ B D T n R KO V ts tl) {f : Nat} (hr : ∀ hi hl X, sh_M X 123 → olP hi X → rT hi 123 T n → rR hi 123 R → hi 123 8 = nI ts → (∀ i, i < ts → hi 139 i = tl i) → lm_w 41 167 [.ref 123] (hi, hl, X) (eF hi hl X f)) : lm_w 42 168 [.ref 123] (hi, hl, X) (mQ hi0 hl0 X0 (.int ((-20) - nI f)) T n R KO V 0 tl (rfU F (-2))) := by
  obtain ⟨SR, O, H, HR, HV, HT, HF, HK, E0, EL0, EX0⟩ := id P
  have S := SR.1
  obtain ⟨hT, hO, hV, hts, htl, hDB, hB0, hKO⟩ := id Z
  refine lm_w_in (Nat.le_of_ble_eq_true rfl) ?_
  show lm_wp 42 168 0 [.ref 123, lm_jk, lm_jk, lm_jk, lm_jk] [] (hi, hl, X) _
  refine w_N 1 1 [.ref 123, lm_jk, lm_jk, lm_jk, lm_jk] [.ref 123] rfl ?_
  refine w_gr 156 rfl rfl rfl (M_kd S) (M_r S (k := 17) (o := 33) rfl) ?_
  refine w_N 1 5 [.ref 123, lm_jk, lm_jk, lm_jk, lm_jk] [.int 0, .ref 156] rfl ?_
  refine w_ia 0 (v := R 20) rfl (show X.2.1 (156) = 1 from M_k S 33 (by decide)) (show X.2.2.1 (156) = 2 from M_l S 33 (by decide)) rfl (by decide) (by decide) (HR.2.2.2.2.2.2.1) ?_
  refine w_N 2 8 [.ref 123, .int (R 20), lm_jk, lm_jk, lm_jk] [.ref 123] rfl ?_
  refine w_gr 156 rfl rfl rfl (M_kd S) (M_r S (k := 17) (o := 33) rfl) ?_
  refine w_N 1 12 [.ref 123, .int (R 20), lm_jk, lm_jk, lm_jk] [.int 1, .ref 156] rfl ?_
  refine w_ia 1 (v := R 21) rfl (show X.2.1 (156) = 1 from M_k S 33 (by decide)) (show X.2.2.1 (156) = 2 from M_l S 33 (by decide)) rfl (by decide) (by decide) (HR.2.2.2.2.2.2.2) ?_
  refine w_N 2 15 [.ref 123, .int (R 20), .int (R 21), lm_jk, lm_jk] [.ref 123] rfl ?_
  refine w_ca (w_vst rfl rfl rfl (Nat.le_of_ble_eq_true rfl) (Nat.le_of_ble_eq_true rfl) (M_kd S)) (m_fresh (d := 39) SR H HR hO.2.2.2.2.1) ?_
  rintro _ _ ⟨h5x, hl5, X5, rfl, rfl, S5, S7, n23, SR5, H7, R7, f7, fl7, fx7⟩
  have P := mP_new P f7 fl7 fx7 SR5
  obtain ⟨SR, O, H, HR, HV, HT, HF, HK, E0, EL0, EX0⟩ := id P
  have S := SR.1
  show lm_wp _ 168 18 [.ref 123, .int (R 20), .int (R 21), lm_jk, lm_jk] [.ref 700] (h5x, hl5, X5) _
  refine w_N 2 20 [.ref 123, .int (R 20), .int (R 21), .ref 700, lm_jk] [.ref 123] rfl ?_
  refine w_ca (w_vst rfl rfl rfl (Nat.le_of_ble_eq_true rfl) (Nat.le_of_ble_eq_true rfl) (M_kd S)) (hr _ _ _ S O H HR HT.1 HT.2) ?_
  rintro _ _ ⟨rfl, h6x, rfl, Q6, k6⟩
  show lm_wp _ 168 23 [.ref 123, .int (R 20), .int (R 21), .ref 700, lm_jk] [.int 0] (h6x, hl5, X5) _
  refine w_N 3 27 [.ref 123, .int (R 20), .int (R 21), .ref 700, .int 0] [.int 0, .ref 123] rfl ?_
  refine w_pi rfl rfl rfl rfl (M_kd S) (M_64 S) ?_
  refine w_N 1 32 [.ref 123, .int (R 20), .int (R 21), .ref 700, .int 0] [.int 0] rfl ?_
  refine w_if_ne_f (t := 69) rfl rfl (by decide) ?_
  refine w_N 2 37 [.ref 123, .int (R 20), .int (R 21), .ref 700, .int 0] [.ref 700, .ref 123] rfl ?_
  obtain ⟨h7x, e7⟩ : ∃ q, q = lm_up h6x 123 8 0 := ⟨_, rfl⟩
  rw [← e7]
  have A7 : ∀ a, a ≠ 123 → h7x a = h6x a := fun a ha => by rw [e7]; exact lm_up_rw ha
  have B7 : h7x 123 28 = nI f := by rw [e7, lm_up_nk (by decide)]; exact k6
  have C7 : h7x 123 8 = 0 := by rw [e7]; exact lm_up_eq
  clear e7
  have G7 : fr 123 172 h5x h7x := fun a ha => (A7 a (by omega)).trans (Q6.1 a (by omega))
  refine w_ca (w_vst rfl rfl rfl (Nat.le_of_ble_eq_true rfl) (Nat.le_of_ble_eq_true rfl) (M_kd S)) (lm_w_and (m_takeFrom (d := 40) S S7 (rT_fr G7 (by decide) H7) (rR_fr G7 (by decide) R7) (show zrR R 15 = 0 ∨ zrR R 15 = 1 from hO.2.2.2.2.1) (by decide)) (m_tf28 (d := 40) S S7 (rT_fr G7 (by decide) H7) (rR_fr G7 (by decide) R7) (show zrR R 15 = 0 ∨ zrR R 15 = 1 from hO.2.2.2.2.1) (by decide))) ?_
  rintro _ _ ⟨⟨h8x, rfl, rfl, H8, R8, Q8⟩, ⟨h8y, -, e8, B8⟩⟩
  obtain rfl : h8x = h8y := by cases e8; rfl
  rw [B7] at B8
  show lm_wp _ 168 40 [.ref 123, .int (R 20), .int (R 21), .ref 700, .int 0] [] (h8x, hl5, X5) _
  refine w_N 1 41 [.ref 123, .int (R 20), .int (R 21), .ref 700, .int 0] [.ref 123] rfl ?_
  refine w_gr 156 rfl rfl rfl (M_kd S) (M_r S (k := 17) (o := 33) rfl) ?_
  refine w_N 2 46 [.ref 123, .int (R 20), .int (R 21), .ref 700, .int 0] [.int (R 20), .int 0, .ref 156] rfl ?_
  refine w_is 0 rfl (show X5.2.1 (156) = 1 from M_k S 33 (by decide)) (by decide) (show X5.2.2.1 (156) = 2 from M_l S 33 (by decide)) rfl (by decide) (by decide) ?_
  refine w_N 1 48 [.ref 123, .int (R 20), .int (R 21), .ref 700, .int 0] [.ref 123] rfl ?_
  refine w_gr 156 rfl rfl rfl (M_kd S) (M_r S (k := 17) (o := 33) rfl) ?_
  refine w_N 2 53 [.ref 123, .int (R 20), .int (R 21), .ref 700, .int 0] [.int (R 21), .int 1, .ref 156] rfl ?_
  refine w_is 1 rfl (show X5.2.1 (156) = 1 from M_k S 33 (by decide)) (by decide) (show X5.2.2.1 (156) = 2 from M_l S 33 (by decide)) rfl (by decide) (by decide) ?_
  refine w_N 2 57 [.ref 123, .int (R 20), .int (R 21), .ref 700, .int 0] [.int (-2), .ref 123] rfl ?_
  obtain ⟨h9x, e9⟩ : ∃ q, q = lm_up (lm_up h8x 156 0 (R 20)) 156 1 (R 21) := ⟨_, rfl⟩
  rw [← e9]
  have A9 : ∀ a, a ≠ 156 → h9x a = h8x a := fun a ha => by rw [e9, lm_up_rw ha, lm_up_rw ha]
  have B9 : h9x 156 0 = R 20 ∧ h9x 156 1 = R 21 := ⟨by rw [e9, lm_up_nk (by decide), lm_up_eq], by rw [e9, lm_up_eq]⟩
  clear e9
  have P : mP hi0 hl0 X0 h9x hl5 X5 T n R KO V 0 tl F := by
    refine mP_rd P (fun a ha => ?_) ?_ ⟨fun k hk a ha => ?_, fun h hh w hw => ?_, ?_, rTle H⟩ ?_
    · rw [A9 a (by omega), Q8.1 a (by omega), A7 a (by omega), Q6.1 a (by omega)]
    · rw [A9 123 (by decide), Q8.2]; exact C7
    · have := rTle H; rw [A9 _ (by omega)]; exact H8.1 k hk a ha
    · rw [A9 _ (by omega)]; exact H8.2.1 h hh w hw
    · rw [A9 _ (by decide)]; exact H8.2.2.1
    · obtain ⟨r1, r2, r3, r4, r5, r6, r7, r8⟩ := R8
      unfold rR rS
      rw [A9 123 (by decide), A9 (123 + 29) (by decide), A9 (123 + 34) (by decide)]
      exact ⟨r1, r2, r3, r4, r5, r6, B9.1, B9.2⟩
  have D9 : h9x 123 28 = nI f := by rw [A9 123 (by decide)]; exact B8
  obtain ⟨SR, O, H, HR, HV, HT, HF, HK, E0, EL0, EX0⟩ := id P
  refine w_cc (w_vst rfl rfl rfl (Nat.le_of_ble_eq_true rfl) (Nat.le_of_ble_eq_true rfl) (M_kd S)) (m_refX (k := 0) S (by decide) rfl (HF 0 (by decide))) ?_
  show lm_wp _ 168 60 [.ref 123, .int (R 20), .int (R 21), .ref 700, .int 0] [.int (-2)] (lm_up h9x 140 (2 + 0) (F 0 + 1), hl5, X5) _
  refine w_N 3 64 [.ref 123, .int (R 20), .int (R 21), .ref 700, .int 0] [.ref 123, .int (-20)] rfl ?_
  refine w_gi (v := nI f) rfl rfl rfl (M_kd S) ((lm_up_na (by decide)).trans (D9)) ?_
  refine w_N 1 68 [.ref 123, .int (R 20), .int (R 21), .ref 700, .int 0] [.int ((-20) - (nI f))] rfl ?_
  refine w_ri rfl rfl ?_
  refine mq_ (mP_ref P (fr_up fr_rfl (by decide)) (fun j hj => ?_))
  show _ = lm_u1 F 0 (F 0 + 1) j
  unfold lm_u1
  by_cases z : j = 0
  · subst z; rw [if_pos rfl]; exact lm_up_eq
  · rw [if_neg z]; exact (lm_up_nk (by omega)).trans (HF j hj)
theorem y_town {hi : Nat → Nat → Int32} {hl : Nat → Nat → Int64} {X : lm_X} {hi0 : Nat → Nat → Int32} {hl0 : Nat → Nat → Int64} {X0 : lm_X} {n ts : Nat} {T : lm_T} {R : Nat → Int32} {KO : ab_K} {V : ab_V} {tl F : Nat → Int32} (P : mP hi0 hl0 X0 hi hl X T n R KO V ts tl F) {B D : Nat} (Z : okZ B D T n R KO V ts tl) {T' : lm_T} {n' k' : Nat} {R' : Nat → Int32} (hr : ∀ hi hl X, sh_M X 123 → olP hi X → rT hi 123 T n → rR hi 123 R → hi 123 8 = nI ts → (∀ i, i < ts → hi 139 i = tl i) → lm_w 41 167 [.ref 123] (hi, hl, X) (raT hi hl X T' n' R' k')) : lm_w 42 168 [.ref 123] (hi, hl, X) (mQ hi0 hl0 X0 (.int (nI k')) T' n' (lm_u1 R' 15 0) KO V 0 tl F) := by
  obtain ⟨SR, O, H, HR, HV, HT, HF, HK, E0, EL0, EX0⟩ := id P
  have S := SR.1
  obtain ⟨hT, hO, hV, hts, htl, hDB, hB0, hKO⟩ := id Z
  refine lm_w_in (Nat.le_of_ble_eq_true rfl) ?_
  show lm_wp 42 168 0 [.ref 123, lm_jk, lm_jk, lm_jk, lm_jk] [] (hi, hl, X) _
  refine w_N 1 1 [.ref 123, lm_jk, lm_jk, lm_jk, lm_jk] [.ref 123] rfl ?_
  refine w_gr 156 rfl rfl rfl (M_kd S) (M_r S (k := 17) (o := 33) rfl) ?_
  refine w_N 1 5 [.ref 123, lm_jk, lm_jk, lm_jk, lm_jk] [.int 0, .ref 156] rfl ?_
  refine w_ia 0 (v := R 20) rfl (show X.2.1 (156) = 1 from M_k S 33 (by decide)) (show X.2.2.1 (156) = 2 from M_l S 33 (by decide)) rfl (by decide) (by decide) (HR.2.2.2.2.2.2.1) ?_
  refine w_N 2 8 [.ref 123, .int (R 20), lm_jk, lm_jk, lm_jk] [.ref 123] rfl ?_
  refine w_gr 156 rfl rfl rfl (M_kd S) (M_r S (k := 17) (o := 33) rfl) ?_
  refine w_N 1 12 [.ref 123, .int (R 20), lm_jk, lm_jk, lm_jk] [.int 1, .ref 156] rfl ?_
  refine w_ia 1 (v := R 21) rfl (show X.2.1 (156) = 1 from M_k S 33 (by decide)) (show X.2.2.1 (156) = 2 from M_l S 33 (by decide)) rfl (by decide) (by decide) (HR.2.2.2.2.2.2.2) ?_
  refine w_N 2 15 [.ref 123, .int (R 20), .int (R 21), lm_jk, lm_jk] [.ref 123] rfl ?_
  refine w_ca (w_vst rfl rfl rfl (Nat.le_of_ble_eq_true rfl) (Nat.le_of_ble_eq_true rfl) (M_kd S)) (m_fresh (d := 39) SR H HR hO.2.2.2.2.1) ?_
  rintro _ _ ⟨h5x, hl5, X5, rfl, rfl, S5, S7, n23, SR5, H7, R7, f7, fl7, fx7⟩
  have P := mP_new P f7 fl7 fx7 SR5
  obtain ⟨SR, O, H, HR, HV, HT, HF, HK, E0, EL0, EX0⟩ := id P
  have S := SR.1
  show lm_wp _ 168 18 [.ref 123, .int (R 20), .int (R 21), lm_jk, lm_jk] [.ref 700] (h5x, hl5, X5) _
  refine w_N 2 20 [.ref 123, .int (R 20), .int (R 21), .ref 700, lm_jk] [.ref 123] rfl ?_
  refine w_ca (w_vst rfl rfl rfl (Nat.le_of_ble_eq_true rfl) (Nat.le_of_ble_eq_true rfl) (M_kd S)) (hr _ _ _ S O H HR HT.1 HT.2) ?_
  rintro _ _ ⟨rfl, h6x, rfl, E6⟩
  obtain ⟨-, -, H6, R6, Q6, K6⟩ := E6
  show lm_wp _ 168 23 [.ref 123, .int (R 20), .int (R 21), .ref 700, lm_jk] [.int 1] (h6x, hl5, X5) _
  refine w_N 3 27 [.ref 123, .int (R 20), .int (R 21), .ref 700, .int 1] [.int 0, .ref 123] rfl ?_
  refine w_pi rfl rfl rfl rfl (M_kd S) (M_64 S) ?_
  refine w_N 1 32 [.ref 123, .int (R 20), .int (R 21), .ref 700, .int 1] [.int 1] rfl ?_
  refine w_if_ne_t (t := 69) rfl rfl (by decide) ?_
  refine w_N 2 71 [.ref 123, .int (R 20), .int (R 21), .ref 700, .int 1] [.int 0, .ref 123] rfl ?_
  refine w_pb rfl rfl rfl rfl (M_kd S) (M_64 S) (by decide) ?_
  refine w_N 1 75 [.ref 123, .int (R 20), .int (R 21), .ref 700, .int 1] [.ref 123] rfl ?_
  refine w_gi (v := nI k') rfl rfl rfl (M_kd S) ((lm_up_nk (by decide)).trans ((lm_up_nk (by decide)).trans (K6))) ?_
  refine w_ri rfl rfl ?_
  have hn := rTle H6
  refine mq_ (mP_rd P (fun a ha => ?_) ((lm_up_nk (by decide)).trans (lm_up_eq)) ⟨fun k hk a ha => ?_, fun h hh w hw => ?_, (lm_up_nk (by decide)).trans ((lm_up_nk (by decide)).trans (H6.2.2.1)), hn⟩ ⟨⟨(lm_up_nk (by decide)).trans ((lm_up_nk (by decide)).trans (R6.1.1)), fun c hc => ?_⟩, (lm_up_nk (by decide)).trans ((lm_up_nk (by decide)).trans (R6.2.1)), (lm_up_nk (by decide)).trans ((lm_up_nk (by decide)).trans (R6.2.2.1)), (lm_up_nk (by decide)).trans ((lm_up_nk (by decide)).trans (R6.2.2.2.1)), fun z => absurd (show (0 : Int32) = 1 from z) (by decide), lm_up_eq, ?_, ?_⟩)
  · rw [lm_up_rw (by omega), lm_up_rw (by omega)]; exact Q6.1 a (by omega)
  · rw [lm_up_na (by omega), lm_up_na (by omega)]; exact H6.1 k hk a ha
  · rw [lm_up_na (by omega), lm_up_na (by omega)]; exact H6.2.1 h hh w hw
  · rw [lm_up_na (by decide), lm_up_na (by decide)]; exact R6.1.2 c hc
  · rw [lm_up_na (by decide), lm_up_na (by decide)]; exact R6.2.2.2.2.1
  · rw [lm_up_na (by decide), lm_up_na (by decide)]; exact R6.2.2.2.2.2
/-- a call, both, to the law's depth -/
def ST9 (B gx gm : Nat) (as : List Value) (T : lm_T) (n : Nat) (R : Nat → Int32) (KO : ab_K) (V : ab_V) (ts : Nat) (tl F : Nat → Int32) : Prop := ∃ (v : Value) (D' : Nat) (T' : lm_T) (n' : Nat) (R' : Nat → Int32) (KO' : ab_K) (V' : ab_V) (ts' : Nat) (tl' F' : Nat → Int32), okZ (B + 20) D' T' n' R' KO' V' ts' tl' ∧ (∀ hi0 hl0 hi hl X C, cP hi0 hl0 hi hl X C T n R KO V ts tl F → C + 25 < 2147483648 → lm_w 59 gx (.ref 64 :: as) (hi, hl, X) (cQ hi0 hl0 X (C + 25) v T' n' R' KO' V' ts' tl' F')) ∧ (∀ hi0 hl0 X0 hi hl X, mP hi0 hl0 X0 hi hl X T n R KO V ts tl F → lm_w 59 gm (.ref 123 :: as) (hi, hl, X) (mQ hi0 hl0 X0 v T' n' R' KO' V' ts' tl' F'))
def STI (B gx gm : Nat) (as : List Value) (T : lm_T) (n : Nat) (R : Nat → Int32) (KO : ab_K) (V : ab_V) (ts : Nat) (tl F : Nat → Int32) : Prop := ∃ (x : Int32) (D' : Nat) (T' : lm_T) (n' : Nat) (R' : Nat → Int32) (KO' : ab_K) (V' : ab_V) (ts' : Nat) (tl' F' : Nat → Int32), okZ (B + 20) D' T' n' R' KO' V' ts' tl' ∧ (∀ hi0 hl0 hi hl X C, cP hi0 hl0 hi hl X C T n R KO V ts tl F → C + 25 < 2147483648 → lm_w 59 gx (.ref 64 :: as) (hi, hl, X) (cQ hi0 hl0 X (C + 25) (.int x) T' n' R' KO' V' ts' tl' F')) ∧ (∀ hi0 hl0 X0 hi hl X, mP hi0 hl0 X0 hi hl X T n R KO V ts tl F → lm_w 59 gm (.ref 123 :: as) (hi, hl, X) (mQ hi0 hl0 X0 (.int x) T' n' R' KO' V' ts' tl' F'))
theorem sti {B gx gm : Nat} {as : List Value} {T : lm_T} {n : Nat} {R : Nat → Int32} {KO : ab_K} {V : ab_V} {ts : Nat} {tl F : Nat → Int32} (h : STEP B gx gm as T n R KO V ts tl F) : STI B gx gm as T n R KO V ts tl F := by
  obtain ⟨x, D', T', n', R', KO', V', ts', tl', F', z, h1, h2⟩ := h
  exact ⟨x, D', T', n', R', KO', V', ts', tl', F', z, fun _ _ _ _ _ _ P hC => lm_w_dep (by decide) (h1 _ _ _ _ _ _ P hC), fun _ _ _ _ _ _ P => lm_w_dep (by decide) (h2 _ _ _ _ _ _ P)⟩
theorem st_town {B D n ts : Nat} {T : lm_T} {R : Nat → Int32} {KO : ab_K} {V : ab_V} {tl F : Nat → Int32} (Z : okZ B D T n R KO V ts tl) (hB : B + 20 < 2000000) (hn : n ≤ 10) : STI B 97 168 [] T n R KO V ts tl F := by
  obtain ⟨hT, hO, hV, hts, htl, hDB, hB0, hKO⟩ := id Z
  rcases ra_all (tl := tl) hts hT hO hn with ⟨f, q1, q2⟩ | ⟨k', T', n', R', oT, oR, on, hk, q1, q2⟩
  · refine ⟨_, D, _, _, _, _, _, _, _, _, ?_, fun _ _ _ _ _ _ P hC => lm_w_dep (by decide) (x_town_f P Z q1 hC), fun _ _ _ _ _ _ P => lm_w_dep (by decide) (y_town_f P Z q2)⟩
    obtain ⟨z1, z2, z3, z4, z5, z6, z7, z8⟩ := okZ_up Z hB
    exact ⟨z1, z2, z3, by omega, fun i hi => by omega, z6, z7, z8⟩
  · refine ⟨_, D, _, _, _, _, _, _, _, _, ?_, fun _ _ _ _ _ _ P hC => lm_w_dep (by decide) (x_town P Z oR hk q1 hC), fun _ _ _ _ _ _ P => lm_w_dep (by decide) (y_town P Z q2)⟩
    obtain ⟨z1, z2, z3, z4, z5, z6, z7, z8⟩ := okZ_up Z hB
    exact ⟨oT, okR_0 oR, z3, by omega, fun i hi => by omega, z6, z7, z8⟩
