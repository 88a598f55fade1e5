set_option maxRecDepth 16384
/-! the class: its constructor -/
def hpI (h : lm_H) (a k : Nat) (v : Int32) : lm_H := (lm_up h.1 a k v, h.2)
def hpR (h : lm_H) (a k b : Nat) : lm_H := (h.1, h.2.1, lm_up h.2.2.1 a k (some b), h.2.2.2)
theorem w_hi {d f pc len idx ci k z a : Nat} {ls st : List Value} {P : Option Value → lm_H → Prop} {h : lm_H} {x : Int32} (h1 : (lm_m f).2.2.2.2.2.1.lookup pc = some (.putfield idx, len)) (h2 : (lm_kF (lm_m f).1).lookup idx = some (ci, k, z)) (h3 : (lm_ft ci k == 0) = true) (h4 : lm_pok f (lm_m f).1 ci k = true) (hg : h.2.2.2.1 a = 10 + ci) (h64 : 64 ≤ a) (k : lm_wp d f (pc + 3) ls st (hpI h a k x) P) : lm_wp d f pc ls (.int x :: .ref a :: st) h P := by
  obtain ⟨hi, hl, X⟩ := h
  exact w_pi h1 h2 h3 h4 hg h64 k
theorem w_hb {d f pc len idx ci k z a : Nat} {ls st : List Value} {P : Option Value → lm_H → Prop} {h : lm_H} {x : Int32} (h1 : (lm_m f).2.2.2.2.2.1.lookup pc = some (.putfield idx, len)) (h2 : (lm_kF (lm_m f).1).lookup idx = some (ci, k, z)) (h3 : (lm_ft ci k == 2) = true) (h4 : lm_pok f (lm_m f).1 ci k = true) (hg : h.2.2.2.1 a = 10 + ci) (h64 : 64 ≤ a) (hx : x = 0 ∨ x = 1) (k : lm_wp d f (pc + 3) ls st (hpI h a k x) P) : lm_wp d f pc ls (.int x :: .ref a :: st) h P := by
  obtain ⟨hi, hl, X⟩ := h
  exact w_pb h1 h2 h3 h4 hg h64 hx k
theorem w_hr {d f pc len idx ci k z a b : Nat} {ls st : List Value} {P : Option Value → lm_H → Prop} {h : lm_H} (h1 : (lm_m f).2.2.2.2.2.1.lookup pc = some (.putfield idx, len)) (h2 : (lm_kF (lm_m f).1).lookup idx = some (ci, k, z)) (h3 : (lm_ft ci k == 1) = true) (h4 : lm_pok f (lm_m f).1 ci k = true) (hg : h.2.2.2.1 a = 10 + ci) (h64 : 64 ≤ a) (k : lm_wp d f (pc + 3) ls st (hpR h a k b) P) : lm_wp d f pc ls (.ref b :: .ref a :: st) h P := by
  obtain ⟨hi, hl, X⟩ := h
  exact w_pr h1 h2 h3 h4 hg h64 k
theorem w_hg {d f pc len idx ci k z a : Nat} {ls st : List Value} {P : Option Value → lm_H → Prop} {h : lm_H} (b : Nat) (h1 : (lm_m f).2.2.2.2.2.1.lookup pc = some (.getfield idx, len)) (h2 : (lm_kF (lm_m f).1).lookup idx = some (ci, k, z)) (h3 : (lm_fk ci k == 1) = true) (hg : h.2.2.2.1 a = 10 + ci) (hb : h.2.2.1 a k = some b) (k : lm_wp d f (pc + 3) ls (.ref b :: st) h P) : lm_wp d f pc ls (.ref a :: st) h P := by
  obtain ⟨hi, hl, X⟩ := h
  exact w_gr b h1 h2 h3 hg hb k
theorem w_anew (a n : Nat) {d f pc len idx N z : Nat} {ls r : List Value} {w : Int32} {P : Option Value → lm_H → Prop} {h : lm_H} (h1 : (lm_m f).2.2.2.2.2.1.lookup pc = some (.anewarray idx, len)) (h2 : (lm_kC (lm_m f).1).lookup idx = some (2, N, z)) (hx : h.2.2.2.2.2.1 = a) (hk : h.2.2.2.1 a = 0) (h64 : 64 ≤ a) (hw : w = nI n) (hn : n ≤ 100000) (k : lm_wp d f (pc + 3) ls (.ref a :: r) (lm_arr h a 4 n) P) : lm_wp d f pc ls (.int w :: r) h P := by
  subst hx hw
  refine w_nx ?_ k
  rw [lm_st_of h1]
  simp only [lm_i, h2]
  rw [nI_nn (by omega)]
  exact if_pos ⟨hk, h64, nI_pos (by omega), hn, trivial⟩
theorem w_aas (j : Nat) {d f pc len a b n : Nat} {ls r : List Value} {i : Int32} {P : Option Value → lm_H → Prop} {h : lm_H} (h1 : (lm_m f).2.2.2.2.2.1.lookup pc = some (.aastore, len)) (hk : h.2.2.2.1 a = 4) (ha : 64 ≤ a) (hb : 64 ≤ b) (hkb : h.2.2.2.1 b = 12) (hn : h.2.2.2.2.1 a = n) (hi : i = nI j) (hj : j < n) (hn2 : n < 2147483648) (k : lm_wp d f (pc + 1) ls r (hpR h a j b) P) : lm_wp d f pc ls (.ref b :: .int i :: .ref a :: r) h P := by
  subst hi
  refine w_nx ?_ k
  rw [lm_st_of h1]
  simp only [lm_i]
  rw [nI_nn (by omega)]
  exact if_pos ⟨hk, ha, hb, hkb, by rw [hn]; exact fun z => z.elim (nI_pos (by omega)) (fun y => by omega)⟩
/-- but 64 .. 122 all is kept -/
def fb (h h' : lm_H) : Prop := ∀ a, (a < 64 ∨ 123 ≤ a) → h'.1 a = h.1 a ∧ h'.2.1 a = h.2.1 a ∧ h'.2.2.1 a = h.2.2.1 a ∧ h'.2.2.2.1 a = h.2.2.2.1 a ∧ h'.2.2.2.2.1 a = h.2.2.2.2.1 a
theorem fb_rfl {h : lm_H} : fb h h := fun _ _ => ⟨rfl, rfl, rfl, rfl, rfl⟩
theorem fb_i {h h' : lm_H} {a k : Nat} {v : Int32} (ha : 64 ≤ a ∧ a < 123) (f : fb h h') : fb h (hpI h' a k v) := fun b hb => ⟨(lm_up_rw (by omega)).trans (f b hb).1, (f b hb).2⟩
theorem fb_r {h h' : lm_H} {a k c : Nat} (ha : 64 ≤ a ∧ a < 123) (f : fb h h') : fb h (hpR h' a k c) := fun b hb => ⟨(f b hb).1, (f b hb).2.1, (lm_up_rw (by omega)).trans (f b hb).2.2.1, (f b hb).2.2.2⟩
theorem u1_na {α : Type} {f : Nat → α} {a b : Nat} {v : α} (h : b ≠ a) : lm_u1 f a v b = f b := if_neg h
theorem fb_n {h h' : lm_H} {a ci N : Nat} (ha : 64 ≤ a ∧ a < 123) (f : fb h h') : fb h (lm_new h' a ci N) := fun b hb => ⟨(lm_rw_na (by omega)).trans (f b hb).1, (f b hb).2.1, (lm_rw_na (by omega)).trans (f b hb).2.2.1, (u1_na (by omega)).trans (f b hb).2.2.2.1, (f b hb).2.2.2.2⟩
theorem fb_a {h h' : lm_H} {a kd n : Nat} (ha : 64 ≤ a ∧ a < 123) (f : fb h h') : fb h (lm_arr h' a kd n) := fun b hb => ⟨(lm_rw_na (by omega)).trans (f b hb).1, (lm_rw_na (by omega)).trans (f b hb).2.1, (lm_rw_na (by omega)).trans (f b hb).2.2.1, (u1_na (by omega)).trans (f b hb).2.2.2.1, (u1_na (by omega)).trans (f b hb).2.2.2.2⟩
def tT65 (h : lm_H) : lm_H := hpI (hpI (hpI (hpI (hpI (hpI (hpI (hpI (hpR (lm_arr (hpR (lm_arr (hpR (lm_arr (hpR (lm_arr (hpR (lm_arr (hpR (lm_arr (hpR (lm_arr (hpR (lm_arr (hpR (lm_arr h 66 1 10) 65 0 66) 67 1 10) 65 1 67) 68 1 10) 65 2 68) 69 1 10) 65 3 69) 70 1 10) 65 4 70) 71 1 10) 65 5 71) 72 1 10) 65 6 72) 73 1 24) 65 7 73) 74 1 2) 65 8 74) 65 9 0) 65 10 0) 65 11 0) 65 12 0) 65 13 1) 65 14 0) 65 15 0) 65 16 0
theorem fb_T65 {h h2 : lm_H} (f : fb h h2) : fb h (tT65 h2) := (fb_i (by decide) (fb_i (by decide) (fb_i (by decide) (fb_i (by decide) (fb_i (by decide) (fb_i (by decide) (fb_i (by decide) (fb_i (by decide) (fb_r (by decide) (fb_a (by decide) (fb_r (by decide) (fb_a (by decide) (fb_r (by decide) (fb_a (by decide) (fb_r (by decide) (fb_a (by decide) (fb_r (by decide) (fb_a (by decide) (fb_r (by decide) (fb_a (by decide) (fb_r (by decide) (fb_a (by decide) (fb_r (by decide) (fb_a (by decide) (fb_r (by decide) (fb_a (by decide) f))))))))))))))))))))))))))
theorem i_T65 {d : Nat} {h : lm_H} (hx : h.2.2.2.2.2.1 = 66) (hk0 : h.2.2.2.1 66 = 0) (hk1 : h.2.2.2.1 67 = 0) (hk2 : h.2.2.2.1 68 = 0) (hk3 : h.2.2.2.1 69 = 0) (hk4 : h.2.2.2.1 70 = 0) (hk5 : h.2.2.2.1 71 = 0) (hk6 : h.2.2.2.1 72 = 0) (hk7 : h.2.2.2.1 73 = 0) (hk8 : h.2.2.2.1 74 = 0) (hb : h.2.2.2.1 65 = 14) : lm_c d 52 [.ref 65] h (none, tT65 h) := by
  refine lm_c_of (lm_w_in (Nat.le_of_ble_eq_true rfl) ?_)
  show lm_wp d 52 0 [.ref 65] [] h _
  refine w_N 4 7 [.ref 65] [.int 10, .ref 65] rfl ?_
  refine w_nai 66 10 rfl hx hk0 (by decide) rfl (by decide) ?_
  refine w_hr rfl rfl rfl rfl hb (by decide) ?_
  refine w_N 2 15 [.ref 65] [.int 10, .ref 65] rfl ?_
  refine w_nai 67 10 rfl rfl hk1 (by decide) rfl (by decide) ?_
  refine w_hr rfl rfl rfl rfl hb (by decide) ?_
  refine w_N 2 23 [.ref 65] [.int 10, .ref 65] rfl ?_
  refine w_nai 68 10 rfl rfl hk2 (by decide) rfl (by decide) ?_
  refine w_hr rfl rfl rfl rfl hb (by decide) ?_
  refine w_N 2 31 [.ref 65] [.int 10, .ref 65] rfl ?_
  refine w_nai 69 10 rfl rfl hk3 (by decide) rfl (by decide) ?_
  refine w_hr rfl rfl rfl rfl hb (by decide) ?_
  refine w_N 2 39 [.ref 65] [.int 10, .ref 65] rfl ?_
  refine w_nai 70 10 rfl rfl hk4 (by decide) rfl (by decide) ?_
  refine w_hr rfl rfl rfl rfl hb (by decide) ?_
  refine w_N 2 47 [.ref 65] [.int 10, .ref 65] rfl ?_
  refine w_nai 71 10 rfl rfl hk5 (by decide) rfl (by decide) ?_
  refine w_hr rfl rfl rfl rfl hb (by decide) ?_
  refine w_N 2 55 [.ref 65] [.int 10, .ref 65] rfl ?_
  refine w_nai 72 10 rfl rfl hk6 (by decide) rfl (by decide) ?_
  refine w_hr rfl rfl rfl rfl hb (by decide) ?_
  refine w_N 2 63 [.ref 65] [.int 24, .ref 65] rfl ?_
  refine w_nai 73 24 rfl rfl hk7 (by decide) rfl (by decide) ?_
  refine w_hr rfl rfl rfl rfl hb (by decide) ?_
  refine w_N 2 70 [.ref 65] [.int 2, .ref 65] rfl ?_
  refine w_nai 74 2 rfl rfl hk8 (by decide) rfl (by decide) ?_
  refine w_hr rfl rfl rfl rfl hb (by decide) ?_
  refine w_N 2 77 [.ref 65] [.int 0, .ref 65] rfl ?_
  refine w_hi rfl rfl rfl rfl hb (by decide) ?_
  refine w_N 2 82 [.ref 65] [.int 0, .ref 65] rfl ?_
  refine w_hi rfl rfl rfl rfl hb (by decide) ?_
  refine w_N 2 87 [.ref 65] [.int 0, .ref 65] rfl ?_
  refine w_hi rfl rfl rfl rfl hb (by decide) ?_
  refine w_N 2 92 [.ref 65] [.int 0, .ref 65] rfl ?_
  refine w_hi rfl rfl rfl rfl hb (by decide) ?_
  refine w_N 2 97 [.ref 65] [.int 1, .ref 65] rfl ?_
  refine w_hi rfl rfl rfl rfl hb (by decide) ?_
  refine w_N 2 102 [.ref 65] [.int 0, .ref 65] rfl ?_
  refine w_hi rfl rfl rfl rfl hb (by decide) ?_
  refine w_N 2 107 [.ref 65] [.int 0, .ref 65] rfl ?_
  refine w_hb rfl rfl rfl rfl hb (by decide) (by decide) ?_
  refine w_N 2 112 [.ref 65] [.int 0, .ref 65] rfl ?_
  refine w_hi rfl rfl rfl rfl hb (by decide) ?_
  refine w_rv rfl rfl ?_
  rfl
def tT75 (h : lm_H) : lm_H := hpI (hpI (hpI (hpI (hpI (hpI (hpI (hpI (hpR (lm_arr (hpR (lm_arr (hpR (lm_arr (hpR (lm_arr (hpR (lm_arr (hpR (lm_arr (hpR (lm_arr (hpR (lm_arr (hpR (lm_arr h 76 1 10) 75 0 76) 77 1 10) 75 1 77) 78 1 10) 75 2 78) 79 1 10) 75 3 79) 80 1 10) 75 4 80) 81 1 10) 75 5 81) 82 1 10) 75 6 82) 83 1 24) 75 7 83) 84 1 2) 75 8 84) 75 9 0) 75 10 0) 75 11 0) 75 12 0) 75 13 1) 75 14 0) 75 15 0) 75 16 0
theorem fb_T75 {h h2 : lm_H} (f : fb h h2) : fb h (tT75 h2) := (fb_i (by decide) (fb_i (by decide) (fb_i (by decide) (fb_i (by decide) (fb_i (by decide) (fb_i (by decide) (fb_i (by decide) (fb_i (by decide) (fb_r (by decide) (fb_a (by decide) (fb_r (by decide) (fb_a (by decide) (fb_r (by decide) (fb_a (by decide) (fb_r (by decide) (fb_a (by decide) (fb_r (by decide) (fb_a (by decide) (fb_r (by decide) (fb_a (by decide) (fb_r (by decide) (fb_a (by decide) (fb_r (by decide) (fb_a (by decide) (fb_r (by decide) (fb_a (by decide) f))))))))))))))))))))))))))
theorem i_T75 {d : Nat} {h : lm_H} (hx : h.2.2.2.2.2.1 = 76) (hk0 : h.2.2.2.1 76 = 0) (hk1 : h.2.2.2.1 77 = 0) (hk2 : h.2.2.2.1 78 = 0) (hk3 : h.2.2.2.1 79 = 0) (hk4 : h.2.2.2.1 80 = 0) (hk5 : h.2.2.2.1 81 = 0) (hk6 : h.2.2.2.1 82 = 0) (hk7 : h.2.2.2.1 83 = 0) (hk8 : h.2.2.2.1 84 = 0) (hb : h.2.2.2.1 75 = 14) : lm_c d 52 [.ref 75] h (none, tT75 h) := by
  refine lm_c_of (lm_w_in (Nat.le_of_ble_eq_true rfl) ?_)
  show lm_wp d 52 0 [.ref 75] [] h _
  refine w_N 4 7 [.ref 75] [.int 10, .ref 75] rfl ?_
  refine w_nai 76 10 rfl hx hk0 (by decide) rfl (by decide) ?_
  refine w_hr rfl rfl rfl rfl hb (by decide) ?_
  refine w_N 2 15 [.ref 75] [.int 10, .ref 75] rfl ?_
  refine w_nai 77 10 rfl rfl hk1 (by decide) rfl (by decide) ?_
  refine w_hr rfl rfl rfl rfl hb (by decide) ?_
  refine w_N 2 23 [.ref 75] [.int 10, .ref 75] rfl ?_
  refine w_nai 78 10 rfl rfl hk2 (by decide) rfl (by decide) ?_
  refine w_hr rfl rfl rfl rfl hb (by decide) ?_
  refine w_N 2 31 [.ref 75] [.int 10, .ref 75] rfl ?_
  refine w_nai 79 10 rfl rfl hk3 (by decide) rfl (by decide) ?_
  refine w_hr rfl rfl rfl rfl hb (by decide) ?_
  refine w_N 2 39 [.ref 75] [.int 10, .ref 75] rfl ?_
  refine w_nai 80 10 rfl rfl hk4 (by decide) rfl (by decide) ?_
  refine w_hr rfl rfl rfl rfl hb (by decide) ?_
  refine w_N 2 47 [.ref 75] [.int 10, .ref 75] rfl ?_
  refine w_nai 81 10 rfl rfl hk5 (by decide) rfl (by decide) ?_
  refine w_hr rfl rfl rfl rfl hb (by decide) ?_
  refine w_N 2 55 [.ref 75] [.int 10, .ref 75] rfl ?_
  refine w_nai 82 10 rfl rfl hk6 (by decide) rfl (by decide) ?_
  refine w_hr rfl rfl rfl rfl hb (by decide) ?_
  refine w_N 2 63 [.ref 75] [.int 24, .ref 75] rfl ?_
  refine w_nai 83 24 rfl rfl hk7 (by decide) rfl (by decide) ?_
  refine w_hr rfl rfl rfl rfl hb (by decide) ?_
  refine w_N 2 70 [.ref 75] [.int 2, .ref 75] rfl ?_
  refine w_nai 84 2 rfl rfl hk8 (by decide) rfl (by decide) ?_
  refine w_hr rfl rfl rfl rfl hb (by decide) ?_
  refine w_N 2 77 [.ref 75] [.int 0, .ref 75] rfl ?_
  refine w_hi rfl rfl rfl rfl hb (by decide) ?_
  refine w_N 2 82 [.ref 75] [.int 0, .ref 75] rfl ?_
  refine w_hi rfl rfl rfl rfl hb (by decide) ?_
  refine w_N 2 87 [.ref 75] [.int 0, .ref 75] rfl ?_
  refine w_hi rfl rfl rfl rfl hb (by decide) ?_
  refine w_N 2 92 [.ref 75] [.int 0, .ref 75] rfl ?_
  refine w_hi rfl rfl rfl rfl hb (by decide) ?_
  refine w_N 2 97 [.ref 75] [.int 1, .ref 75] rfl ?_
  refine w_hi rfl rfl rfl rfl hb (by decide) ?_
  refine w_N 2 102 [.ref 75] [.int 0, .ref 75] rfl ?_
  refine w_hi rfl rfl rfl rfl hb (by decide) ?_
  refine w_N 2 107 [.ref 75] [.int 0, .ref 75] rfl ?_
  refine w_hb rfl rfl rfl rfl hb (by decide) (by decide) ?_
  refine w_N 2 112 [.ref 75] [.int 0, .ref 75] rfl ?_
  refine w_hi rfl rfl rfl rfl hb (by decide) ?_
  refine w_rv rfl rfl ?_
  rfl
def tT85 (h : lm_H) : lm_H := hpI (hpI (hpI (hpI (hpI (hpI (hpI (hpI (hpR (lm_arr (hpR (lm_arr (hpR (lm_arr (hpR (lm_arr (hpR (lm_arr (hpR (lm_arr (hpR (lm_arr (hpR (lm_arr (hpR (lm_arr h 86 1 10) 85 0 86) 87 1 10) 85 1 87) 88 1 10) 85 2 88) 89 1 10) 85 3 89) 90 1 10) 85 4 90) 91 1 10) 85 5 91) 92 1 10) 85 6 92) 93 1 24) 85 7 93) 94 1 2) 85 8 94) 85 9 0) 85 10 0) 85 11 0) 85 12 0) 85 13 1) 85 14 0) 85 15 0) 85 16 0
theorem fb_T85 {h h2 : lm_H} (f : fb h h2) : fb h (tT85 h2) := (fb_i (by decide) (fb_i (by decide) (fb_i (by decide) (fb_i (by decide) (fb_i (by decide) (fb_i (by decide) (fb_i (by decide) (fb_i (by decide) (fb_r (by decide) (fb_a (by decide) (fb_r (by decide) (fb_a (by decide) (fb_r (by decide) (fb_a (by decide) (fb_r (by decide) (fb_a (by decide) (fb_r (by decide) (fb_a (by decide) (fb_r (by decide) (fb_a (by decide) (fb_r (by decide) (fb_a (by decide) (fb_r (by decide) (fb_a (by decide) (fb_r (by decide) (fb_a (by decide) f))))))))))))))))))))))))))
theorem i_T85 {d : Nat} {h : lm_H} (hx : h.2.2.2.2.2.1 = 86) (hk0 : h.2.2.2.1 86 = 0) (hk1 : h.2.2.2.1 87 = 0) (hk2 : h.2.2.2.1 88 = 0) (hk3 : h.2.2.2.1 89 = 0) (hk4 : h.2.2.2.1 90 = 0) (hk5 : h.2.2.2.1 91 = 0) (hk6 : h.2.2.2.1 92 = 0) (hk7 : h.2.2.2.1 93 = 0) (hk8 : h.2.2.2.1 94 = 0) (hb : h.2.2.2.1 85 = 14) : lm_c d 52 [.ref 85] h (none, tT85 h) := by
  refine lm_c_of (lm_w_in (Nat.le_of_ble_eq_true rfl) ?_)
  show lm_wp d 52 0 [.ref 85] [] h _
  refine w_N 4 7 [.ref 85] [.int 10, .ref 85] rfl ?_
  refine w_nai 86 10 rfl hx hk0 (by decide) rfl (by decide) ?_
  refine w_hr rfl rfl rfl rfl hb (by decide) ?_
  refine w_N 2 15 [.ref 85] [.int 10, .ref 85] rfl ?_
  refine w_nai 87 10 rfl rfl hk1 (by decide) rfl (by decide) ?_
  refine w_hr rfl rfl rfl rfl hb (by decide) ?_
  refine w_N 2 23 [.ref 85] [.int 10, .ref 85] rfl ?_
  refine w_nai 88 10 rfl rfl hk2 (by decide) rfl (by decide) ?_
  refine w_hr rfl rfl rfl rfl hb (by decide) ?_
  refine w_N 2 31 [.ref 85] [.int 10, .ref 85] rfl ?_
  refine w_nai 89 10 rfl rfl hk3 (by decide) rfl (by decide) ?_
  refine w_hr rfl rfl rfl rfl hb (by decide) ?_
  refine w_N 2 39 [.ref 85] [.int 10, .ref 85] rfl ?_
  refine w_nai 90 10 rfl rfl hk4 (by decide) rfl (by decide) ?_
  refine w_hr rfl rfl rfl rfl hb (by decide) ?_
  refine w_N 2 47 [.ref 85] [.int 10, .ref 85] rfl ?_
  refine w_nai 91 10 rfl rfl hk5 (by decide) rfl (by decide) ?_
  refine w_hr rfl rfl rfl rfl hb (by decide) ?_
  refine w_N 2 55 [.ref 85] [.int 10, .ref 85] rfl ?_
  refine w_nai 92 10 rfl rfl hk6 (by decide) rfl (by decide) ?_
  refine w_hr rfl rfl rfl rfl hb (by decide) ?_
  refine w_N 2 63 [.ref 85] [.int 24, .ref 85] rfl ?_
  refine w_nai 93 24 rfl rfl hk7 (by decide) rfl (by decide) ?_
  refine w_hr rfl rfl rfl rfl hb (by decide) ?_
  refine w_N 2 70 [.ref 85] [.int 2, .ref 85] rfl ?_
  refine w_nai 94 2 rfl rfl hk8 (by decide) rfl (by decide) ?_
  refine w_hr rfl rfl rfl rfl hb (by decide) ?_
  refine w_N 2 77 [.ref 85] [.int 0, .ref 85] rfl ?_
  refine w_hi rfl rfl rfl rfl hb (by decide) ?_
  refine w_N 2 82 [.ref 85] [.int 0, .ref 85] rfl ?_
  refine w_hi rfl rfl rfl rfl hb (by decide) ?_
  refine w_N 2 87 [.ref 85] [.int 0, .ref 85] rfl ?_
  refine w_hi rfl rfl rfl rfl hb (by decide) ?_
  refine w_N 2 92 [.ref 85] [.int 0, .ref 85] rfl ?_
  refine w_hi rfl rfl rfl rfl hb (by decide) ?_
  refine w_N 2 97 [.ref 85] [.int 1, .ref 85] rfl ?_
  refine w_hi rfl rfl rfl rfl hb (by decide) ?_
  refine w_N 2 102 [.ref 85] [.int 0, .ref 85] rfl ?_
  refine w_hi rfl rfl rfl rfl hb (by decide) ?_
  refine w_N 2 107 [.ref 85] [.int 0, .ref 85] rfl ?_
  refine w_hb rfl rfl rfl rfl hb (by decide) (by decide) ?_
  refine w_N 2 112 [.ref 85] [.int 0, .ref 85] rfl ?_
  refine w_hi rfl rfl rfl rfl hb (by decide) ?_
  refine w_rv rfl rfl ?_
  rfl
def tP95 (h : lm_H) : lm_H := hpI (hpI (hpI (hpI (hpR (lm_arr h 96 1 250) 95 0 96) 95 1 0) 95 2 0) 95 3 0) 95 4 0
theorem fb_P95 {h h2 : lm_H} (f : fb h h2) : fb h (tP95 h2) := (fb_i (by decide) (fb_i (by decide) (fb_i (by decide) (fb_i (by decide) (fb_r (by decide) (fb_a (by decide) f))))))
theorem i_P95 {d : Nat} {h : lm_H} (hx : h.2.2.2.2.2.1 = 96) (hk0 : h.2.2.2.1 96 = 0) (hb : h.2.2.2.1 95 = 13) : lm_c d 36 [.ref 95] h (none, tP95 h) := by
  refine lm_c_of (lm_w_in (Nat.le_of_ble_eq_true rfl) ?_)
  show lm_wp d 36 0 [.ref 95] [] h _
  refine w_N 4 8 [.ref 95] [.int 250, .ref 95] rfl ?_
  refine w_nai 96 250 rfl hx hk0 (by decide) rfl (by decide) ?_
  refine w_hr rfl rfl rfl rfl hb (by decide) ?_
  refine w_N 2 15 [.ref 95] [.int 0, .ref 95] rfl ?_
  refine w_hi rfl rfl rfl rfl hb (by decide) ?_
  refine w_N 2 20 [.ref 95] [.int 0, .ref 95] rfl ?_
  refine w_hi rfl rfl rfl rfl hb (by decide) ?_
  refine w_N 2 25 [.ref 95] [.int 0, .ref 95] rfl ?_
  refine w_hi rfl rfl rfl rfl hb (by decide) ?_
  refine w_N 2 30 [.ref 95] [.int 0, .ref 95] rfl ?_
  refine w_hi rfl rfl rfl rfl hb (by decide) ?_
  refine w_rv rfl rfl ?_
  rfl
def tF98 (h : lm_H) : lm_H := hpR (hpI (hpR (lm_arr (hpR (lm_arr (hpR (lm_arr (hpR (lm_arr h 99 1 512) 98 1 99) 100 1 512) 98 2 100) 101 1 512) 98 3 101) 102 1 512) 98 4 102) 98 5 0) 98 0 65
theorem fb_F98 {h h2 : lm_H} (f : fb h h2) : fb h (tF98 h2) := (fb_r (by decide) (fb_i (by decide) (fb_r (by decide) (fb_a (by decide) (fb_r (by decide) (fb_a (by decide) (fb_r (by decide) (fb_a (by decide) (fb_r (by decide) (fb_a (by decide) f))))))))))
theorem i_F98 {d : Nat} {h : lm_H} (hx : h.2.2.2.2.2.1 = 99) (hk0 : h.2.2.2.1 99 = 0) (hk1 : h.2.2.2.1 100 = 0) (hk2 : h.2.2.2.1 101 = 0) (hk3 : h.2.2.2.1 102 = 0) (hb : h.2.2.2.1 98 = 10) : lm_c d 1 [.ref 98, .ref 65] h (none, tF98 h) := by
  refine lm_c_of (lm_w_in (Nat.le_of_ble_eq_true rfl) ?_)
  show lm_wp d 1 0 [.ref 98, .ref 65] [] h _
  refine w_N 4 8 [.ref 98, .ref 65] [.int 512, .ref 98] rfl ?_
  refine w_nai 99 512 rfl hx hk0 (by decide) rfl (by decide) ?_
  refine w_hr rfl rfl rfl rfl hb (by decide) ?_
  refine w_N 2 17 [.ref 98, .ref 65] [.int 512, .ref 98] rfl ?_
  refine w_nai 100 512 rfl rfl hk1 (by decide) rfl (by decide) ?_
  refine w_hr rfl rfl rfl rfl hb (by decide) ?_
  refine w_N 2 26 [.ref 98, .ref 65] [.int 512, .ref 98] rfl ?_
  refine w_nai 101 512 rfl rfl hk2 (by decide) rfl (by decide) ?_
  refine w_hr rfl rfl rfl rfl hb (by decide) ?_
  refine w_N 2 35 [.ref 98, .ref 65] [.int 512, .ref 98] rfl ?_
  refine w_nai 102 512 rfl rfl hk3 (by decide) rfl (by decide) ?_
  refine w_hr rfl rfl rfl rfl hb (by decide) ?_
  refine w_N 2 42 [.ref 98, .ref 65] [.int 0, .ref 98] rfl ?_
  refine w_hi rfl rfl rfl rfl hb (by decide) ?_
  refine w_N 2 47 [.ref 98, .ref 65] [.ref 65, .ref 98] rfl ?_
  refine w_hr rfl rfl rfl rfl hb (by decide) ?_
  refine w_rv rfl rfl ?_
  rfl
def tU103 (h : lm_H) : lm_H := hpR (hpR h 103 0 65) 103 1 98
theorem fb_U103 {h h2 : lm_H} (f : fb h h2) : fb h (tU103 h2) := (fb_r (by decide) (fb_r (by decide) f))
theorem i_U103 {d : Nat} {h : lm_H}  (hb : h.2.2.2.1 103 = 11) : lm_c d 8 [.ref 103, .ref 65, .ref 98] h (none, tU103 h) := by
  refine lm_c_of (lm_w_in (Nat.le_of_ble_eq_true rfl) ?_)
  show lm_wp d 8 0 [.ref 103, .ref 65, .ref 98] [] h _
  refine w_N 4 6 [.ref 103, .ref 65, .ref 98] [.ref 65, .ref 103] rfl ?_
  refine w_hr rfl rfl rfl rfl hb (by decide) ?_
  refine w_N 2 11 [.ref 103, .ref 65, .ref 98] [.ref 98, .ref 103] rfl ?_
  refine w_hr rfl rfl rfl rfl hb (by decide) ?_
  refine w_rv rfl rfl ?_
  rfl
def tY104 (h : lm_H) : lm_H := hpR (hpR (hpI (hpI (hpI (hpR (lm_arr h 105 1 2) 104 2 105) 104 3 0) 104 4 0) 104 5 (-1)) 104 0 65) 104 1 103
theorem fb_Y104 {h h2 : lm_H} (f : fb h h2) : fb h (tY104 h2) := (fb_r (by decide) (fb_r (by decide) (fb_i (by decide) (fb_i (by decide) (fb_i (by decide) (fb_r (by decide) (fb_a (by decide) f)))))))
theorem i_Y104 {d : Nat} {h : lm_H} (hx : h.2.2.2.2.2.1 = 105) (hk0 : h.2.2.2.1 105 = 0) (hb : h.2.2.2.1 104 = 15) : lm_c d 66 [.ref 104, .ref 65, .ref 103] h (none, tY104 h) := by
  refine lm_c_of (lm_w_in (Nat.le_of_ble_eq_true rfl) ?_)
  show lm_wp d 66 0 [.ref 104, .ref 65, .ref 103] [] h _
  refine w_N 4 6 [.ref 104, .ref 65, .ref 103] [.int 2, .ref 104] rfl ?_
  refine w_nai 105 2 rfl hx hk0 (by decide) rfl (by decide) ?_
  refine w_hr rfl rfl rfl rfl hb (by decide) ?_
  refine w_N 2 13 [.ref 104, .ref 65, .ref 103] [.int 0, .ref 104] rfl ?_
  refine w_hi rfl rfl rfl rfl hb (by decide) ?_
  refine w_N 2 18 [.ref 104, .ref 65, .ref 103] [.int 0, .ref 104] rfl ?_
  refine w_hi rfl rfl rfl rfl hb (by decide) ?_
  refine w_N 2 23 [.ref 104, .ref 65, .ref 103] [.int (-1), .ref 104] rfl ?_
  refine w_hi rfl rfl rfl rfl hb (by decide) ?_
  refine w_N 2 28 [.ref 104, .ref 65, .ref 103] [.ref 65, .ref 104] rfl ?_
  refine w_hr rfl rfl rfl rfl hb (by decide) ?_
  refine w_N 2 33 [.ref 104, .ref 65, .ref 103] [.ref 103, .ref 104] rfl ?_
  refine w_hr rfl rfl rfl rfl hb (by decide) ?_
  refine w_rv rfl rfl ?_
  rfl
def tS107 (h : lm_H) : lm_H := hpI (hpI (hpI (hpR (lm_arr h 108 2 40) 107 0 108) 107 1 (-1)) 107 2 0) 107 3 0
theorem fb_S107 {h h2 : lm_H} (f : fb h h2) : fb h (tS107 h2) := (fb_i (by decide) (fb_i (by decide) (fb_i (by decide) (fb_r (by decide) (fb_a (by decide) f)))))
theorem i_S107 {d : Nat} {h : lm_H} (hx : h.2.2.2.2.2.1 = 108) (hk0 : h.2.2.2.1 108 = 0) (hb : h.2.2.2.1 107 = 12) : lm_c d 19 [.ref 107] h (none, tS107 h) := by
  refine lm_c_of (lm_w_in (Nat.le_of_ble_eq_true rfl) ?_)
  show lm_wp d 19 0 [.ref 107] [] h _
  refine w_N 4 7 [.ref 107] [.int 40, .ref 107] rfl ?_
  refine w_nal 108 40 rfl hx hk0 (by decide) rfl (by decide) ?_
  refine w_hr rfl rfl rfl rfl hb (by decide) ?_
  refine w_N 2 14 [.ref 107] [.int (-1), .ref 107] rfl ?_
  refine w_hi rfl rfl rfl rfl hb (by decide) ?_
  refine w_N 2 19 [.ref 107] [.int 0, .ref 107] rfl ?_
  refine w_hi rfl rfl rfl rfl hb (by decide) ?_
  refine w_N 2 24 [.ref 107] [.int 0, .ref 107] rfl ?_
  refine w_hi rfl rfl rfl rfl hb (by decide) ?_
  refine w_rv rfl rfl ?_
  rfl
def tS109 (h : lm_H) : lm_H := hpI (hpI (hpI (hpR (lm_arr h 110 2 40) 109 0 110) 109 1 (-1)) 109 2 0) 109 3 0
theorem fb_S109 {h h2 : lm_H} (f : fb h h2) : fb h (tS109 h2) := (fb_i (by decide) (fb_i (by decide) (fb_i (by decide) (fb_r (by decide) (fb_a (by decide) f)))))
theorem i_S109 {d : Nat} {h : lm_H} (hx : h.2.2.2.2.2.1 = 110) (hk0 : h.2.2.2.1 110 = 0) (hb : h.2.2.2.1 109 = 12) : lm_c d 19 [.ref 109] h (none, tS109 h) := by
  refine lm_c_of (lm_w_in (Nat.le_of_ble_eq_true rfl) ?_)
  show lm_wp d 19 0 [.ref 109] [] h _
  refine w_N 4 7 [.ref 109] [.int 40, .ref 109] rfl ?_
  refine w_nal 110 40 rfl hx hk0 (by decide) rfl (by decide) ?_
  refine w_hr rfl rfl rfl rfl hb (by decide) ?_
  refine w_N 2 14 [.ref 109] [.int (-1), .ref 109] rfl ?_
  refine w_hi rfl rfl rfl rfl hb (by decide) ?_
  refine w_N 2 19 [.ref 109] [.int 0, .ref 109] rfl ?_
  refine w_hi rfl rfl rfl rfl hb (by decide) ?_
  refine w_N 2 24 [.ref 109] [.int 0, .ref 109] rfl ?_
  refine w_hi rfl rfl rfl rfl hb (by decide) ?_
  refine w_rv rfl rfl ?_
  rfl
def tS111 (h : lm_H) : lm_H := hpI (hpI (hpI (hpR (lm_arr h 112 2 40) 111 0 112) 111 1 (-1)) 111 2 0) 111 3 0
theorem fb_S111 {h h2 : lm_H} (f : fb h h2) : fb h (tS111 h2) := (fb_i (by decide) (fb_i (by decide) (fb_i (by decide) (fb_r (by decide) (fb_a (by decide) f)))))
theorem i_S111 {d : Nat} {h : lm_H} (hx : h.2.2.2.2.2.1 = 112) (hk0 : h.2.2.2.1 112 = 0) (hb : h.2.2.2.1 111 = 12) : lm_c d 19 [.ref 111] h (none, tS111 h) := by
  refine lm_c_of (lm_w_in (Nat.le_of_ble_eq_true rfl) ?_)
  show lm_wp d 19 0 [.ref 111] [] h _
  refine w_N 4 7 [.ref 111] [.int 40, .ref 111] rfl ?_
  refine w_nal 112 40 rfl hx hk0 (by decide) rfl (by decide) ?_
  refine w_hr rfl rfl rfl rfl hb (by decide) ?_
  refine w_N 2 14 [.ref 111] [.int (-1), .ref 111] rfl ?_
  refine w_hi rfl rfl rfl rfl hb (by decide) ?_
  refine w_N 2 19 [.ref 111] [.int 0, .ref 111] rfl ?_
  refine w_hi rfl rfl rfl rfl hb (by decide) ?_
  refine w_N 2 24 [.ref 111] [.int 0, .ref 111] rfl ?_
  refine w_hi rfl rfl rfl rfl hb (by decide) ?_
  refine w_rv rfl rfl ?_
  rfl
def tS113 (h : lm_H) : lm_H := hpI (hpI (hpI (hpR (lm_arr h 114 2 40) 113 0 114) 113 1 (-1)) 113 2 0) 113 3 0
theorem fb_S113 {h h2 : lm_H} (f : fb h h2) : fb h (tS113 h2) := (fb_i (by decide) (fb_i (by decide) (fb_i (by decide) (fb_r (by decide) (fb_a (by decide) f)))))
theorem i_S113 {d : Nat} {h : lm_H} (hx : h.2.2.2.2.2.1 = 114) (hk0 : h.2.2.2.1 114 = 0) (hb : h.2.2.2.1 113 = 12) : lm_c d 19 [.ref 113] h (none, tS113 h) := by
  refine lm_c_of (lm_w_in (Nat.le_of_ble_eq_true rfl) ?_)
  show lm_wp d 19 0 [.ref 113] [] h _
  refine w_N 4 7 [.ref 113] [.int 40, .ref 113] rfl ?_
  refine w_nal 114 40 rfl hx hk0 (by decide) rfl (by decide) ?_
  refine w_hr rfl rfl rfl rfl hb (by decide) ?_
  refine w_N 2 14 [.ref 113] [.int (-1), .ref 113] rfl ?_
  refine w_hi rfl rfl rfl rfl hb (by decide) ?_
  refine w_N 2 19 [.ref 113] [.int 0, .ref 113] rfl ?_
  refine w_hi rfl rfl rfl rfl hb (by decide) ?_
  refine w_N 2 24 [.ref 113] [.int 0, .ref 113] rfl ?_
  refine w_hi rfl rfl rfl rfl hb (by decide) ?_
  refine w_rv rfl rfl ?_
  rfl
def tS115 (h : lm_H) : lm_H := hpI (hpI (hpI (hpR (lm_arr h 116 2 40) 115 0 116) 115 1 (-1)) 115 2 0) 115 3 0
theorem fb_S115 {h h2 : lm_H} (f : fb h h2) : fb h (tS115 h2) := (fb_i (by decide) (fb_i (by decide) (fb_i (by decide) (fb_r (by decide) (fb_a (by decide) f)))))
theorem i_S115 {d : Nat} {h : lm_H} (hx : h.2.2.2.2.2.1 = 116) (hk0 : h.2.2.2.1 116 = 0) (hb : h.2.2.2.1 115 = 12) : lm_c d 19 [.ref 115] h (none, tS115 h) := by
  refine lm_c_of (lm_w_in (Nat.le_of_ble_eq_true rfl) ?_)
  show lm_wp d 19 0 [.ref 115] [] h _
  refine w_N 4 7 [.ref 115] [.int 40, .ref 115] rfl ?_
  refine w_nal 116 40 rfl hx hk0 (by decide) rfl (by decide) ?_
  refine w_hr rfl rfl rfl rfl hb (by decide) ?_
  refine w_N 2 14 [.ref 115] [.int (-1), .ref 115] rfl ?_
  refine w_hi rfl rfl rfl rfl hb (by decide) ?_
  refine w_N 2 19 [.ref 115] [.int 0, .ref 115] rfl ?_
  refine w_hi rfl rfl rfl rfl hb (by decide) ?_
  refine w_N 2 24 [.ref 115] [.int 0, .ref 115] rfl ?_
  refine w_hi rfl rfl rfl rfl hb (by decide) ?_
  refine w_rv rfl rfl ?_
  rfl
def tS117 (h : lm_H) : lm_H := hpI (hpI (hpI (hpR (lm_arr h 118 2 40) 117 0 118) 117 1 (-1)) 117 2 0) 117 3 0
theorem fb_S117 {h h2 : lm_H} (f : fb h h2) : fb h (tS117 h2) := (fb_i (by decide) (fb_i (by decide) (fb_i (by decide) (fb_r (by decide) (fb_a (by decide) f)))))
theorem i_S117 {d : Nat} {h : lm_H} (hx : h.2.2.2.2.2.1 = 118) (hk0 : h.2.2.2.1 118 = 0) (hb : h.2.2.2.1 117 = 12) : lm_c d 19 [.ref 117] h (none, tS117 h) := by
  refine lm_c_of (lm_w_in (Nat.le_of_ble_eq_true rfl) ?_)
  show lm_wp d 19 0 [.ref 117] [] h _
  refine w_N 4 7 [.ref 117] [.int 40, .ref 117] rfl ?_
  refine w_nal 118 40 rfl hx hk0 (by decide) rfl (by decide) ?_
  refine w_hr rfl rfl rfl rfl hb (by decide) ?_
  refine w_N 2 14 [.ref 117] [.int (-1), .ref 117] rfl ?_
  refine w_hi rfl rfl rfl rfl hb (by decide) ?_
  refine w_N 2 19 [.ref 117] [.int 0, .ref 117] rfl ?_
  refine w_hi rfl rfl rfl rfl hb (by decide) ?_
  refine w_N 2 24 [.ref 117] [.int 0, .ref 117] rfl ?_
  refine w_hi rfl rfl rfl rfl hb (by decide) ?_
  refine w_rv rfl rfl ?_
  rfl
def tS119 (h : lm_H) : lm_H := hpI (hpI (hpI (hpR (lm_arr h 120 2 40) 119 0 120) 119 1 (-1)) 119 2 0) 119 3 0
theorem fb_S119 {h h2 : lm_H} (f : fb h h2) : fb h (tS119 h2) := (fb_i (by decide) (fb_i (by decide) (fb_i (by decide) (fb_r (by decide) (fb_a (by decide) f)))))
theorem i_S119 {d : Nat} {h : lm_H} (hx : h.2.2.2.2.2.1 = 120) (hk0 : h.2.2.2.1 120 = 0) (hb : h.2.2.2.1 119 = 12) : lm_c d 19 [.ref 119] h (none, tS119 h) := by
  refine lm_c_of (lm_w_in (Nat.le_of_ble_eq_true rfl) ?_)
  show lm_wp d 19 0 [.ref 119] [] h _
  refine w_N 4 7 [.ref 119] [.int 40, .ref 119] rfl ?_
  refine w_nal 120 40 rfl hx hk0 (by decide) rfl (by decide) ?_
  refine w_hr rfl rfl rfl rfl hb (by decide) ?_
  refine w_N 2 14 [.ref 119] [.int (-1), .ref 119] rfl ?_
  refine w_hi rfl rfl rfl rfl hb (by decide) ?_
  refine w_N 2 19 [.ref 119] [.int 0, .ref 119] rfl ?_
  refine w_hi rfl rfl rfl rfl hb (by decide) ?_
  refine w_N 2 24 [.ref 119] [.int 0, .ref 119] rfl ?_
  refine w_hi rfl rfl rfl rfl hb (by decide) ?_
  refine w_rv rfl rfl ?_
  rfl
def tS121 (h : lm_H) : lm_H := hpI (hpI (hpI (hpR (lm_arr h 122 2 40) 121 0 122) 121 1 (-1)) 121 2 0) 121 3 0
theorem fb_S121 {h h2 : lm_H} (f : fb h h2) : fb h (tS121 h2) := (fb_i (by decide) (fb_i (by decide) (fb_i (by decide) (fb_r (by decide) (fb_a (by decide) f)))))
theorem i_S121 {d : Nat} {h : lm_H} (hx : h.2.2.2.2.2.1 = 122) (hk0 : h.2.2.2.1 122 = 0) (hb : h.2.2.2.1 121 = 12) : lm_c d 19 [.ref 121] h (none, tS121 h) := by
  refine lm_c_of (lm_w_in (Nat.le_of_ble_eq_true rfl) ?_)
  show lm_wp d 19 0 [.ref 121] [] h _
  refine w_N 4 7 [.ref 121] [.int 40, .ref 121] rfl ?_
  refine w_nal 122 40 rfl hx hk0 (by decide) rfl (by decide) ?_
  refine w_hr rfl rfl rfl rfl hb (by decide) ?_
  refine w_N 2 14 [.ref 121] [.int (-1), .ref 121] rfl ?_
  refine w_hi rfl rfl rfl rfl hb (by decide) ?_
  refine w_N 2 19 [.ref 121] [.int 0, .ref 121] rfl ?_
  refine w_hi rfl rfl rfl rfl hb (by decide) ?_
  refine w_N 2 24 [.ref 121] [.int 0, .ref 121] rfl ?_
  refine w_hi rfl rfl rfl rfl hb (by decide) ?_
  refine w_rv rfl rfl ?_
  rfl
def hx1 (h : lm_H) : lm_H := lm_new h 65 4 17
theorem fb_hx1 {h h2 : lm_H} (f : fb h h2) : fb h (hx1 h2) := fb_n (by decide) f
def hx2 (h : lm_H) : lm_H := tT65 (hx1 h)
theorem fb_hx2 {h h2 : lm_H} (f : fb h h2) : fb h (hx2 h2) := fb_T65 (fb_hx1 f)
def hx3 (h : lm_H) : lm_H := hpR (hx2 h) 64 0 65
theorem fb_hx3 {h h2 : lm_H} (f : fb h h2) : fb h (hx3 h2) := fb_r (by decide) (fb_hx2 f)
def hx4 (h : lm_H) : lm_H := lm_new (hx3 h) 75 4 17
theorem fb_hx4 {h h2 : lm_H} (f : fb h h2) : fb h (hx4 h2) := fb_n (by decide) (fb_hx3 f)
def hx5 (h : lm_H) : lm_H := tT75 (hx4 h)
theorem fb_hx5 {h h2 : lm_H} (f : fb h h2) : fb h (hx5 h2) := fb_T75 (fb_hx4 f)
def hx6 (h : lm_H) : lm_H := hpR (hx5 h) 64 1 75
theorem fb_hx6 {h h2 : lm_H} (f : fb h h2) : fb h (hx6 h2) := fb_r (by decide) (fb_hx5 f)
def hx7 (h : lm_H) : lm_H := lm_new (hx6 h) 85 4 17
theorem fb_hx7 {h h2 : lm_H} (f : fb h h2) : fb h (hx7 h2) := fb_n (by decide) (fb_hx6 f)
def hx8 (h : lm_H) : lm_H := tT85 (hx7 h)
theorem fb_hx8 {h h2 : lm_H} (f : fb h h2) : fb h (hx8 h2) := fb_T85 (fb_hx7 f)
def hx9 (h : lm_H) : lm_H := hpR (hx8 h) 64 2 85
theorem fb_hx9 {h h2 : lm_H} (f : fb h h2) : fb h (hx9 h2) := fb_r (by decide) (fb_hx8 f)
def hx10 (h : lm_H) : lm_H := hpI (hx9 h) 64 3 0
theorem fb_hx10 {h h2 : lm_H} (f : fb h h2) : fb h (hx10 h2) := fb_i (by decide) (fb_hx9 f)
def hx11 (h : lm_H) : lm_H := lm_new (hx10 h) 95 3 5
theorem fb_hx11 {h h2 : lm_H} (f : fb h h2) : fb h (hx11 h2) := fb_n (by decide) (fb_hx10 f)
def hx12 (h : lm_H) : lm_H := tP95 (hx11 h)
theorem fb_hx12 {h h2 : lm_H} (f : fb h h2) : fb h (hx12 h2) := fb_P95 (fb_hx11 f)
def hx13 (h : lm_H) : lm_H := hpR (hx12 h) 64 4 95
theorem fb_hx13 {h h2 : lm_H} (f : fb h h2) : fb h (hx13 h2) := fb_r (by decide) (fb_hx12 f)
def hx14 (h : lm_H) : lm_H := lm_arr (hx13 h) 97 4 8
theorem fb_hx14 {h h2 : lm_H} (f : fb h h2) : fb h (hx14 h2) := fb_a (by decide) (fb_hx13 f)
def hx15 (h : lm_H) : lm_H := hpR (hx14 h) 64 5 97
theorem fb_hx15 {h h2 : lm_H} (f : fb h h2) : fb h (hx15 h2) := fb_r (by decide) (fb_hx14 f)
def hx16 (h : lm_H) : lm_H := lm_new (hx15 h) 98 0 6
theorem fb_hx16 {h h2 : lm_H} (f : fb h h2) : fb h (hx16 h2) := fb_n (by decide) (fb_hx15 f)
def hx17 (h : lm_H) : lm_H := tF98 (hx16 h)
theorem fb_hx17 {h h2 : lm_H} (f : fb h h2) : fb h (hx17 h2) := fb_F98 (fb_hx16 f)
def hx18 (h : lm_H) : lm_H := hpR (hx17 h) 64 6 98
theorem fb_hx18 {h h2 : lm_H} (f : fb h h2) : fb h (hx18 h2) := fb_r (by decide) (fb_hx17 f)
def hx19 (h : lm_H) : lm_H := lm_new (hx18 h) 103 1 2
theorem fb_hx19 {h h2 : lm_H} (f : fb h h2) : fb h (hx19 h2) := fb_n (by decide) (fb_hx18 f)
def hx20 (h : lm_H) : lm_H := tU103 (hx19 h)
theorem fb_hx20 {h h2 : lm_H} (f : fb h h2) : fb h (hx20 h2) := fb_U103 (fb_hx19 f)
def hx21 (h : lm_H) : lm_H := hpR (hx20 h) 64 7 103
theorem fb_hx21 {h h2 : lm_H} (f : fb h h2) : fb h (hx21 h2) := fb_r (by decide) (fb_hx20 f)
def hx22 (h : lm_H) : lm_H := lm_new (hx21 h) 104 5 6
theorem fb_hx22 {h h2 : lm_H} (f : fb h h2) : fb h (hx22 h2) := fb_n (by decide) (fb_hx21 f)
def hx23 (h : lm_H) : lm_H := tY104 (hx22 h)
theorem fb_hx23 {h h2 : lm_H} (f : fb h h2) : fb h (hx23 h2) := fb_Y104 (fb_hx22 f)
def hx24 (h : lm_H) : lm_H := hpR (hx23 h) 64 8 104
theorem fb_hx24 {h h2 : lm_H} (f : fb h h2) : fb h (hx24 h2) := fb_r (by decide) (fb_hx23 f)
def hx25 (h : lm_H) : lm_H := lm_arr (hx24 h) 106 1 5
theorem fb_hx25 {h h2 : lm_H} (f : fb h h2) : fb h (hx25 h2) := fb_a (by decide) (fb_hx24 f)
def hx26 (h : lm_H) : lm_H := hpR (hx25 h) 64 9 106
theorem fb_hx26 {h h2 : lm_H} (f : fb h h2) : fb h (hx26 h2) := fb_r (by decide) (fb_hx25 f)
def hx27 (h : lm_H) : lm_H := lm_new (hx26 h) 107 2 4
theorem fb_hx27 {h h2 : lm_H} (f : fb h h2) : fb h (hx27 h2) := fb_n (by decide) (fb_hx26 f)
def hx28 (h : lm_H) : lm_H := tS107 (hx27 h)
theorem fb_hx28 {h h2 : lm_H} (f : fb h h2) : fb h (hx28 h2) := fb_S107 (fb_hx27 f)
def hx29 (h : lm_H) : lm_H := hpR (hx28 h) 97 0 107
theorem fb_hx29 {h h2 : lm_H} (f : fb h h2) : fb h (hx29 h2) := fb_r (by decide) (fb_hx28 f)
def hx30 (h : lm_H) : lm_H := lm_new (hx29 h) 109 2 4
theorem fb_hx30 {h h2 : lm_H} (f : fb h h2) : fb h (hx30 h2) := fb_n (by decide) (fb_hx29 f)
def hx31 (h : lm_H) : lm_H := tS109 (hx30 h)
theorem fb_hx31 {h h2 : lm_H} (f : fb h h2) : fb h (hx31 h2) := fb_S109 (fb_hx30 f)
def hx32 (h : lm_H) : lm_H := hpR (hx31 h) 97 1 109
theorem fb_hx32 {h h2 : lm_H} (f : fb h h2) : fb h (hx32 h2) := fb_r (by decide) (fb_hx31 f)
def hx33 (h : lm_H) : lm_H := lm_new (hx32 h) 111 2 4
theorem fb_hx33 {h h2 : lm_H} (f : fb h h2) : fb h (hx33 h2) := fb_n (by decide) (fb_hx32 f)
def hx34 (h : lm_H) : lm_H := tS111 (hx33 h)
theorem fb_hx34 {h h2 : lm_H} (f : fb h h2) : fb h (hx34 h2) := fb_S111 (fb_hx33 f)
def hx35 (h : lm_H) : lm_H := hpR (hx34 h) 97 2 111
theorem fb_hx35 {h h2 : lm_H} (f : fb h h2) : fb h (hx35 h2) := fb_r (by decide) (fb_hx34 f)
def hx36 (h : lm_H) : lm_H := lm_new (hx35 h) 113 2 4
theorem fb_hx36 {h h2 : lm_H} (f : fb h h2) : fb h (hx36 h2) := fb_n (by decide) (fb_hx35 f)
def hx37 (h : lm_H) : lm_H := tS113 (hx36 h)
theorem fb_hx37 {h h2 : lm_H} (f : fb h h2) : fb h (hx37 h2) := fb_S113 (fb_hx36 f)
def hx38 (h : lm_H) : lm_H := hpR (hx37 h) 97 3 113
theorem fb_hx38 {h h2 : lm_H} (f : fb h h2) : fb h (hx38 h2) := fb_r (by decide) (fb_hx37 f)
def hx39 (h : lm_H) : lm_H := lm_new (hx38 h) 115 2 4
theorem fb_hx39 {h h2 : lm_H} (f : fb h h2) : fb h (hx39 h2) := fb_n (by decide) (fb_hx38 f)
def hx40 (h : lm_H) : lm_H := tS115 (hx39 h)
theorem fb_hx40 {h h2 : lm_H} (f : fb h h2) : fb h (hx40 h2) := fb_S115 (fb_hx39 f)
def hx41 (h : lm_H) : lm_H := hpR (hx40 h) 97 4 115
theorem fb_hx41 {h h2 : lm_H} (f : fb h h2) : fb h (hx41 h2) := fb_r (by decide) (fb_hx40 f)
def hx42 (h : lm_H) : lm_H := lm_new (hx41 h) 117 2 4
theorem fb_hx42 {h h2 : lm_H} (f : fb h h2) : fb h (hx42 h2) := fb_n (by decide) (fb_hx41 f)
def hx43 (h : lm_H) : lm_H := tS117 (hx42 h)
theorem fb_hx43 {h h2 : lm_H} (f : fb h h2) : fb h (hx43 h2) := fb_S117 (fb_hx42 f)
def hx44 (h : lm_H) : lm_H := hpR (hx43 h) 97 5 117
theorem fb_hx44 {h h2 : lm_H} (f : fb h h2) : fb h (hx44 h2) := fb_r (by decide) (fb_hx43 f)
def hx45 (h : lm_H) : lm_H := lm_new (hx44 h) 119 2 4
theorem fb_hx45 {h h2 : lm_H} (f : fb h h2) : fb h (hx45 h2) := fb_n (by decide) (fb_hx44 f)
def hx46 (h : lm_H) : lm_H := tS119 (hx45 h)
theorem fb_hx46 {h h2 : lm_H} (f : fb h h2) : fb h (hx46 h2) := fb_S119 (fb_hx45 f)
def hx47 (h : lm_H) : lm_H := hpR (hx46 h) 97 6 119
theorem fb_hx47 {h h2 : lm_H} (f : fb h h2) : fb h (hx47 h2) := fb_r (by decide) (fb_hx46 f)
def hx48 (h : lm_H) : lm_H := lm_new (hx47 h) 121 2 4
theorem fb_hx48 {h h2 : lm_H} (f : fb h h2) : fb h (hx48 h2) := fb_n (by decide) (fb_hx47 f)
def hx49 (h : lm_H) : lm_H := tS121 (hx48 h)
theorem fb_hx49 {h h2 : lm_H} (f : fb h h2) : fb h (hx49 h2) := fb_S121 (fb_hx48 f)
def hx50 (h : lm_H) : lm_H := hpR (hx49 h) 97 7 121
theorem fb_hx50 {h h2 : lm_H} (f : fb h h2) : fb h (hx50 h2) := fb_r (by decide) (fb_hx49 f)
theorem i_X {d : Nat} {h : lm_H} (hx : h.2.2.2.2.2.1 = 65) (hk : ∀ a, 64 < a → h.2.2.2.1 a = 0) (hb : h.2.2.2.1 64 = 16) : lm_c (d + 1) 71 [.ref 64] h (none, hx50 h) := by
  refine lm_c_of (lm_w_in (Nat.le_of_ble_eq_true rfl) ?_)
  show lm_wp (d + 1) 71 0 [.ref 64, lm_jk] [] h _
  refine w_N 3 5 [.ref 64, lm_jk] [.ref 64] rfl ?_
  refine w_new 65 rfl rfl hx (hk 65 (by decide)) (by decide) (by decide) ?_
  show lm_wp (d + 1) 71 8 [.ref 64, lm_jk] [.ref 65, .ref 64] (hx1 h) _
  refine w_N 1 9 [.ref 64, lm_jk] [.ref 65, .ref 65, .ref 64] rfl ?_
  refine w_cc rfl (i_T65 rfl (hk 66 (by decide)) (hk 67 (by decide)) (hk 68 (by decide)) (hk 69 (by decide)) (hk 70 (by decide)) (hk 71 (by decide)) (hk 72 (by decide)) (hk 73 (by decide)) (hk 74 (by decide)) rfl) ?_
  show lm_wp (d + 1) 71 12 [.ref 64, lm_jk] [.ref 65, .ref 64] (hx2 h) _
  refine w_hr rfl rfl rfl rfl hb (by decide) ?_
  show lm_wp (d + 1) 71 15 [.ref 64, lm_jk] [] (hx3 h) _
  refine w_N 1 16 [.ref 64, lm_jk] [.ref 64] rfl ?_
  refine w_new 75 rfl rfl rfl (hk 75 (by decide)) (by decide) (by decide) ?_
  show lm_wp (d + 1) 71 19 [.ref 64, lm_jk] [.ref 75, .ref 64] (hx4 h) _
  refine w_N 1 20 [.ref 64, lm_jk] [.ref 75, .ref 75, .ref 64] rfl ?_
  refine w_cc rfl (i_T75 rfl (hk 76 (by decide)) (hk 77 (by decide)) (hk 78 (by decide)) (hk 79 (by decide)) (hk 80 (by decide)) (hk 81 (by decide)) (hk 82 (by decide)) (hk 83 (by decide)) (hk 84 (by decide)) rfl) ?_
  show lm_wp (d + 1) 71 23 [.ref 64, lm_jk] [.ref 75, .ref 64] (hx5 h) _
  refine w_hr rfl rfl rfl rfl hb (by decide) ?_
  show lm_wp (d + 1) 71 26 [.ref 64, lm_jk] [] (hx6 h) _
  refine w_N 1 27 [.ref 64, lm_jk] [.ref 64] rfl ?_
  refine w_new 85 rfl rfl rfl (hk 85 (by decide)) (by decide) (by decide) ?_
  show lm_wp (d + 1) 71 30 [.ref 64, lm_jk] [.ref 85, .ref 64] (hx7 h) _
  refine w_N 1 31 [.ref 64, lm_jk] [.ref 85, .ref 85, .ref 64] rfl ?_
  refine w_cc rfl (i_T85 rfl (hk 86 (by decide)) (hk 87 (by decide)) (hk 88 (by decide)) (hk 89 (by decide)) (hk 90 (by decide)) (hk 91 (by decide)) (hk 92 (by decide)) (hk 93 (by decide)) (hk 94 (by decide)) rfl) ?_
  show lm_wp (d + 1) 71 34 [.ref 64, lm_jk] [.ref 85, .ref 64] (hx8 h) _
  refine w_hr rfl rfl rfl rfl hb (by decide) ?_
  show lm_wp (d + 1) 71 37 [.ref 64, lm_jk] [] (hx9 h) _
  refine w_N 2 39 [.ref 64, lm_jk] [.int 0, .ref 64] rfl ?_
  refine w_hb rfl rfl rfl rfl hb (by decide) (by decide) ?_
  show lm_wp (d + 1) 71 42 [.ref 64, lm_jk] [] (hx10 h) _
  refine w_N 1 43 [.ref 64, lm_jk] [.ref 64] rfl ?_
  refine w_new 95 rfl rfl rfl (hk 95 (by decide)) (by decide) (by decide) ?_
  show lm_wp (d + 1) 71 46 [.ref 64, lm_jk] [.ref 95, .ref 64] (hx11 h) _
  refine w_N 1 47 [.ref 64, lm_jk] [.ref 95, .ref 95, .ref 64] rfl ?_
  refine w_cc rfl (i_P95 rfl (hk 96 (by decide)) rfl) ?_
  show lm_wp (d + 1) 71 50 [.ref 64, lm_jk] [.ref 95, .ref 64] (hx12 h) _
  refine w_hr rfl rfl rfl rfl hb (by decide) ?_
  show lm_wp (d + 1) 71 53 [.ref 64, lm_jk] [] (hx13 h) _
  refine w_N 2 56 [.ref 64, lm_jk] [.int 8, .ref 64] rfl ?_
  refine w_anew 97 8 rfl rfl rfl (hk 97 (by decide)) (by decide) rfl (by decide) ?_
  show lm_wp (d + 1) 71 59 [.ref 64, lm_jk] [.ref 97, .ref 64] (hx14 h) _
  refine w_hr rfl rfl rfl rfl hb (by decide) ?_
  show lm_wp (d + 1) 71 62 [.ref 64, lm_jk] [] (hx15 h) _
  refine w_N 1 63 [.ref 64, lm_jk] [.ref 64] rfl ?_
  refine w_new 98 rfl rfl rfl (hk 98 (by decide)) (by decide) (by decide) ?_
  show lm_wp (d + 1) 71 66 [.ref 64, lm_jk] [.ref 98, .ref 64] (hx16 h) _
  refine w_N 2 68 [.ref 64, lm_jk] [.ref 64, .ref 98, .ref 98, .ref 64] rfl ?_
  refine w_hg 65 rfl rfl rfl hb rfl ?_
  show lm_wp (d + 1) 71 71 [.ref 64, lm_jk] [.ref 65, .ref 98, .ref 98, .ref 64] (hx16 h) _
  refine w_cc rfl (i_F98 rfl (hk 99 (by decide)) (hk 100 (by decide)) (hk 101 (by decide)) (hk 102 (by decide)) rfl) ?_
  show lm_wp (d + 1) 71 74 [.ref 64, lm_jk] [.ref 98, .ref 64] (hx17 h) _
  refine w_hr rfl rfl rfl rfl hb (by decide) ?_
  show lm_wp (d + 1) 71 77 [.ref 64, lm_jk] [] (hx18 h) _
  refine w_N 1 78 [.ref 64, lm_jk] [.ref 64] rfl ?_
  refine w_new 103 rfl rfl rfl (hk 103 (by decide)) (by decide) (by decide) ?_
  show lm_wp (d + 1) 71 81 [.ref 64, lm_jk] [.ref 103, .ref 64] (hx19 h) _
  refine w_N 2 83 [.ref 64, lm_jk] [.ref 64, .ref 103, .ref 103, .ref 64] rfl ?_
  refine w_hg 65 rfl rfl rfl hb rfl ?_
  show lm_wp (d + 1) 71 86 [.ref 64, lm_jk] [.ref 65, .ref 103, .ref 103, .ref 64] (hx19 h) _
  refine w_N 1 87 [.ref 64, lm_jk] [.ref 64, .ref 65, .ref 103, .ref 103, .ref 64] rfl ?_
  refine w_hg 98 rfl rfl rfl hb rfl ?_
  show lm_wp (d + 1) 71 90 [.ref 64, lm_jk] [.ref 98, .ref 65, .ref 103, .ref 103, .ref 64] (hx19 h) _
  refine w_cc rfl (i_U103 rfl) ?_
  show lm_wp (d + 1) 71 93 [.ref 64, lm_jk] [.ref 103, .ref 64] (hx20 h) _
  refine w_hr rfl rfl rfl rfl hb (by decide) ?_
  show lm_wp (d + 1) 71 96 [.ref 64, lm_jk] [] (hx21 h) _
  refine w_N 1 97 [.ref 64, lm_jk] [.ref 64] rfl ?_
  refine w_new 104 rfl rfl rfl (hk 104 (by decide)) (by decide) (by decide) ?_
  show lm_wp (d + 1) 71 100 [.ref 64, lm_jk] [.ref 104, .ref 64] (hx22 h) _
  refine w_N 2 102 [.ref 64, lm_jk] [.ref 64, .ref 104, .ref 104, .ref 64] rfl ?_
  refine w_hg 65 rfl rfl rfl hb rfl ?_
  show lm_wp (d + 1) 71 105 [.ref 64, lm_jk] [.ref 65, .ref 104, .ref 104, .ref 64] (hx22 h) _
  refine w_N 1 106 [.ref 64, lm_jk] [.ref 64, .ref 65, .ref 104, .ref 104, .ref 64] rfl ?_
  refine w_hg 103 rfl rfl rfl hb rfl ?_
  show lm_wp (d + 1) 71 109 [.ref 64, lm_jk] [.ref 103, .ref 65, .ref 104, .ref 104, .ref 64] (hx22 h) _
  refine w_cc rfl (i_Y104 rfl (hk 105 (by decide)) rfl) ?_
  show lm_wp (d + 1) 71 112 [.ref 64, lm_jk] [.ref 104, .ref 64] (hx23 h) _
  refine w_hr rfl rfl rfl rfl hb (by decide) ?_
  show lm_wp (d + 1) 71 115 [.ref 64, lm_jk] [] (hx24 h) _
  refine w_N 2 117 [.ref 64, lm_jk] [.int 5, .ref 64] rfl ?_
  refine w_nai 106 5 rfl rfl (hk 106 (by decide)) (by decide) rfl (by decide) ?_
  show lm_wp (d + 1) 71 119 [.ref 64, lm_jk] [.ref 106, .ref 64] (hx25 h) _
  refine w_hr rfl rfl rfl rfl hb (by decide) ?_
  show lm_wp (d + 1) 71 122 [.ref 64, lm_jk] [] (hx26 h) _
  refine w_N 4 127 [.ref 64, .int 0] [.int 8, .int 0] rfl ?_
  refine w_icmp_ge_f (t := 149) rfl rfl (by decide) ?_
  show lm_wp (d + 1) 71 130 [.ref 64, .int 0] [] (hx26 h) _
  refine w_N 1 131 [.ref 64, .int 0] [.ref 64] rfl ?_
  refine w_hg 97 rfl rfl rfl hb rfl ?_
  show lm_wp (d + 1) 71 134 [.ref 64, .int 0] [.ref 97] (hx26 h) _
  refine w_N 1 135 [.ref 64, .int 0] [.int 0, .ref 97] rfl ?_
  refine w_new 107 rfl rfl rfl (hk 107 (by decide)) (by decide) (by decide) ?_
  show lm_wp (d + 1) 71 138 [.ref 64, .int 0] [.ref 107, .int 0, .ref 97] (hx27 h) _
  refine w_N 1 139 [.ref 64, .int 0] [.ref 107, .ref 107, .int 0, .ref 97] rfl ?_
  refine w_cc rfl (i_S107 rfl (hk 108 (by decide)) rfl) ?_
  show lm_wp (d + 1) 71 142 [.ref 64, .int 0] [.ref 107, .int 0, .ref 97] (hx28 h) _
  refine w_aas (n := 8) 0 rfl rfl (by decide) (by decide) rfl rfl rfl (by decide : 0 < 8) (by decide) ?_
  show lm_wp (d + 1) 71 143 [.ref 64, .int 0] [] (hx29 h) _
  refine w_N 4 127 [.ref 64, .int 1] [.int 8, .int 1] rfl ?_
  refine w_icmp_ge_f (t := 149) rfl rfl (by decide) ?_
  show lm_wp (d + 1) 71 130 [.ref 64, .int 1] [] (hx29 h) _
  refine w_N 1 131 [.ref 64, .int 1] [.ref 64] rfl ?_
  refine w_hg 97 rfl rfl rfl hb rfl ?_
  show lm_wp (d + 1) 71 134 [.ref 64, .int 1] [.ref 97] (hx29 h) _
  refine w_N 1 135 [.ref 64, .int 1] [.int 1, .ref 97] rfl ?_
  refine w_new 109 rfl rfl rfl (hk 109 (by decide)) (by decide) (by decide) ?_
  show lm_wp (d + 1) 71 138 [.ref 64, .int 1] [.ref 109, .int 1, .ref 97] (hx30 h) _
  refine w_N 1 139 [.ref 64, .int 1] [.ref 109, .ref 109, .int 1, .ref 97] rfl ?_
  refine w_cc rfl (i_S109 rfl (hk 110 (by decide)) rfl) ?_
  show lm_wp (d + 1) 71 142 [.ref 64, .int 1] [.ref 109, .int 1, .ref 97] (hx31 h) _
  refine w_aas (n := 8) 1 rfl rfl (by decide) (by decide) rfl rfl rfl (by decide : 1 < 8) (by decide) ?_
  show lm_wp (d + 1) 71 143 [.ref 64, .int 1] [] (hx32 h) _
  refine w_N 4 127 [.ref 64, .int 2] [.int 8, .int 2] rfl ?_
  refine w_icmp_ge_f (t := 149) rfl rfl (by decide) ?_
  show lm_wp (d + 1) 71 130 [.ref 64, .int 2] [] (hx32 h) _
  refine w_N 1 131 [.ref 64, .int 2] [.ref 64] rfl ?_
  refine w_hg 97 rfl rfl rfl hb rfl ?_
  show lm_wp (d + 1) 71 134 [.ref 64, .int 2] [.ref 97] (hx32 h) _
  refine w_N 1 135 [.ref 64, .int 2] [.int 2, .ref 97] rfl ?_
  refine w_new 111 rfl rfl rfl (hk 111 (by decide)) (by decide) (by decide) ?_
  show lm_wp (d + 1) 71 138 [.ref 64, .int 2] [.ref 111, .int 2, .ref 97] (hx33 h) _
  refine w_N 1 139 [.ref 64, .int 2] [.ref 111, .ref 111, .int 2, .ref 97] rfl ?_
  refine w_cc rfl (i_S111 rfl (hk 112 (by decide)) rfl) ?_
  show lm_wp (d + 1) 71 142 [.ref 64, .int 2] [.ref 111, .int 2, .ref 97] (hx34 h) _
  refine w_aas (n := 8) 2 rfl rfl (by decide) (by decide) rfl rfl rfl (by decide : 2 < 8) (by decide) ?_
  show lm_wp (d + 1) 71 143 [.ref 64, .int 2] [] (hx35 h) _
  refine w_N 4 127 [.ref 64, .int 3] [.int 8, .int 3] rfl ?_
  refine w_icmp_ge_f (t := 149) rfl rfl (by decide) ?_
  show lm_wp (d + 1) 71 130 [.ref 64, .int 3] [] (hx35 h) _
  refine w_N 1 131 [.ref 64, .int 3] [.ref 64] rfl ?_
  refine w_hg 97 rfl rfl rfl hb rfl ?_
  show lm_wp (d + 1) 71 134 [.ref 64, .int 3] [.ref 97] (hx35 h) _
  refine w_N 1 135 [.ref 64, .int 3] [.int 3, .ref 97] rfl ?_
  refine w_new 113 rfl rfl rfl (hk 113 (by decide)) (by decide) (by decide) ?_
  show lm_wp (d + 1) 71 138 [.ref 64, .int 3] [.ref 113, .int 3, .ref 97] (hx36 h) _
  refine w_N 1 139 [.ref 64, .int 3] [.ref 113, .ref 113, .int 3, .ref 97] rfl ?_
  refine w_cc rfl (i_S113 rfl (hk 114 (by decide)) rfl) ?_
  show lm_wp (d + 1) 71 142 [.ref 64, .int 3] [.ref 113, .int 3, .ref 97] (hx37 h) _
  refine w_aas (n := 8) 3 rfl rfl (by decide) (by decide) rfl rfl rfl (by decide : 3 < 8) (by decide) ?_
  show lm_wp (d + 1) 71 143 [.ref 64, .int 3] [] (hx38 h) _
  refine w_N 4 127 [.ref 64, .int 4] [.int 8, .int 4] rfl ?_
  refine w_icmp_ge_f (t := 149) rfl rfl (by decide) ?_
  show lm_wp (d + 1) 71 130 [.ref 64, .int 4] [] (hx38 h) _
  refine w_N 1 131 [.ref 64, .int 4] [.ref 64] rfl ?_
  refine w_hg 97 rfl rfl rfl hb rfl ?_
  show lm_wp (d + 1) 71 134 [.ref 64, .int 4] [.ref 97] (hx38 h) _
  refine w_N 1 135 [.ref 64, .int 4] [.int 4, .ref 97] rfl ?_
  refine w_new 115 rfl rfl rfl (hk 115 (by decide)) (by decide) (by decide) ?_
  show lm_wp (d + 1) 71 138 [.ref 64, .int 4] [.ref 115, .int 4, .ref 97] (hx39 h) _
  refine w_N 1 139 [.ref 64, .int 4] [.ref 115, .ref 115, .int 4, .ref 97] rfl ?_
  refine w_cc rfl (i_S115 rfl (hk 116 (by decide)) rfl) ?_
  show lm_wp (d + 1) 71 142 [.ref 64, .int 4] [.ref 115, .int 4, .ref 97] (hx40 h) _
  refine w_aas (n := 8) 4 rfl rfl (by decide) (by decide) rfl rfl rfl (by decide : 4 < 8) (by decide) ?_
  show lm_wp (d + 1) 71 143 [.ref 64, .int 4] [] (hx41 h) _
  refine w_N 4 127 [.ref 64, .int 5] [.int 8, .int 5] rfl ?_
  refine w_icmp_ge_f (t := 149) rfl rfl (by decide) ?_
  show lm_wp (d + 1) 71 130 [.ref 64, .int 5] [] (hx41 h) _
  refine w_N 1 131 [.ref 64, .int 5] [.ref 64] rfl ?_
  refine w_hg 97 rfl rfl rfl hb rfl ?_
  show lm_wp (d + 1) 71 134 [.ref 64, .int 5] [.ref 97] (hx41 h) _
  refine w_N 1 135 [.ref 64, .int 5] [.int 5, .ref 97] rfl ?_
  refine w_new 117 rfl rfl rfl (hk 117 (by decide)) (by decide) (by decide) ?_
  show lm_wp (d + 1) 71 138 [.ref 64, .int 5] [.ref 117, .int 5, .ref 97] (hx42 h) _
  refine w_N 1 139 [.ref 64, .int 5] [.ref 117, .ref 117, .int 5, .ref 97] rfl ?_
  refine w_cc rfl (i_S117 rfl (hk 118 (by decide)) rfl) ?_
  show lm_wp (d + 1) 71 142 [.ref 64, .int 5] [.ref 117, .int 5, .ref 97] (hx43 h) _
  refine w_aas (n := 8) 5 rfl rfl (by decide) (by decide) rfl rfl rfl (by decide : 5 < 8) (by decide) ?_
  show lm_wp (d + 1) 71 143 [.ref 64, .int 5] [] (hx44 h) _
  refine w_N 4 127 [.ref 64, .int 6] [.int 8, .int 6] rfl ?_
  refine w_icmp_ge_f (t := 149) rfl rfl (by decide) ?_
  show lm_wp (d + 1) 71 130 [.ref 64, .int 6] [] (hx44 h) _
  refine w_N 1 131 [.ref 64, .int 6] [.ref 64] rfl ?_
  refine w_hg 97 rfl rfl rfl hb rfl ?_
  show lm_wp (d + 1) 71 134 [.ref 64, .int 6] [.ref 97] (hx44 h) _
  refine w_N 1 135 [.ref 64, .int 6] [.int 6, .ref 97] rfl ?_
  refine w_new 119 rfl rfl rfl (hk 119 (by decide)) (by decide) (by decide) ?_
  show lm_wp (d + 1) 71 138 [.ref 64, .int 6] [.ref 119, .int 6, .ref 97] (hx45 h) _
  refine w_N 1 139 [.ref 64, .int 6] [.ref 119, .ref 119, .int 6, .ref 97] rfl ?_
  refine w_cc rfl (i_S119 rfl (hk 120 (by decide)) rfl) ?_
  show lm_wp (d + 1) 71 142 [.ref 64, .int 6] [.ref 119, .int 6, .ref 97] (hx46 h) _
  refine w_aas (n := 8) 6 rfl rfl (by decide) (by decide) rfl rfl rfl (by decide : 6 < 8) (by decide) ?_
  show lm_wp (d + 1) 71 143 [.ref 64, .int 6] [] (hx47 h) _
  refine w_N 4 127 [.ref 64, .int 7] [.int 8, .int 7] rfl ?_
  refine w_icmp_ge_f (t := 149) rfl rfl (by decide) ?_
  show lm_wp (d + 1) 71 130 [.ref 64, .int 7] [] (hx47 h) _
  refine w_N 1 131 [.ref 64, .int 7] [.ref 64] rfl ?_
  refine w_hg 97 rfl rfl rfl hb rfl ?_
  show lm_wp (d + 1) 71 134 [.ref 64, .int 7] [.ref 97] (hx47 h) _
  refine w_N 1 135 [.ref 64, .int 7] [.int 7, .ref 97] rfl ?_
  refine w_new 121 rfl rfl rfl (hk 121 (by decide)) (by decide) (by decide) ?_
  show lm_wp (d + 1) 71 138 [.ref 64, .int 7] [.ref 121, .int 7, .ref 97] (hx48 h) _
  refine w_N 1 139 [.ref 64, .int 7] [.ref 121, .ref 121, .int 7, .ref 97] rfl ?_
  refine w_cc rfl (i_S121 rfl (hk 122 (by decide)) rfl) ?_
  show lm_wp (d + 1) 71 142 [.ref 64, .int 7] [.ref 121, .int 7, .ref 97] (hx49 h) _
  refine w_aas (n := 8) 7 rfl rfl (by decide) (by decide) rfl rfl rfl (by decide : 7 < 8) (by decide) ?_
  show lm_wp (d + 1) 71 143 [.ref 64, .int 7] [] (hx50 h) _
  refine w_N 4 127 [.ref 64, .int 8] [.int 8, .int 8] rfl ?_
  refine w_icmp_ge_t (t := 149) rfl rfl (by decide) ?_
  show lm_wp (d + 1) 71 149 [.ref 64, .int 8] [] (hx50 h) _
  refine w_rv rfl rfl ?_
  rfl
