/-! runs with a postcondition; rows whose indexes are natural numbers -/
def lm_wp (d f pc : Nat) (ls st : List Value) (h : lm_H) (P : Option Value → lm_H → Prop) : Prop := ∃ v h1, lm_run d f pc ls st h (v, h1) ∧ P v h1
def lm_w (d g : Nat) (as : List Value) (h : lm_H) (P : Option Value → lm_H → Prop) : Prop := ∃ v h1, lm_c d g as h (v, h1) ∧ P v h1
theorem lm_w_of {d g : Nat} {as : List Value} {h h1 : lm_H} {v : Option Value} {P : Option Value → lm_H → Prop} (hc : lm_c d g as h (v, h1)) (hp : P v h1) : lm_w d g as h P := ⟨v, h1, hc, hp⟩
theorem lm_w_dep {d d' g : Nat} {as : List Value} {h : lm_H} {P : Option Value → lm_H → Prop} (hd : d ≤ d') (hw : lm_w d g as h P) : lm_w d' g as h P := by
  obtain ⟨v, h1, hc, hp⟩ := hw
  exact ⟨v, h1, lm_c_dep hd hc, hp⟩
theorem lm_w_in {d g : Nat} {as : List Value} {h : lm_H} {P : Option Value → lm_H → Prop} (hl : (lm_exp as).length ≤ (lm_m g).2.2.2.1) (hw : lm_wp d g 0 (lm_ini (lm_m g).2.2.2.1 as) [] h P) : lm_w d g as h P := by
  obtain ⟨v, h1, hr, hp⟩ := hw
  exact ⟨v, h1, ⟨hl, hr⟩, hp⟩
/-- a contract that says all of the answer and the heap -/
theorem lm_c_of {d g : Nat} {as : List Value} {h : lm_H} {r : Option Value × lm_H} (hw : lm_w d g as h (fun v h1 => (v, h1) = r)) : lm_c d g as h r := by
  obtain ⟨v, h1, hc, rfl⟩ := hw
  exact hc
theorem lm_w_mono {d g : Nat} {as : List Value} {h : lm_H} {P Q : Option Value → lm_H → Prop} (hw : lm_w d g as h P) (hpq : ∀ v h1, P v h1 → Q v h1) : lm_w d g as h Q := by
  obtain ⟨v, h1, hc, hp⟩ := hw
  exact ⟨v, h1, hc, hpq v h1 hp⟩
theorem lm_wp_mono {d f pc : Nat} {ls st : List Value} {h : lm_H} {P Q : Option Value → lm_H → Prop} (hw : lm_wp d f pc ls st h P) (hpq : ∀ v h1, P v h1 → Q v h1) : lm_wp d f pc ls st h Q := by
  obtain ⟨v, h1, hc, hp⟩ := hw
  exact ⟨v, h1, hc, hpq v h1 hp⟩
theorem nI_nn {n : Nat} (h : n < 2147483648) : (nI n).toNatClampNeg = n := by
  show (Int32.ofNat n).toNatClampNeg = n
  rw [Int32.toNatClampNeg_ofNat_of_lt (by omega)]
theorem w_N (n pc' : Nat) (ls' st' : List Value) {d f pc : Nat} {ls st : List Value} {h : lm_H} {P : Option Value → lm_H → Prop} (hs : lm_sN n f pc ls st h = some (.inl (pc', ls', st', h))) (k : lm_wp d f pc' ls' st' h P) : lm_wp d f pc ls st h P := by
  obtain ⟨v, h1, k1, k2⟩ := k
  exact ⟨v, h1, lm_r_N n pc' ls' st' hs k1, k2⟩
theorem w_nx {d f pc pc' : Nat} {ls ls' st st' : List Value} {h h' : lm_H} {P : Option Value → lm_H → Prop} (hs : lm_st f pc ls st h = some (.inl (pc', ls', st', h'))) (k : lm_wp d f pc' ls' st' h' P) : lm_wp d f pc ls st h P := by
  obtain ⟨v, h1, k1, k2⟩ := k
  exact ⟨v, h1, lm_r_nx hs k1, k2⟩
/-- a call by a contract that says all -/
theorem w_cc {d f pc g pc' : Nat} {ls st as rest : List Value} {h h0 h1 : lm_H} {v : Option Value} {P : Option Value → lm_H → Prop} (hs : lm_st f pc ls st h = some (.inr (.inr (g, as, pc', rest, h0)))) (hc : lm_c d g as h0 (v, h1)) (k : lm_wp (d + 1) f pc' ls (v.toList ++ rest) h1 P) : lm_wp (d + 1) f pc ls st h P := by
  obtain ⟨v2, h2, k1, k2⟩ := k
  exact ⟨v2, h2, lm_r_ca hs hc k1, k2⟩
/-- a call by a contract with a postcondition -/
theorem w_ca {d f pc g pc' : Nat} {ls st as rest : List Value} {h h0 : lm_H} {Q P : Option Value → lm_H → Prop} (hs : lm_st f pc ls st h = some (.inr (.inr (g, as, pc', rest, h0)))) (hc : lm_w d g as h0 Q) (k : ∀ v h1, Q v h1 → lm_wp (d + 1) f pc' ls (v.toList ++ rest) h1 P) : lm_wp (d + 1) f pc ls st h P := by
  obtain ⟨v, h1, hc1, hq⟩ := hc
  exact w_cc hs hc1 (k v h1 hq)
section LWW
variable {d f pc len : Nat} {ls st : List Value} {P : Option Value → lm_H → Prop} {hi : Nat → Nat → Int32} {hl : Nat → Nat → Int64} {X : lm_X} {a : Nat}
theorem w_gi {idx ci k z : Nat} {v : Int32} (h1 : (lm_m f).2.2.2.2.2.1.lookup pc = some (.getfield idx, len)) (h2 : (lm_kF (lm_m f).1).lookup idx = some (ci, k, z)) (h3 : (lm_fk ci k == 1) = false) (hg : X.2.1 a = 10 + ci) (hv : hi a k = v) (k : lm_wp d f (pc + 3) ls (.int v :: st) (hi, hl, X) P) : lm_wp d f pc ls (.ref a :: st) (hi, hl, X) P := by
  subst hv
  obtain ⟨v1, h9, k1, k2⟩ := k
  exact ⟨v1, h9, lm_r_gi h1 h2 h3 hg k1, k2⟩
theorem w_gr {idx ci k z : Nat} (b : Nat) (h1 : (lm_m f).2.2.2.2.2.1.lookup pc = some (.getfield idx, len)) (h2 : (lm_kF (lm_m f).1).lookup idx = some (ci, k, z)) (h3 : (lm_fk ci k == 1) = true) (hg : X.2.1 a = 10 + ci) (hb : X.1 a k = some b) (k : lm_wp d f (pc + 3) ls (.ref b :: st) (hi, hl, X) P) : lm_wp d f pc ls (.ref a :: st) (hi, hl, X) P := by
  obtain ⟨v1, h9, k1, k2⟩ := k
  exact ⟨v1, h9, lm_r_gr h1 h2 h3 hg hb k1, k2⟩
theorem w_g0 {idx ci k z : Nat} (h1 : (lm_m f).2.2.2.2.2.1.lookup pc = some (.getfield idx, len)) (h2 : (lm_kF (lm_m f).1).lookup idx = some (ci, k, z)) (h3 : (lm_fk ci k == 1) = true) (hg : X.2.1 a = 10 + ci) (hb : X.1 a k = none) (k : lm_wp d f (pc + 3) ls (.null :: st) (hi, hl, X) P) : lm_wp d f pc ls (.ref a :: st) (hi, hl, X) P := by
  obtain ⟨v1, h9, k1, k2⟩ := k
  exact ⟨v1, h9, lm_r_g0 h1 h2 h3 hg hb k1, k2⟩
theorem w_pi {idx ci k z : Nat} {x : Int32} (h1 : (lm_m f).2.2.2.2.2.1.lookup pc = some (.putfield idx, len)) (h2 : (lm_kF (lm_m f).1).lookup idx = some (ci, k, z)) (h3 : (lm_ft ci k == 0) = true) (h4 : lm_pok f (lm_m f).1 ci k = true) (hg : X.2.1 a = 10 + ci) (h64 : 64 ≤ a) (k : lm_wp d f (pc + 3) ls st (lm_up hi a k x, hl, X) P) : lm_wp d f pc ls (.int x :: .ref a :: st) (hi, hl, X) P := by
  obtain ⟨v1, h9, k1, k2⟩ := k
  exact ⟨v1, h9, lm_r_pi h1 h2 h3 h4 hg h64 k1, k2⟩
theorem w_pb {idx ci k z : Nat} {x : Int32} (h1 : (lm_m f).2.2.2.2.2.1.lookup pc = some (.putfield idx, len)) (h2 : (lm_kF (lm_m f).1).lookup idx = some (ci, k, z)) (h3 : (lm_ft ci k == 2) = true) (h4 : lm_pok f (lm_m f).1 ci k = true) (hg : X.2.1 a = 10 + ci) (h64 : 64 ≤ a) (hx : x = 0 ∨ x = 1) (k : lm_wp d f (pc + 3) ls st (lm_up hi a k x, hl, X) P) : lm_wp d f pc ls (.int x :: .ref a :: st) (hi, hl, X) P := by
  obtain ⟨v1, h9, k1, k2⟩ := k
  exact ⟨v1, h9, lm_r_pb h1 h2 h3 h4 hg h64 hx k1, k2⟩
theorem w_pr {idx ci k z b : Nat} (h1 : (lm_m f).2.2.2.2.2.1.lookup pc = some (.putfield idx, len)) (h2 : (lm_kF (lm_m f).1).lookup idx = some (ci, k, z)) (h3 : (lm_ft ci k == 1) = true) (h4 : lm_pok f (lm_m f).1 ci k = true) (hg : X.2.1 a = 10 + ci) (h64 : 64 ≤ a) (k : lm_wp d f (pc + 3) ls st (hi, hl, lm_up X.1 a k (some b), X.2) P) : lm_wp d f pc ls (.ref b :: .ref a :: st) (hi, hl, X) P := by
  obtain ⟨v1, h9, k1, k2⟩ := k
  exact ⟨v1, h9, lm_r_pr h1 h2 h3 h4 hg h64 k1, k2⟩
theorem w_ia (j : Nat) {i v : Int32} (h1 : (lm_m f).2.2.2.2.2.1.lookup pc = some (.iaload, len)) (hg : X.2.1 a = 1) {n : Nat} (hn : X.2.2.1 a = n) (hj : i = nI j) (hlt : j < n) (hb : n < 2147483648) (hv : hi a j = v) (k : lm_wp d f (pc + 1) ls (.int v :: st) (hi, hl, X) P) : lm_wp d f pc ls (.int i :: .ref a :: st) (hi, hl, X) P := by
  subst hj hv
  obtain ⟨v1, h9, k1, k2⟩ := k
  exact ⟨v1, h9, lm_r_ia h1 hg hn (nI_in hlt hb) (by rw [nI_nn (by omega)]; exact k1), k2⟩
theorem w_ba (j : Nat) {i v : Int32} (h1 : (lm_m f).2.2.2.2.2.1.lookup pc = some (.baload, len)) (hg : X.2.1 a = 8) {n : Nat} (hn : X.2.2.1 a = n) (hj : i = nI j) (hlt : j < n) (hb : n < 2147483648) (hv : hi a j = v) (k : lm_wp d f (pc + 1) ls (.int v :: st) (hi, hl, X) P) : lm_wp d f pc ls (.int i :: .ref a :: st) (hi, hl, X) P := by
  subst hj hv
  obtain ⟨v1, h9, k1, k2⟩ := k
  exact ⟨v1, h9, lm_r_ba h1 hg hn (nI_in hlt hb) (by rw [nI_nn (by omega)]; exact k1), k2⟩
theorem w_la (j : Nat) {i : Int32} {v : Int64} (h1 : (lm_m f).2.2.2.2.2.1.lookup pc = some (.laload, len)) (hg : X.2.1 a = 2) {n : Nat} (hn : X.2.2.1 a = n) (hj : i = nI j) (hlt : j < n) (hb : n < 2147483648) (hv : hl a j = v) (k : lm_wp d f (pc + 1) ls (.long v :: st) (hi, hl, X) P) : lm_wp d f pc ls (.int i :: .ref a :: st) (hi, hl, X) P := by
  subst hj hv
  obtain ⟨v1, h9, k1, k2⟩ := k
  exact ⟨v1, h9, lm_r_la h1 hg hn (nI_in hlt hb) (by rw [nI_nn (by omega)]; exact k1), k2⟩
theorem w_aa (j b : Nat) {i : Int32} (h1 : (lm_m f).2.2.2.2.2.1.lookup pc = some (.aaload, len)) (hg : 4 ≤ X.2.1 a ∧ X.2.1 a ≤ 6) {n : Nat} (hn : X.2.2.1 a = n) (hj : i = nI j) (hlt : j < n) (hb : n < 2147483648) (hv : X.1 a j = some b) (k : lm_wp d f (pc + 1) ls (.ref b :: st) (hi, hl, X) P) : lm_wp d f pc ls (.int i :: .ref a :: st) (hi, hl, X) P := by
  subst hj
  obtain ⟨v1, h9, k1, k2⟩ := k
  exact ⟨v1, h9, lm_r_aa h1 hg hn (nI_in hlt hb) (by rw [nI_nn (by omega)]; exact hv) k1, k2⟩
theorem w_is (j : Nat) {i x : Int32} (h1 : (lm_m f).2.2.2.2.2.1.lookup pc = some (.iastore, len)) (hg : X.2.1 a = 1) (h64 : 64 ≤ a) {n : Nat} (hn : X.2.2.1 a = n) (hj : i = nI j) (hlt : j < n) (hb : n < 2147483648) (k : lm_wp d f (pc + 1) ls st (lm_up hi a j x, hl, X) P) : lm_wp d f pc ls (.int x :: .int i :: .ref a :: st) (hi, hl, X) P := by
  subst hj
  obtain ⟨v1, h9, k1, k2⟩ := k
  exact ⟨v1, h9, lm_r_is h1 hg h64 hn (nI_in hlt hb) (by rw [nI_nn (by omega)]; exact k1), k2⟩
theorem w_ls (j : Nat) {i : Int32} {x : Int64} (h1 : (lm_m f).2.2.2.2.2.1.lookup pc = some (.lastore, len)) (hg : X.2.1 a = 2) (h64 : 64 ≤ a) {n : Nat} (hn : X.2.2.1 a = n) (hj : i = nI j) (hlt : j < n) (hb : n < 2147483648) (k : lm_wp d f (pc + 1) ls st (hi, lm_up hl a j x, X) P) : lm_wp d f pc ls (.long x :: .int i :: .ref a :: st) (hi, hl, X) P := by
  subst hj
  obtain ⟨v1, h9, k1, k2⟩ := k
  exact ⟨v1, h9, lm_r_ls h1 hg h64 hn (nI_in hlt hb) (by rw [nI_nn (by omega)]; exact k1), k2⟩
theorem w_al (n : Nat) (h1 : (lm_m f).2.2.2.2.2.1.lookup pc = some (.arraylength, len)) (hg : X.2.1 a ≠ 0 ∧ X.2.1 a < 10) (hn : X.2.2.1 a = n) (k : lm_wp d f (pc + 1) ls (.int (nI n) :: st) (hi, hl, X) P) : lm_wp d f pc ls (.ref a :: st) (hi, hl, X) P := by
  obtain ⟨v1, h9, k1, k2⟩ := k
  exact ⟨v1, h9, lm_r_al h1 hg hn k1, k2⟩
theorem w_rem {x y : Int32} {h : lm_H} (h1 : (lm_m f).2.2.2.2.2.1.lookup pc = some (.irem, len)) (hy : ¬ y = 0) (k : lm_wp d f (pc + 1) ls (.int (x - x / y * y) :: st) h P) : lm_wp d f pc ls (.int y :: .int x :: st) h P := by
  obtain ⟨v1, h9, k1, k2⟩ := k
  exact ⟨v1, h9, lm_r_rem h1 hy k1, k2⟩
theorem w_lrem {x y : Int64} {h : lm_H} (h1 : (lm_m f).2.2.2.2.2.1.lookup pc = some (.lrem, len)) (hy : ¬ y = 0) (k : lm_wp d f (pc + 1) ls (.long (x - x / y * y) :: st) h P) : lm_wp d f pc ls (.long y :: .long x :: st) h P := by
  obtain ⟨v1, h9, k1, k2⟩ := k
  exact ⟨v1, h9, lm_r_lrem h1 hy k1, k2⟩
theorem w_ldiv {x y : Int64} {h : lm_H} (h1 : (lm_m f).2.2.2.2.2.1.lookup pc = some (.ldiv, len)) (hy : ¬ y = 0) (k : lm_wp d f (pc + 1) ls (.long (x / y) :: st) h P) : lm_wp d f pc ls (.long y :: .long x :: st) h P := by
  obtain ⟨v1, h9, k1, k2⟩ := k
  exact ⟨v1, h9, lm_r_ldiv h1 hy k1, k2⟩
theorem w_icmp_eq {off : Int} {t : Nat} {x y : Int32} {h : lm_H} (h1 : (lm_m f).2.2.2.2.2.1.lookup pc = some (.if_icmp .eq off, len)) (ht : lm_tg pc off = some t) (kt : x = y → lm_wp d f t ls st h P) (kf : ¬ x = y → lm_wp d f (pc + 3) ls st h P) : lm_wp d f pc ls (.int y :: .int x :: st) h P := by
  by_cases hc : x = y
  · obtain ⟨v1, h9, k1, k2⟩ := kt hc
    exact ⟨v1, h9, lm_r_icmp_eq h1 ht (fun _ => k1) (fun z => absurd hc z), k2⟩
  · obtain ⟨v1, h9, k1, k2⟩ := kf hc
    exact ⟨v1, h9, lm_r_icmp_eq h1 ht (fun z => absurd z hc) (fun _ => k1), k2⟩
theorem w_icmp_eq_t {off : Int} {t : Nat} {x y : Int32} {h : lm_H} (h1 : (lm_m f).2.2.2.2.2.1.lookup pc = some (.if_icmp .eq off, len)) (ht : lm_tg pc off = some t) (hc : x = y) (k : lm_wp d f t ls st h P) : lm_wp d f pc ls (.int y :: .int x :: st) h P := w_icmp_eq h1 ht (fun _ => k) (fun z => absurd hc z)
theorem w_icmp_eq_f {off : Int} {t : Nat} {x y : Int32} {h : lm_H} (h1 : (lm_m f).2.2.2.2.2.1.lookup pc = some (.if_icmp .eq off, len)) (ht : lm_tg pc off = some t) (hc : ¬ x = y) (k : lm_wp d f (pc + 3) ls st h P) : lm_wp d f pc ls (.int y :: .int x :: st) h P := w_icmp_eq h1 ht (fun z => absurd z hc) (fun _ => k)
theorem w_icmp_ne {off : Int} {t : Nat} {x y : Int32} {h : lm_H} (h1 : (lm_m f).2.2.2.2.2.1.lookup pc = some (.if_icmp .ne off, len)) (ht : lm_tg pc off = some t) (kt : ¬ x = y → lm_wp d f t ls st h P) (kf : x = y → lm_wp d f (pc + 3) ls st h P) : lm_wp d f pc ls (.int y :: .int x :: st) h P := by
  by_cases hc : x = y
  · obtain ⟨v1, h9, k1, k2⟩ := kf hc
    exact ⟨v1, h9, lm_r_icmp_ne h1 ht (fun z => absurd hc z) (fun _ => k1), k2⟩
  · obtain ⟨v1, h9, k1, k2⟩ := kt hc
    exact ⟨v1, h9, lm_r_icmp_ne h1 ht (fun _ => k1) (fun z => absurd z hc), k2⟩
theorem w_icmp_ne_t {off : Int} {t : Nat} {x y : Int32} {h : lm_H} (h1 : (lm_m f).2.2.2.2.2.1.lookup pc = some (.if_icmp .ne off, len)) (ht : lm_tg pc off = some t) (hc : ¬ x = y) (k : lm_wp d f t ls st h P) : lm_wp d f pc ls (.int y :: .int x :: st) h P := w_icmp_ne h1 ht (fun _ => k) (fun z => absurd z hc)
theorem w_icmp_ne_f {off : Int} {t : Nat} {x y : Int32} {h : lm_H} (h1 : (lm_m f).2.2.2.2.2.1.lookup pc = some (.if_icmp .ne off, len)) (ht : lm_tg pc off = some t) (hc : x = y) (k : lm_wp d f (pc + 3) ls st h P) : lm_wp d f pc ls (.int y :: .int x :: st) h P := w_icmp_ne h1 ht (fun z => absurd hc z) (fun _ => k)
theorem w_icmp_lt {off : Int} {t : Nat} {x y : Int32} {h : lm_H} (h1 : (lm_m f).2.2.2.2.2.1.lookup pc = some (.if_icmp .lt off, len)) (ht : lm_tg pc off = some t) (kt : x < y → lm_wp d f t ls st h P) (kf : ¬ x < y → lm_wp d f (pc + 3) ls st h P) : lm_wp d f pc ls (.int y :: .int x :: st) h P := by
  by_cases hc : x < y
  · obtain ⟨v1, h9, k1, k2⟩ := kt hc
    exact ⟨v1, h9, lm_r_icmp_lt h1 ht (fun _ => k1) (fun z => absurd hc z), k2⟩
  · obtain ⟨v1, h9, k1, k2⟩ := kf hc
    exact ⟨v1, h9, lm_r_icmp_lt h1 ht (fun z => absurd z hc) (fun _ => k1), k2⟩
theorem w_icmp_lt_t {off : Int} {t : Nat} {x y : Int32} {h : lm_H} (h1 : (lm_m f).2.2.2.2.2.1.lookup pc = some (.if_icmp .lt off, len)) (ht : lm_tg pc off = some t) (hc : x < y) (k : lm_wp d f t ls st h P) : lm_wp d f pc ls (.int y :: .int x :: st) h P := w_icmp_lt h1 ht (fun _ => k) (fun z => absurd hc z)
theorem w_icmp_lt_f {off : Int} {t : Nat} {x y : Int32} {h : lm_H} (h1 : (lm_m f).2.2.2.2.2.1.lookup pc = some (.if_icmp .lt off, len)) (ht : lm_tg pc off = some t) (hc : ¬ x < y) (k : lm_wp d f (pc + 3) ls st h P) : lm_wp d f pc ls (.int y :: .int x :: st) h P := w_icmp_lt h1 ht (fun z => absurd z hc) (fun _ => k)
theorem w_icmp_ge {off : Int} {t : Nat} {x y : Int32} {h : lm_H} (h1 : (lm_m f).2.2.2.2.2.1.lookup pc = some (.if_icmp .ge off, len)) (ht : lm_tg pc off = some t) (kt : ¬ x < y → lm_wp d f t ls st h P) (kf : x < y → lm_wp d f (pc + 3) ls st h P) : lm_wp d f pc ls (.int y :: .int x :: st) h P := by
  by_cases hc : x < y
  · obtain ⟨v1, h9, k1, k2⟩ := kf hc
    exact ⟨v1, h9, lm_r_icmp_ge h1 ht (fun z => absurd hc z) (fun _ => k1), k2⟩
  · obtain ⟨v1, h9, k1, k2⟩ := kt hc
    exact ⟨v1, h9, lm_r_icmp_ge h1 ht (fun _ => k1) (fun z => absurd z hc), k2⟩
theorem w_icmp_ge_t {off : Int} {t : Nat} {x y : Int32} {h : lm_H} (h1 : (lm_m f).2.2.2.2.2.1.lookup pc = some (.if_icmp .ge off, len)) (ht : lm_tg pc off = some t) (hc : ¬ x < y) (k : lm_wp d f t ls st h P) : lm_wp d f pc ls (.int y :: .int x :: st) h P := w_icmp_ge h1 ht (fun _ => k) (fun z => absurd z hc)
theorem w_icmp_ge_f {off : Int} {t : Nat} {x y : Int32} {h : lm_H} (h1 : (lm_m f).2.2.2.2.2.1.lookup pc = some (.if_icmp .ge off, len)) (ht : lm_tg pc off = some t) (hc : x < y) (k : lm_wp d f (pc + 3) ls st h P) : lm_wp d f pc ls (.int y :: .int x :: st) h P := w_icmp_ge h1 ht (fun z => absurd hc z) (fun _ => k)
theorem w_icmp_gt {off : Int} {t : Nat} {x y : Int32} {h : lm_H} (h1 : (lm_m f).2.2.2.2.2.1.lookup pc = some (.if_icmp .gt off, len)) (ht : lm_tg pc off = some t) (kt : y < x → lm_wp d f t ls st h P) (kf : ¬ y < x → lm_wp d f (pc + 3) ls st h P) : lm_wp d f pc ls (.int y :: .int x :: st) h P := by
  by_cases hc : y < x
  · obtain ⟨v1, h9, k1, k2⟩ := kt hc
    exact ⟨v1, h9, lm_r_icmp_gt h1 ht (fun _ => k1) (fun z => absurd hc z), k2⟩
  · obtain ⟨v1, h9, k1, k2⟩ := kf hc
    exact ⟨v1, h9, lm_r_icmp_gt h1 ht (fun z => absurd z hc) (fun _ => k1), k2⟩
theorem w_icmp_gt_t {off : Int} {t : Nat} {x y : Int32} {h : lm_H} (h1 : (lm_m f).2.2.2.2.2.1.lookup pc = some (.if_icmp .gt off, len)) (ht : lm_tg pc off = some t) (hc : y < x) (k : lm_wp d f t ls st h P) : lm_wp d f pc ls (.int y :: .int x :: st) h P := w_icmp_gt h1 ht (fun _ => k) (fun z => absurd hc z)
theorem w_icmp_gt_f {off : Int} {t : Nat} {x y : Int32} {h : lm_H} (h1 : (lm_m f).2.2.2.2.2.1.lookup pc = some (.if_icmp .gt off, len)) (ht : lm_tg pc off = some t) (hc : ¬ y < x) (k : lm_wp d f (pc + 3) ls st h P) : lm_wp d f pc ls (.int y :: .int x :: st) h P := w_icmp_gt h1 ht (fun z => absurd z hc) (fun _ => k)
theorem w_icmp_le {off : Int} {t : Nat} {x y : Int32} {h : lm_H} (h1 : (lm_m f).2.2.2.2.2.1.lookup pc = some (.if_icmp .le off, len)) (ht : lm_tg pc off = some t) (kt : ¬ y < x → lm_wp d f t ls st h P) (kf : y < x → lm_wp d f (pc + 3) ls st h P) : lm_wp d f pc ls (.int y :: .int x :: st) h P := by
  by_cases hc : y < x
  · obtain ⟨v1, h9, k1, k2⟩ := kf hc
    exact ⟨v1, h9, lm_r_icmp_le h1 ht (fun z => absurd hc z) (fun _ => k1), k2⟩
  · obtain ⟨v1, h9, k1, k2⟩ := kt hc
    exact ⟨v1, h9, lm_r_icmp_le h1 ht (fun _ => k1) (fun z => absurd z hc), k2⟩
theorem w_icmp_le_t {off : Int} {t : Nat} {x y : Int32} {h : lm_H} (h1 : (lm_m f).2.2.2.2.2.1.lookup pc = some (.if_icmp .le off, len)) (ht : lm_tg pc off = some t) (hc : ¬ y < x) (k : lm_wp d f t ls st h P) : lm_wp d f pc ls (.int y :: .int x :: st) h P := w_icmp_le h1 ht (fun _ => k) (fun z => absurd z hc)
theorem w_icmp_le_f {off : Int} {t : Nat} {x y : Int32} {h : lm_H} (h1 : (lm_m f).2.2.2.2.2.1.lookup pc = some (.if_icmp .le off, len)) (ht : lm_tg pc off = some t) (hc : y < x) (k : lm_wp d f (pc + 3) ls st h P) : lm_wp d f pc ls (.int y :: .int x :: st) h P := w_icmp_le h1 ht (fun z => absurd hc z) (fun _ => k)
theorem w_if_eq {off : Int} {t : Nat} {x : Int32} {h : lm_H} (h1 : (lm_m f).2.2.2.2.2.1.lookup pc = some (.ifCond .eq off, len)) (ht : lm_tg pc off = some t) (kt : x = 0 → lm_wp d f t ls st h P) (kf : ¬ x = 0 → lm_wp d f (pc + 3) ls st h P) : lm_wp d f pc ls (.int x :: st) h P := by
  by_cases hc : x = 0
  · obtain ⟨v1, h9, k1, k2⟩ := kt hc
    exact ⟨v1, h9, lm_r_if_eq h1 ht (fun _ => k1) (fun z => absurd hc z), k2⟩
  · obtain ⟨v1, h9, k1, k2⟩ := kf hc
    exact ⟨v1, h9, lm_r_if_eq h1 ht (fun z => absurd z hc) (fun _ => k1), k2⟩
theorem w_if_eq_t {off : Int} {t : Nat} {x : Int32} {h : lm_H} (h1 : (lm_m f).2.2.2.2.2.1.lookup pc = some (.ifCond .eq off, len)) (ht : lm_tg pc off = some t) (hc : x = 0) (k : lm_wp d f t ls st h P) : lm_wp d f pc ls (.int x :: st) h P := w_if_eq h1 ht (fun _ => k) (fun z => absurd hc z)
theorem w_if_eq_f {off : Int} {t : Nat} {x : Int32} {h : lm_H} (h1 : (lm_m f).2.2.2.2.2.1.lookup pc = some (.ifCond .eq off, len)) (ht : lm_tg pc off = some t) (hc : ¬ x = 0) (k : lm_wp d f (pc + 3) ls st h P) : lm_wp d f pc ls (.int x :: st) h P := w_if_eq h1 ht (fun z => absurd z hc) (fun _ => k)
theorem w_if_ne {off : Int} {t : Nat} {x : Int32} {h : lm_H} (h1 : (lm_m f).2.2.2.2.2.1.lookup pc = some (.ifCond .ne off, len)) (ht : lm_tg pc off = some t) (kt : ¬ x = 0 → lm_wp d f t ls st h P) (kf : x = 0 → lm_wp d f (pc + 3) ls st h P) : lm_wp d f pc ls (.int x :: st) h P := by
  by_cases hc : x = 0
  · obtain ⟨v1, h9, k1, k2⟩ := kf hc
    exact ⟨v1, h9, lm_r_if_ne h1 ht (fun z => absurd hc z) (fun _ => k1), k2⟩
  · obtain ⟨v1, h9, k1, k2⟩ := kt hc
    exact ⟨v1, h9, lm_r_if_ne h1 ht (fun _ => k1) (fun z => absurd z hc), k2⟩
theorem w_if_ne_t {off : Int} {t : Nat} {x : Int32} {h : lm_H} (h1 : (lm_m f).2.2.2.2.2.1.lookup pc = some (.ifCond .ne off, len)) (ht : lm_tg pc off = some t) (hc : ¬ x = 0) (k : lm_wp d f t ls st h P) : lm_wp d f pc ls (.int x :: st) h P := w_if_ne h1 ht (fun _ => k) (fun z => absurd z hc)
theorem w_if_ne_f {off : Int} {t : Nat} {x : Int32} {h : lm_H} (h1 : (lm_m f).2.2.2.2.2.1.lookup pc = some (.ifCond .ne off, len)) (ht : lm_tg pc off = some t) (hc : x = 0) (k : lm_wp d f (pc + 3) ls st h P) : lm_wp d f pc ls (.int x :: st) h P := w_if_ne h1 ht (fun z => absurd hc z) (fun _ => k)
theorem w_if_lt {off : Int} {t : Nat} {x : Int32} {h : lm_H} (h1 : (lm_m f).2.2.2.2.2.1.lookup pc = some (.ifCond .lt off, len)) (ht : lm_tg pc off = some t) (kt : x < 0 → lm_wp d f t ls st h P) (kf : ¬ x < 0 → lm_wp d f (pc + 3) ls st h P) : lm_wp d f pc ls (.int x :: st) h P := by
  by_cases hc : x < 0
  · obtain ⟨v1, h9, k1, k2⟩ := kt hc
    exact ⟨v1, h9, lm_r_if_lt h1 ht (fun _ => k1) (fun z => absurd hc z), k2⟩
  · obtain ⟨v1, h9, k1, k2⟩ := kf hc
    exact ⟨v1, h9, lm_r_if_lt h1 ht (fun z => absurd z hc) (fun _ => k1), k2⟩
theorem w_if_lt_t {off : Int} {t : Nat} {x : Int32} {h : lm_H} (h1 : (lm_m f).2.2.2.2.2.1.lookup pc = some (.ifCond .lt off, len)) (ht : lm_tg pc off = some t) (hc : x < 0) (k : lm_wp d f t ls st h P) : lm_wp d f pc ls (.int x :: st) h P := w_if_lt h1 ht (fun _ => k) (fun z => absurd hc z)
theorem w_if_lt_f {off : Int} {t : Nat} {x : Int32} {h : lm_H} (h1 : (lm_m f).2.2.2.2.2.1.lookup pc = some (.ifCond .lt off, len)) (ht : lm_tg pc off = some t) (hc : ¬ x < 0) (k : lm_wp d f (pc + 3) ls st h P) : lm_wp d f pc ls (.int x :: st) h P := w_if_lt h1 ht (fun z => absurd z hc) (fun _ => k)
theorem w_if_ge {off : Int} {t : Nat} {x : Int32} {h : lm_H} (h1 : (lm_m f).2.2.2.2.2.1.lookup pc = some (.ifCond .ge off, len)) (ht : lm_tg pc off = some t) (kt : ¬ x < 0 → lm_wp d f t ls st h P) (kf : x < 0 → lm_wp d f (pc + 3) ls st h P) : lm_wp d f pc ls (.int x :: st) h P := by
  by_cases hc : x < 0
  · obtain ⟨v1, h9, k1, k2⟩ := kf hc
    exact ⟨v1, h9, lm_r_if_ge h1 ht (fun z => absurd hc z) (fun _ => k1), k2⟩
  · obtain ⟨v1, h9, k1, k2⟩ := kt hc
    exact ⟨v1, h9, lm_r_if_ge h1 ht (fun _ => k1) (fun z => absurd z hc), k2⟩
theorem w_if_ge_t {off : Int} {t : Nat} {x : Int32} {h : lm_H} (h1 : (lm_m f).2.2.2.2.2.1.lookup pc = some (.ifCond .ge off, len)) (ht : lm_tg pc off = some t) (hc : ¬ x < 0) (k : lm_wp d f t ls st h P) : lm_wp d f pc ls (.int x :: st) h P := w_if_ge h1 ht (fun _ => k) (fun z => absurd z hc)
theorem w_if_ge_f {off : Int} {t : Nat} {x : Int32} {h : lm_H} (h1 : (lm_m f).2.2.2.2.2.1.lookup pc = some (.ifCond .ge off, len)) (ht : lm_tg pc off = some t) (hc : x < 0) (k : lm_wp d f (pc + 3) ls st h P) : lm_wp d f pc ls (.int x :: st) h P := w_if_ge h1 ht (fun z => absurd hc z) (fun _ => k)
theorem w_if_gt {off : Int} {t : Nat} {x : Int32} {h : lm_H} (h1 : (lm_m f).2.2.2.2.2.1.lookup pc = some (.ifCond .gt off, len)) (ht : lm_tg pc off = some t) (kt : 0 < x → lm_wp d f t ls st h P) (kf : ¬ 0 < x → lm_wp d f (pc + 3) ls st h P) : lm_wp d f pc ls (.int x :: st) h P := by
  by_cases hc : 0 < x
  · obtain ⟨v1, h9, k1, k2⟩ := kt hc
    exact ⟨v1, h9, lm_r_if_gt h1 ht (fun _ => k1) (fun z => absurd hc z), k2⟩
  · obtain ⟨v1, h9, k1, k2⟩ := kf hc
    exact ⟨v1, h9, lm_r_if_gt h1 ht (fun z => absurd z hc) (fun _ => k1), k2⟩
theorem w_if_gt_t {off : Int} {t : Nat} {x : Int32} {h : lm_H} (h1 : (lm_m f).2.2.2.2.2.1.lookup pc = some (.ifCond .gt off, len)) (ht : lm_tg pc off = some t) (hc : 0 < x) (k : lm_wp d f t ls st h P) : lm_wp d f pc ls (.int x :: st) h P := w_if_gt h1 ht (fun _ => k) (fun z => absurd hc z)
theorem w_if_gt_f {off : Int} {t : Nat} {x : Int32} {h : lm_H} (h1 : (lm_m f).2.2.2.2.2.1.lookup pc = some (.ifCond .gt off, len)) (ht : lm_tg pc off = some t) (hc : ¬ 0 < x) (k : lm_wp d f (pc + 3) ls st h P) : lm_wp d f pc ls (.int x :: st) h P := w_if_gt h1 ht (fun z => absurd z hc) (fun _ => k)
theorem w_if_le {off : Int} {t : Nat} {x : Int32} {h : lm_H} (h1 : (lm_m f).2.2.2.2.2.1.lookup pc = some (.ifCond .le off, len)) (ht : lm_tg pc off = some t) (kt : ¬ 0 < x → lm_wp d f t ls st h P) (kf : 0 < x → lm_wp d f (pc + 3) ls st h P) : lm_wp d f pc ls (.int x :: st) h P := by
  by_cases hc : 0 < x
  · obtain ⟨v1, h9, k1, k2⟩ := kf hc
    exact ⟨v1, h9, lm_r_if_le h1 ht (fun z => absurd hc z) (fun _ => k1), k2⟩
  · obtain ⟨v1, h9, k1, k2⟩ := kt hc
    exact ⟨v1, h9, lm_r_if_le h1 ht (fun _ => k1) (fun z => absurd z hc), k2⟩
theorem w_if_le_t {off : Int} {t : Nat} {x : Int32} {h : lm_H} (h1 : (lm_m f).2.2.2.2.2.1.lookup pc = some (.ifCond .le off, len)) (ht : lm_tg pc off = some t) (hc : ¬ 0 < x) (k : lm_wp d f t ls st h P) : lm_wp d f pc ls (.int x :: st) h P := w_if_le h1 ht (fun _ => k) (fun z => absurd z hc)
theorem w_if_le_f {off : Int} {t : Nat} {x : Int32} {h : lm_H} (h1 : (lm_m f).2.2.2.2.2.1.lookup pc = some (.ifCond .le off, len)) (ht : lm_tg pc off = some t) (hc : 0 < x) (k : lm_wp d f (pc + 3) ls st h P) : lm_wp d f pc ls (.int x :: st) h P := w_if_le h1 ht (fun z => absurd hc z) (fun _ => k)
theorem w_ts {dd lo hh : Int} {os : Array Int} {x : Int32} {h : lm_H} {t : Nat} (h1 : (lm_m f).2.2.2.2.2.1.lookup pc = some (.tableswitch dd lo hh os, len)) (h2 : hh - lo + 1 = (os.size : Int) ∧ -2147483648 ≤ lo ∧ hh ≤ 2147483647) (ht : lm_tg pc (lm_sw x lo os.toList dd) = some t) (k : lm_wp d f t ls st h P) : lm_wp d f pc ls (.int x :: st) h P := by
  obtain ⟨v1, h9, k1, k2⟩ := k
  exact ⟨v1, h9, lm_r_ts h1 h2 ht k1, k2⟩
theorem w_ks {dd : Int} {ps : Array (Int × Int)} {x : Int32} {h : lm_H} {t : Nat} (h1 : (lm_m f).2.2.2.2.2.1.lookup pc = some (.lookupswitch dd ps, len)) (h2 : (ps.toList.zip (ps.toList.drop 1)).all (fun (a, next) => a.1 < next.1) = true ∧ ps.toList.all (fun q => decide (-2147483648 ≤ q.1 ∧ q.1 ≤ 2147483647)) = true) (ht : lm_tg pc (lm_lk x ps.toList dd) = some t) (k : lm_wp d f t ls st h P) : lm_wp d f pc ls (.int x :: st) h P := by
  obtain ⟨v1, h9, k1, k2⟩ := k
  exact ⟨v1, h9, lm_r_ks h1 h2 ht k1, k2⟩
theorem w_ri {x : Int32} {h : lm_H} (h1 : (lm_m f).2.2.2.2.2.1.lookup pc = some (.ireturn, len)) (h2 : (lm_m f).2.2.2.2.1 = some .int) (he : P (some (.int x)) h) : lm_wp d f pc ls [.int x] h P := ⟨_, _, lm_r_ri h1 h2 rfl, he⟩
theorem w_rz {x : Int32} {h : lm_H} (h1 : (lm_m f).2.2.2.2.2.1.lookup pc = some (.ireturn, len)) (h2 : (lm_m f).2.2.2.2.1 = some .boolean) (hx : x = 0 ∨ x = 1) (he : P (some (.int x)) h) : lm_wp d f pc ls [.int x] h P := ⟨_, _, lm_r_rz h1 h2 hx rfl, he⟩
theorem w_rl {x : Int64} {h : lm_H} (h1 : (lm_m f).2.2.2.2.2.1.lookup pc = some (.lreturn, len)) (h2 : (lm_m f).2.2.2.2.1 = some .long) (he : P (some (.long x)) h) : lm_wp d f pc ls [.long x] h P := ⟨_, _, lm_r_rl h1 h2 rfl, he⟩
theorem w_rv {h : lm_H} (h1 : (lm_m f).2.2.2.2.2.1.lookup pc = some (.return_, len)) (h2 : (lm_m f).2.2.2.2.1 = none) (he : P none h) : lm_wp d f pc ls [] h P := ⟨_, _, lm_r_rv h1 h2 rfl, he⟩
theorem w_ra {x : Nat} {h : lm_H} {s : String} (h1 : (lm_m f).2.2.2.2.2.1.lookup pc = some (.areturn, len)) (h2 : (lm_m f).2.2.2.2.1 = some (.object s)) (he : P (some (.ref x)) h) : lm_wp d f pc ls [.ref x] h P := by
  refine ⟨_, _, lm_r_rt ?_, he⟩
  rw [lm_st_of h1]
  simp only [lm_i, h2]
theorem w_rc {x : Int32} {h : lm_H} (h1 : (lm_m f).2.2.2.2.2.1.lookup pc = some (.ireturn, len)) {ty : FieldType} (h2 : (lm_m f).2.2.2.2.1 = some ty) (hx : narrow ty (.int x) = .int x) (he : P (some (.int x)) h) : lm_wp d f pc ls [.int x] h P := by
  refine ⟨_, _, lm_r_rt ?_, he⟩
  rw [lm_st_of h1]
  cases ty <;> simp only [lm_i, h2, hx, if_true]
theorem w_nn {off : Int} {t : Nat} {h : lm_H} (h1 : (lm_m f).2.2.2.2.2.1.lookup pc = some (.ifnonnull off, len)) (ht : lm_tg pc off = some t) (k : lm_wp d f t ls st h P) : lm_wp d f pc ls (.ref a :: st) h P := by
  refine w_nx ?_ k
  rw [lm_st_of h1]
  simp only [lm_i, lm_go, ht]
theorem w_n0 {off : Int} {h : lm_H} (h1 : (lm_m f).2.2.2.2.2.1.lookup pc = some (.ifnonnull off, len)) (k : lm_wp d f (pc + 3) ls st h P) : lm_wp d f pc ls (.null :: st) h P := by
  refine w_nx ?_ k
  rw [lm_st_of h1]
  simp only [lm_i]
end LWW
theorem bz0 {b : Bool} : bz b = 0 ↔ b = false := by cases b <;> simp [bz]
theorem bz1 {b : Bool} : ¬ bz b = 0 ↔ b = true := by cases b <;> simp [bz]
theorem bz_0 : bz false = 0 := rfl
theorem bz_1 : bz true = 1 := rfl
theorem w_zeq {d f pc len t : Nat} {ls st : List Value} {P : Option Value → lm_H → Prop} {off : Int} {b : Bool} {h : lm_H} (h1 : (lm_m f).2.2.2.2.2.1.lookup pc = some (.ifCond .eq off, len)) (ht : lm_tg pc off = some t) (kt : b = false → lm_wp d f t ls st h P) (kf : b = true → lm_wp d f (pc + 3) ls st h P) : lm_wp d f pc ls (.int (bz b) :: st) h P := w_if_eq h1 ht (fun z => kt (bz0.mp z)) (fun z => kf (bz1.mp z))
theorem w_zne {d f pc len t : Nat} {ls st : List Value} {P : Option Value → lm_H → Prop} {off : Int} {b : Bool} {h : lm_H} (h1 : (lm_m f).2.2.2.2.2.1.lookup pc = some (.ifCond .ne off, len)) (ht : lm_tg pc off = some t) (kt : b = true → lm_wp d f t ls st h P) (kf : b = false → lm_wp d f (pc + 3) ls st h P) : lm_wp d f pc ls (.int (bz b) :: st) h P := w_if_ne h1 ht (fun z => kt (bz1.mp z)) (fun z => kf (bz0.mp z))
theorem lm_sw_n {x : Int32} {lo o d r : Int} {os : List Int} (h : ¬ x = Int32.ofInt lo) (k : lm_sw x (lo + 1) os d = r) : lm_sw x lo (o :: os) d = r := by
  simp only [lm_sw, if_neg h]; exact k
theorem lm_sw_0 {x : Int32} {lo d : Int} : lm_sw x lo [] d = d := rfl
theorem lm_lk_n {x : Int32} {d r : Int} {q : Int × Int} {os : List (Int × Int)} (h : ¬ x = Int32.ofInt q.1) (k : lm_lk x os d = r) : lm_lk x (q :: os) d = r := by
  simp only [lm_lk, if_neg h]; exact k
theorem lm_lk_0 {x : Int32} {d : Int} : lm_lk x [] d = d := rfl
/-- a call of a method of an object -/
theorem w_vst {f pc len idx g n z a : Nat} {ls st r : List Value} {hi : Nat → Nat → Int32} {hl : Nat → Nat → Int64} {X : lm_X} (h1 : (lm_m f).2.2.2.2.2.1.lookup pc = some (.invokevirtual idx, len)) (h2 : (lm_kM (lm_m f).1).lookup idx = some (0, g, n, z)) (h3 : st.drop n = .ref a :: r) (h4 : n ≤ st.length) (h5 : (r.map Value.category).sum ≤ 8) (h6 : X.2.1 a = 10 + lm_cis.getD (lm_m g).1 99) : lm_st f pc ls st (hi, hl, X) = some (.inr (.inr (g, .ref a :: (st.take n).reverse, pc + 3, r, (hi, hl, X)))) := by
  rw [lm_st_of h1]
  show lm_iv ((lm_kM (lm_m f).1).lookup idx) 0 pc ls st (hi, hl, X) = _
  rw [h2]
  simp only [lm_iv, if_true, h3]
  exact if_pos ⟨trivial, h4, h5, h6⟩
/-- System.arraycopy of ints, or of longs -/
theorem w_ac (sp dp n : Nat) {d f pc len idx g na z a0 a1 n0 n1 : Nat} {ls r : List Value} {P : Option Value → lm_H → Prop} {hi : Nat → Nat → Int32} {hl : Nat → Nat → Int64} {X : lm_X} {s0 s1 : Nat → Int32} {x y w : Int32} (h1 : (lm_m f).2.2.2.2.2.1.lookup pc = some (.invokestatic idx, len)) (h2 : (lm_kM (lm_m f).1).lookup idx = some (6, g, na, z)) (h3 : (r.map Value.category).sum ≤ 8) (k0 : X.2.1 a0 = 1) (k1 : X.2.1 a1 = 1) (g0 : 64 ≤ a0) (g1 : 64 ≤ a1) (l0 : X.2.2.1 a0 = n0) (l1 : X.2.2.1 a1 = n1) (ex : x = nI sp) (ey : y = nI dp) (ew : w = nI n) (hb : sp + n ≤ n0 ∧ dp + n ≤ n1 ∧ n0 < 2147483648 ∧ n1 < 2147483648) (e0 : hi a0 = s0) (e1 : hi a1 = s1)
    (k : lm_wp d f (pc + 3) ls r (lm_row hi a1 (va_cpy s0 s1 sp dp n), hl, X) P) : lm_wp d f pc ls (.int w :: .int y :: .ref a1 :: .int x :: .ref a0 :: r) (hi, hl, X) P := by
  subst ex ey ew e0 e1
  refine w_nx ?_ k
  rw [lm_st_of h1]
  show lm_iv ((lm_kM (lm_m f).1).lookup idx) 1 pc ls _ (hi, hl, X) = _
  rw [h2]
  simp only [lm_iv]
  have e2 : ∀ j : Nat, j < 2147483648 → ¬ nI j < 0 := fun j hj => nI_pos (by omega)
  rw [nI_nn (n := sp) (by omega), nI_nn (n := dp) (by omega), nI_nn (n := n) (by omega)]
  have c1 : ¬ X.2.1 a0 = 2 := by rw [k0]; decide
  have c2 : sp + n ≤ X.2.2.1 a0 := by omega
  have c3 : dp + n ≤ X.2.2.1 a1 := by omega
  simp [c1, c2, c3, k0, k1, g0, g1, e2 sp (by omega), e2 dp (by omega), e2 n (by omega), h3]
theorem w_acl (sp dp n : Nat) {d f pc len idx g na z a0 a1 n0 n1 : Nat} {ls r : List Value} {P : Option Value → lm_H → Prop} {hi : Nat → Nat → Int32} {hl : Nat → Nat → Int64} {X : lm_X} {s0 s1 : Nat → Int64} {x y w : Int32} (h1 : (lm_m f).2.2.2.2.2.1.lookup pc = some (.invokestatic idx, len)) (h2 : (lm_kM (lm_m f).1).lookup idx = some (6, g, na, z)) (h3 : (r.map Value.category).sum ≤ 8) (k0 : X.2.1 a0 = 2) (k1 : X.2.1 a1 = 2) (g0 : 64 ≤ a0) (g1 : 64 ≤ a1) (l0 : X.2.2.1 a0 = n0) (l1 : X.2.2.1 a1 = n1) (ex : x = nI sp) (ey : y = nI dp) (ew : w = nI n) (hb : sp + n ≤ n0 ∧ dp + n ≤ n1 ∧ n0 < 2147483648 ∧ n1 < 2147483648) (e0 : hl a0 = s0) (e1 : hl a1 = s1)
    (k : lm_wp d f (pc + 3) ls r (hi, lm_row hl a1 (va_cpy s0 s1 sp dp n), X) P) : lm_wp d f pc ls (.int w :: .int y :: .ref a1 :: .int x :: .ref a0 :: r) (hi, hl, X) P := by
  subst ex ey ew e0 e1
  refine w_nx ?_ k
  rw [lm_st_of h1]
  show lm_iv ((lm_kM (lm_m f).1).lookup idx) 1 pc ls _ (hi, hl, X) = _
  rw [h2]
  simp only [lm_iv]
  have e2 : ∀ j : Nat, j < 2147483648 → ¬ nI j < 0 := fun j hj => nI_pos (by omega)
  rw [nI_nn (n := sp) (by omega), nI_nn (n := dp) (by omega), nI_nn (n := n) (by omega)]
  have c2 : sp + n ≤ X.2.2.1 a0 := by omega
  have c3 : dp + n ≤ X.2.2.1 a1 := by omega
  simp [c2, c3, k0, k1, g0, g1, e2 sp (by omega), e2 dp (by omega), e2 n (by omega), h3]
