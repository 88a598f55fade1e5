/-! the class's cells: 64 the object, 65 town, 75 kept, 85 draft, 95 tape, 97 shelves, 98 foresight, 103 rules, 104 trial, 106 refusals, 107 .. 122 shelves and their cells -/
def aKds : List Nat := [16, 14, 1, 1, 1, 1, 1, 1, 1, 1, 1, 14, 1, 1, 1, 1, 1, 1, 1, 1, 1, 14, 1, 1, 1, 1, 1, 1, 1, 1, 1, 13, 1, 4, 10, 1, 1, 1, 1, 11, 15, 1, 1, 12, 2, 12, 2, 12, 2, 12, 2, 12, 2, 12, 2, 12, 2, 12, 2]
def aLns : List Nat := [0, 0, 10, 10, 10, 10, 10, 10, 10, 24, 2, 0, 10, 10, 10, 10, 10, 10, 10, 24, 2, 0, 10, 10, 10, 10, 10, 10, 10, 24, 2, 0, 250, 8, 0, 512, 512, 512, 512, 0, 0, 2, 5, 0, 40, 0, 40, 0, 40, 0, 40, 0, 40, 0, 40, 0, 40, 0, 40]
def aRfs : List (List (Option Nat)) := [[some 65, some 75, some 85, none, some 95, some 97, some 98, some 103, some 104, some 106], [some 66, some 67, some 68, some 69, some 70, some 71, some 72, some 73, some 74], [], [], [], [], [], [], [], [], [], [some 76, some 77, some 78, some 79, some 80, some 81, some 82, some 83, some 84], [], [], [], [], [], [], [], [], [], [some 86, some 87, some 88, some 89, some 90, some 91, some 92, some 93, some 94], [], [], [], [], [], [], [], [], [], [some 96], [], [some 107, some 109, some 111, some 113, some 115, some 117, some 119, some 121], [some 65, some 99, some 100, some 101, some 102], [], [], [], [], [some 65, some 98], [some 65, some 103, some 105], [], [], [some 108], [], [some 110], [], [some 112], [], [some 114], [], [some 116], [], [some 118], [], [some 120], [], [some 122], []]
def aKd (a : Nat) : Nat := aKds.getD (a - 64) 0
def aLn (a : Nat) : Nat := aLns.getD (a - 64) 0
def aRf (a k : Nat) : Option Nat := (aRfs.getD (a - 64) []).getD k none
def sh_A (X : lm_X) : Prop := ∀ a, 64 ≤ a ∧ a < 123 → X.2.1 a = aKd a ∧ X.2.2.1 a = aLn a ∧ ∀ k, X.1 a k = aRf a k
theorem A_k {X : lm_X} (S : sh_A X) (a : Nat) (h : 64 ≤ a ∧ a < 123) : X.2.1 a = aKd a := (S a h).1
theorem A_l {X : lm_X} (S : sh_A X) (a : Nat) (h : 64 ≤ a ∧ a < 123) : X.2.2.1 a = aLn a := (S a h).2.1
theorem A_r {X : lm_X} (S : sh_A X) (a k : Nat) (h : 64 ≤ a ∧ a < 123) : X.1 a k = aRf a k := (S a h).2.2 k
theorem A_T65 {X : lm_X} (S : sh_A X) : sh_T X 65 := by
  refine ⟨by decide, A_k S 65 (by decide), ?_, ?_, A_l S 73 (by decide), A_l S 74 (by decide)⟩
  · intro k hk
    rcases (by omega : k = 0 ∨ k = 1 ∨ k = 2 ∨ k = 3 ∨ k = 4 ∨ k = 5 ∨ k = 6 ∨ k = 7 ∨ k = 8) with rfl | rfl | rfl | rfl | rfl | rfl | rfl | rfl | rfl
    · exact ⟨A_r S 65 0 (by decide), A_k S 66 (by decide)⟩
    · exact ⟨A_r S 65 1 (by decide), A_k S 67 (by decide)⟩
    · exact ⟨A_r S 65 2 (by decide), A_k S 68 (by decide)⟩
    · exact ⟨A_r S 65 3 (by decide), A_k S 69 (by decide)⟩
    · exact ⟨A_r S 65 4 (by decide), A_k S 70 (by decide)⟩
    · exact ⟨A_r S 65 5 (by decide), A_k S 71 (by decide)⟩
    · exact ⟨A_r S 65 6 (by decide), A_k S 72 (by decide)⟩
    · exact ⟨A_r S 65 7 (by decide), A_k S 73 (by decide)⟩
    · exact ⟨A_r S 65 8 (by decide), A_k S 74 (by decide)⟩
  · intro k hk
    rcases (by omega : k = 0 ∨ k = 1 ∨ k = 2 ∨ k = 3 ∨ k = 4 ∨ k = 5 ∨ k = 6) with rfl | rfl | rfl | rfl | rfl | rfl | rfl
    · exact A_l S 66 (by decide)
    · exact A_l S 67 (by decide)
    · exact A_l S 68 (by decide)
    · exact A_l S 69 (by decide)
    · exact A_l S 70 (by decide)
    · exact A_l S 71 (by decide)
    · exact A_l S 72 (by decide)
theorem A_T75 {X : lm_X} (S : sh_A X) : sh_T X 75 := by
  refine ⟨by decide, A_k S 75 (by decide), ?_, ?_, A_l S 83 (by decide), A_l S 84 (by decide)⟩
  · intro k hk
    rcases (by omega : k = 0 ∨ k = 1 ∨ k = 2 ∨ k = 3 ∨ k = 4 ∨ k = 5 ∨ k = 6 ∨ k = 7 ∨ k = 8) with rfl | rfl | rfl | rfl | rfl | rfl | rfl | rfl | rfl
    · exact ⟨A_r S 75 0 (by decide), A_k S 76 (by decide)⟩
    · exact ⟨A_r S 75 1 (by decide), A_k S 77 (by decide)⟩
    · exact ⟨A_r S 75 2 (by decide), A_k S 78 (by decide)⟩
    · exact ⟨A_r S 75 3 (by decide), A_k S 79 (by decide)⟩
    · exact ⟨A_r S 75 4 (by decide), A_k S 80 (by decide)⟩
    · exact ⟨A_r S 75 5 (by decide), A_k S 81 (by decide)⟩
    · exact ⟨A_r S 75 6 (by decide), A_k S 82 (by decide)⟩
    · exact ⟨A_r S 75 7 (by decide), A_k S 83 (by decide)⟩
    · exact ⟨A_r S 75 8 (by decide), A_k S 84 (by decide)⟩
  · intro k hk
    rcases (by omega : k = 0 ∨ k = 1 ∨ k = 2 ∨ k = 3 ∨ k = 4 ∨ k = 5 ∨ k = 6) with rfl | rfl | rfl | rfl | rfl | rfl | rfl
    · exact A_l S 76 (by decide)
    · exact A_l S 77 (by decide)
    · exact A_l S 78 (by decide)
    · exact A_l S 79 (by decide)
    · exact A_l S 80 (by decide)
    · exact A_l S 81 (by decide)
    · exact A_l S 82 (by decide)
theorem A_T85 {X : lm_X} (S : sh_A X) : sh_T X 85 := by
  refine ⟨by decide, A_k S 85 (by decide), ?_, ?_, A_l S 93 (by decide), A_l S 94 (by decide)⟩
  · intro k hk
    rcases (by omega : k = 0 ∨ k = 1 ∨ k = 2 ∨ k = 3 ∨ k = 4 ∨ k = 5 ∨ k = 6 ∨ k = 7 ∨ k = 8) with rfl | rfl | rfl | rfl | rfl | rfl | rfl | rfl | rfl
    · exact ⟨A_r S 85 0 (by decide), A_k S 86 (by decide)⟩
    · exact ⟨A_r S 85 1 (by decide), A_k S 87 (by decide)⟩
    · exact ⟨A_r S 85 2 (by decide), A_k S 88 (by decide)⟩
    · exact ⟨A_r S 85 3 (by decide), A_k S 89 (by decide)⟩
    · exact ⟨A_r S 85 4 (by decide), A_k S 90 (by decide)⟩
    · exact ⟨A_r S 85 5 (by decide), A_k S 91 (by decide)⟩
    · exact ⟨A_r S 85 6 (by decide), A_k S 92 (by decide)⟩
    · exact ⟨A_r S 85 7 (by decide), A_k S 93 (by decide)⟩
    · exact ⟨A_r S 85 8 (by decide), A_k S 94 (by decide)⟩
  · intro k hk
    rcases (by omega : k = 0 ∨ k = 1 ∨ k = 2 ∨ k = 3 ∨ k = 4 ∨ k = 5 ∨ k = 6) with rfl | rfl | rfl | rfl | rfl | rfl | rfl
    · exact A_l S 86 (by decide)
    · exact A_l S 87 (by decide)
    · exact A_l S 88 (by decide)
    · exact A_l S 89 (by decide)
    · exact A_l S 90 (by decide)
    · exact A_l S 91 (by decide)
    · exact A_l S 92 (by decide)
def sh_Sf (X : lm_X) (b : Nat) : Prop := 64 ≤ b ∧ X.2.1 b = 12 ∧ X.1 b 0 = some (b + 1) ∧ X.2.1 (b + 1) = 2 ∧ X.2.2.1 (b + 1) = 40
theorem Sf_64 {X : lm_X} {b : Nat} (S : sh_Sf X b) : 64 ≤ b := S.1
theorem Sf_kd {X : lm_X} {b : Nat} (S : sh_Sf X b) : X.2.1 b = 10 + 2 := S.2.1
theorem Sf_r0 {X : lm_X} {b : Nat} (S : sh_Sf X b) : X.1 b 0 = some (b + 1) := S.2.2.1
theorem Sf_k0 {X : lm_X} {b : Nat} (S : sh_Sf X b) : X.2.1 (b + 1) = 2 := S.2.2.2.1
theorem Sf_l0 {X : lm_X} {b : Nat} (S : sh_Sf X b) : X.2.2.1 (b + 1) = 40 := S.2.2.2.2
theorem A_Sf {X : lm_X} (S : sh_A X) {j : Nat} (hj : j < 8) : sh_Sf X (107 + 2 * j) := by
  rcases (by omega : j = 0 ∨ j = 1 ∨ j = 2 ∨ j = 3 ∨ j = 4 ∨ j = 5 ∨ j = 6 ∨ j = 7) with rfl | rfl | rfl | rfl | rfl | rfl | rfl | rfl
  · exact ⟨by decide, A_k S 107 (by decide), A_r S 107 0 (by decide), A_k S 108 (by decide), A_l S 108 (by decide)⟩
  · exact ⟨by decide, A_k S 109 (by decide), A_r S 109 0 (by decide), A_k S 110 (by decide), A_l S 110 (by decide)⟩
  · exact ⟨by decide, A_k S 111 (by decide), A_r S 111 0 (by decide), A_k S 112 (by decide), A_l S 112 (by decide)⟩
  · exact ⟨by decide, A_k S 113 (by decide), A_r S 113 0 (by decide), A_k S 114 (by decide), A_l S 114 (by decide)⟩
  · exact ⟨by decide, A_k S 115 (by decide), A_r S 115 0 (by decide), A_k S 116 (by decide), A_l S 116 (by decide)⟩
  · exact ⟨by decide, A_k S 117 (by decide), A_r S 117 0 (by decide), A_k S 118 (by decide), A_l S 118 (by decide)⟩
  · exact ⟨by decide, A_k S 119 (by decide), A_r S 119 0 (by decide), A_k S 120 (by decide), A_l S 120 (by decide)⟩
  · exact ⟨by decide, A_k S 121 (by decide), A_r S 121 0 (by decide), A_k S 122 (by decide), A_l S 122 (by decide)⟩
theorem A_sv {X : lm_X} (S : sh_A X) {j : Nat} (hj : j < 8) : X.1 97 j = some (107 + 2 * j) := by
  rcases (by omega : j = 0 ∨ j = 1 ∨ j = 2 ∨ j = 3 ∨ j = 4 ∨ j = 5 ∨ j = 6 ∨ j = 7) with rfl | rfl | rfl | rfl | rfl | rfl | rfl | rfl
  · exact A_r S 97 0 (by decide)
  · exact A_r S 97 1 (by decide)
  · exact A_r S 97 2 (by decide)
  · exact A_r S 97 3 (by decide)
  · exact A_r S 97 4 (by decide)
  · exact A_r S 97 5 (by decide)
  · exact A_r S 97 6 (by decide)
  · exact A_r S 97 7 (by decide)
def flr {α : Type} (f : Nat → α) (n : Nat) (v : α) : Nat → α := fun j => if j < n then v else f j
theorem flr_up {α : Type} {hi : Nat → Nat → α} {q m : Nat} {x : α} : lm_up (lm_row hi q (flr (hi q) m x)) q m x = lm_row hi q (flr (hi q) (m + 1) x) := by
  funext a j
  unfold lm_up lm_row flr
  by_cases h : a = q
  · subst h
    by_cases h2 : j = m
    · subst h2; simp
    · simp [h2]
      by_cases h3 : j < m
      · simp [h3, show j < m + 1 by omega]
      · simp [h3, show ¬ j < m + 1 by omega]
  · simp [h]
theorem flr_0 {α : Type} {hi : Nat → Nat → α} {q : Nat} {x : α} : lm_row hi q (flr (hi q) 0 x) = hi := by
  funext a j
  unfold lm_row flr
  by_cases h : a = q <;> simp [h]
theorem c_fillI1 {d : Nat} {hi : Nat → Nat → Int32} {hl : Nat → Nat → Int64} {X : lm_X} {q N : Nat} {x : Int32} (k1 : X.2.1 q = 1) (g1 : 64 ≤ q) (l1 : X.2.2.1 q = N) (hN : N < 2147483648) {P : Option Value → lm_H → Prop} (k : ∀ mk : Int32, lm_wp d 233 20 [.ref q, .int x, .int mk, .int (nI N)] [] (lm_row hi q (flr (hi q) N x), hl, X) P) : ∀ (j m : Nat) (hf : Nat → Nat → Int32) (mk : Int32), m + j = N → hf = lm_row hi q (flr (hi q) m x) → mk = nI m → lm_wp d 233 5 [.ref q, .int x, .int mk, .int (nI N)] [] (hf, hl, X) P := by
  intro j
  induction j with
  | zero =>
    intro m hf mk hm e1 e2
    refine w_N 2 7 [.ref q, .int x, .int mk, .int (nI N)] [.int (nI N), .int mk] rfl ?_
    refine w_icmp_ge_t (t := 20) rfl rfl (by rw [e2, show m = N by omega]; exact fun z => Int32.lt_irrefl z) ?_
    obtain rfl : m = N := by omega
    rw [e1]
    exact k _
  | succ j ih =>
    intro m hf mk hm e1 e2
    refine w_N 2 7 [.ref q, .int x, .int mk, .int (nI N)] [.int (nI N), .int mk] rfl ?_
    refine w_icmp_ge_f (t := 20) rfl rfl (by rw [e2]; exact nI_lt (by omega) (by omega)) ?_
    refine w_N 3 13 [.ref q, .int x, .int mk, .int (nI N)] [.int x, .int mk, .ref q] rfl ?_
    refine w_is m rfl k1 g1 l1 e2 (by omega) hN ?_
    refine w_N 2 5 [.ref q, .int x, .int (mk + 1), .int (nI N)] [] rfl ?_
    exact ih (m + 1) _ _ (by omega) (by rw [e1]; exact flr_up) (by rw [e2, nI_succ])
theorem c_fillI {d : Nat} {hi : Nat → Nat → Int32} {hl : Nat → Nat → Int64} {X : lm_X} {q N : Nat} {x : Int32} (k1 : X.2.1 q = 1) (g1 : 64 ≤ q) (l1 : X.2.2.1 q = N) (hN : N < 2147483648) : lm_c d 233 [.ref q, .int x] (hi, hl, X) (none, (lm_row hi q (flr (hi q) N x), hl, X)) := by
  refine lm_c_of (lm_w_in (Nat.le_of_ble_eq_true rfl) ?_)
  show lm_wp d 233 0 [.ref q, .int x, lm_jk, lm_jk] [] (hi, hl, X) _
  refine w_N 3 3 [.ref q, .int x, .int 0, lm_jk] [.ref q] rfl ?_
  refine w_al N rfl ⟨by rw [k1]; decide, by rw [k1]; decide⟩ l1 ?_
  refine w_N 1 5 [.ref q, .int x, .int 0, .int (nI N)] [] rfl ?_
  refine c_fillI1 k1 g1 l1 hN (fun mk => ?_) N 0 _ _ (by omega) flr_0.symm rfl
  exact w_rv rfl rfl rfl
theorem c_fillL1 {d : Nat} {hi : Nat → Nat → Int32} {hl : Nat → Nat → Int64} {X : lm_X} {q N : Nat} {x : Int64} (k1 : X.2.1 q = 2) (g1 : 64 ≤ q) (l1 : X.2.2.1 q = N) (hN : N < 2147483648) {P : Option Value → lm_H → Prop} (k : ∀ mk : Int32, lm_wp d 232 22 [.ref q, .long x, lm_jk, .int mk, .int (nI N)] [] (hi, lm_row hl q (flr (hl q) N x), X) P) : ∀ (j m : Nat) (hf : Nat → Nat → Int64) (mk : Int32), m + j = N → hf = lm_row hl q (flr (hl q) m x) → mk = nI m → lm_wp d 232 6 [.ref q, .long x, lm_jk, .int mk, .int (nI N)] [] (hi, hf, X) P := by
  intro j
  induction j with
  | zero =>
    intro m hf mk hm e1 e2
    refine w_N 2 9 [.ref q, .long x, lm_jk, .int mk, .int (nI N)] [.int (nI N), .int mk] rfl ?_
    refine w_icmp_ge_t (t := 22) rfl rfl (by rw [e2, show m = N by omega]; exact fun z => Int32.lt_irrefl z) ?_
    obtain rfl : m = N := by omega
    rw [e1]
    exact k _
  | succ j ih =>
    intro m hf mk hm e1 e2
    refine w_N 2 9 [.ref q, .long x, lm_jk, .int mk, .int (nI N)] [.int (nI N), .int mk] rfl ?_
    refine w_icmp_ge_f (t := 22) rfl rfl (by rw [e2]; exact nI_lt (by omega) (by omega)) ?_
    refine w_N 3 15 [.ref q, .long x, lm_jk, .int mk, .int (nI N)] [.long x, .int mk, .ref q] rfl ?_
    refine w_ls m rfl k1 g1 l1 e2 (by omega) hN ?_
    refine w_N 2 6 [.ref q, .long x, lm_jk, .int (mk + 1), .int (nI N)] [] rfl ?_
    exact ih (m + 1) _ _ (by omega) (by rw [e1]; exact flr_up) (by rw [e2, nI_succ])
theorem c_fillL {d : Nat} {hi : Nat → Nat → Int32} {hl : Nat → Nat → Int64} {X : lm_X} {q N : Nat} {x : Int64} (k1 : X.2.1 q = 2) (g1 : 64 ≤ q) (l1 : X.2.2.1 q = N) (hN : N < 2147483648) : lm_c d 232 [.ref q, .long x] (hi, hl, X) (none, (hi, lm_row hl q (flr (hl q) N x), X)) := by
  refine lm_c_of (lm_w_in (Nat.le_of_ble_eq_true rfl) ?_)
  show lm_wp d 232 0 [.ref q, .long x, lm_jk, lm_jk, lm_jk] [] (hi, hl, X) _
  refine w_N 3 3 [.ref q, .long x, lm_jk, .int 0, lm_jk] [.ref q] rfl ?_
  refine w_al N rfl ⟨by rw [k1]; decide, by rw [k1]; decide⟩ l1 ?_
  refine w_N 1 6 [.ref q, .long x, lm_jk, .int 0, .int (nI N)] [] rfl ?_
  refine c_fillL1 k1 g1 l1 hN (fun mk => ?_) N 0 _ _ (by omega) flr_0.symm rfl
  exact w_rv rfl rfl rfl
