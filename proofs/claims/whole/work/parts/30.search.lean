set_option maxRecDepth 16384
/-! Search -/
def mx (x y : Int32) : Int32 := if x < y then y else x
def tol (T : lm_T) (f : Int32 → Int32) (s : Int32) : Nat → Int32
  | 0 => -2000000000
  | i + 1 => if alw T i (awk s) s = true then mx (tol T f s i) (val T (awk s) (aft T i s) + f (s_next (aft T i s))) else tol T f s i
/-- together -/
def tog (T : lm_T) (n : Nat) : Nat → Int32 → Int32
  | 0, _ => 0
  | k + 1, s => tol T (tog T n k) s (n + 1)
def csl (T : lm_T) (f : Int32 → Bool) (s : Int32) : Nat → Nat → Bool
  | _, 0 => false
  | m, j + 1 => if alw T m (awk s) s = true ∧ f (s_next (aft T m s)) = true then true else csl T f s (m + 1) j
/-- whether a set can stand behind k days -/
def cst (T : lm_T) (n : Nat) (set idle : Int32) : Nat → Int32 → Bool
  | 0, s => decide (s &&& set = set)
  | k + 1, s => csl T (cst T n set idle k) s 0 ((if nI (awk s) = idle then 0 else n) + 1)
def mwl (T : lm_T) (f : Int32 → Int32) (s : Int32) : Nat → Int32
  | 0 => 0
  | i + 1 => if alw T i (awk s) s = true then mwl T f s i ||| f (s_next (aft T i s)) else mwl T f s i
/-- marks within k days -/
def mkw (T : lm_T) (n : Nat) : Nat → Int32 → Int32
  | 0, s => s_marks s
  | k + 1, s => mwl T (mkw T n k) s (n + 1)
/-- the other's day by its rule -/
def oth (T : lm_T) (n kd a : Nat) (s : Int32) : Int32 := s_next (aft T (chs T n kd a s) s)
def agl (T : lm_T) (f : Int32 → Int32) (s : Int32) : Nat → Int32
  | 0 => -2000000000
  | i + 1 => if alw T i (awk s) s = true then mx (agl T f s i) (val T (awk s) (aft T i s) + f (s_next (aft T i s))) else agl T f s i
/-- against a rule -/
def ags (T : lm_T) (n kd a : Nat) : Nat → Int32 → Int32
  | k + 3, s => agl T (fun t => ags T n kd a (k + 1) (oth T n kd a t)) s (n + 1)
  | _, s => agl T (fun _ => 0) s (n + 1)
def MB (d k : Nat) : Prop := ∀ (hi : Nat → Nat → Int32) (hl : Nat → Nat → Int64) (X : lm_X) (b n : Nat) (T : lm_T) (s x : Int32), sh_T X b → isT hi b T n → x = nI k → lm_c d 16 [.ref b, .int s, .int x] (hi, hl, X) (some (.int (tog T n k s)), (hi, hl, X))
def CB (d k : Nat) : Prop := ∀ (hi : Nat → Nat → Int32) (hl : Nat → Nat → Int64) (X : lm_X) (b n : Nat) (T : lm_T) (s set idle x : Int32), sh_T X b → isT hi b T n → x = nI k → lm_c d 17 [.ref b, .int s, .int set, .int idle, .int x] (hi, hl, X) (some (.int (bz (cst T n set idle k s))), (hi, hl, X))
def KB (d k : Nat) : Prop := ∀ (hi : Nat → Nat → Int32) (hl : Nat → Nat → Int64) (X : lm_X) (b n : Nat) (T : lm_T) (s x : Int32), sh_T X b → isT hi b T n → x = nI k → lm_c d 18 [.ref b, .int s, .int x] (hi, hl, X) (some (.int (mkw T n k s)), (hi, hl, X))
theorem nI_prd (k : Nat) : nI (k + 1) - 1 = nI k := by rw [show (1 : Int32) = nI 1 from rfl, nI_sub (by omega)]; rfl
theorem nI_gt0 {k : Nat} (hk : k < 1000) : 0 < nI (k + 1) := nI_lt (a := 0) (by omega) (by omega)
theorem q_mb1 {d : Nat} {hi : Nat → Nat → Int32} {hl : Nat → Nat → Int64} {X : lm_X} {b n : Nat} {T : lm_T} (S : sh_T X b) (H : isT hi b T n) {s : Int32} {k : Nat} (hk : k < 1000) (hB : 1 ≤ k → MB (d + 2) k) {P : Option Value → lm_H → Prop} (k' : ∀ (c : Int32) (y z : Value), lm_wp (d + 3) 16 87 [.ref b, .int s, .int (nI (k + 1)), .int (nI (awk s)), .int (tog T n (k + 1) s), .int c, y, z] [] (hi, hl, X) P) : ∀ (j m : Nat) (ms : Int32) (mk : Int32) (x6 : Value) (x7 : Value), m + j = n + 1 → (ms = tol T (tog T n k) s m) → (mk = aI m) → lm_wp (d + 3) 16 12 [.ref b, .int s, .int (nI (k + 1)), .int (nI (awk s)), .int ms, .int mk, x6, x7] [] (hi, hl, X) P := by
  intro j
  induction j with
  | zero =>
    intro m ms mk x6 x7 hm e1 e4
    have hn10 := isTle H
    refine w_N 2 15 [.ref b, .int s, .int (nI (k + 1)), .int (nI (awk s)), .int ms, .int mk, x6, x7] [.ref b, .int mk] rfl ?_
    refine w_gi (v := nI n) rfl rfl rfl (T_kd S) (isTn H) ?_
    refine w_icmp_ge_t (t := 87) rfl rfl (by rw [e4, aI_lt (by omega) (by omega)]; omega) ?_
    obtain rfl : m = n + 1 := by omega
    rw [e1]
    exact k' _ _ _
  | succ j ih =>
    intro m ms mk x6 x7 hm e1 e4
    have hn10 := isTle H
    refine w_N 2 15 [.ref b, .int s, .int (nI (k + 1)), .int (nI (awk s)), .int ms, .int mk, x6, x7] [.ref b, .int mk] rfl ?_
    refine w_gi (v := nI n) rfl rfl rfl (T_kd S) (isTn H) ?_
    refine w_icmp_ge_f (t := 87) rfl rfl (by rw [e4, aI_lt (by omega) (by omega)]; omega) ?_
    refine w_N 4 26 [.ref b, .int s, .int (nI (k + 1)), .int (nI (awk s)), .int ms, .int mk, x6, x7] [.int s, .int (nI (awk s)), .int mk, .ref b] rfl ?_
    refine w_cc (w_vst rfl rfl rfl (Nat.le_of_ble_eq_true rfl) (Nat.le_of_ble_eq_true rfl) (T_kd S)) (t_allowsE (d := d + 1) S H e4 rfl (by omega)) ?_
    show lm_wp _ 16 29 [.ref b, .int s, .int (nI (k + 1)), .int (nI (awk s)), .int ms, .int mk, x6, x7] [.int (bz (alw T m (awk s) s))] (hi, hl, X) _
    refine w_zeq (t := 81) rfl rfl (fun c1 => ?_) (fun c1 => ?_)
    · refine w_N 2 12 [.ref b, .int s, .int (nI (k + 1)), .int (nI (awk s)), .int ms, .int (mk + 1), x6, x7] [] rfl ?_
      have eb : tol T (tog T n k) s (m + 1) = tol T (tog T n k) s m := if_neg (by rw [c1]; decide)
      exact ih (m + 1) _ _ _ _ (by omega) (by rw [e1, eb]) (by rw [e4, aI_succ])
    · refine w_N 3 36 [.ref b, .int s, .int (nI (k + 1)), .int (nI (awk s)), .int ms, .int mk, x6, x7] [.int s, .int mk, .ref b] rfl ?_
      refine w_cc (w_vst rfl rfl rfl (Nat.le_of_ble_eq_true rfl) (Nat.le_of_ble_eq_true rfl) (T_kd S)) (t_afterE (d := d + 1) S H e4 (by omega)) ?_
      show lm_wp _ 16 39 [.ref b, .int s, .int (nI (k + 1)), .int (nI (awk s)), .int ms, .int mk, x6, x7] [.int (aft T m s)] (hi, hl, X) _
      refine w_N 3 43 [.ref b, .int s, .int (nI (k + 1)), .int (nI (awk s)), .int ms, .int mk, .int (aft T m s), x7] [.int 1, .int (nI (k + 1))] rfl ?_
      refine w_icmp_le (t := 61) rfl rfl (fun c2 => ?_) (fun c2 => ?_)
      · refine w_N 6 70 [.ref b, .int s, .int (nI (k + 1)), .int (nI (awk s)), .int ms, .int mk, .int (aft T m s), .int 0] [.int (aft T m s), .int (nI (awk s)), .ref b, .int ms] rfl ?_
        refine w_cc (w_vst rfl rfl rfl (Nat.le_of_ble_eq_true rfl) (Nat.le_of_ble_eq_true rfl) (T_kd S)) (t_valueTo (d := d + 1) S H (awk_lt s)) ?_
        show lm_wp _ 16 73 [.ref b, .int s, .int (nI (k + 1)), .int (nI (awk s)), .int ms, .int mk, .int (aft T m s), .int 0] [.int (val T (awk s) (aft T m s)), .int ms] (hi, hl, X) _
        refine w_N 6 12 [.ref b, .int s, .int (nI (k + 1)), .int (nI (awk s)), .int (if ms < (val T (awk s) (aft T m s)) + 0 then (val T (awk s) (aft T m s)) + 0 else ms), .int (mk + 1), .int (aft T m s), .int 0] [] rfl ?_
        have eb : tol T (tog T n k) s (m + 1) = mx (tol T (tog T n k) s m) (val T (awk s) (aft T m s) + tog T n k (s_next (aft T m s))) := if_pos c1
        have hk0 : k = 0 := by
          rw [show (1 : Int32) = nI 1 from rfl, nI_lt_iff (by omega) (by omega)] at c2
          omega
        subst hk0
        exact ih (m + 1) _ _ _ _ (by omega) (by rw [eb, e1]; rfl) (by rw [e4, aI_succ])
      · refine w_N 2 49 [.ref b, .int s, .int (nI (k + 1)), .int (nI (awk s)), .int ms, .int mk, .int (aft T m s), x7] [.int (aft T m s), .ref b] rfl ?_
        refine w_cc rfl c_X4_nextDay ?_
        show lm_wp _ 16 52 [.ref b, .int s, .int (nI (k + 1)), .int (nI (awk s)), .int ms, .int mk, .int (aft T m s), x7] [.int (s_next (aft T m s)), .ref b] (hi, hl, X) _
        refine w_N 3 55 [.ref b, .int s, .int (nI (k + 1)), .int (nI (awk s)), .int ms, .int mk, .int (aft T m s), x7] [.int ((nI (k + 1)) - 1), .int (s_next (aft T m s)), .ref b] rfl ?_
        have hk1 : 1 ≤ k := by
          rw [show (1 : Int32) = nI 1 from rfl, nI_lt_iff (by omega) (by omega)] at c2
          omega
        refine w_cc rfl (hB hk1 _ _ _ _ _ _ _ _ S H (nI_prd k)) ?_
        show lm_wp _ 16 58 [.ref b, .int s, .int (nI (k + 1)), .int (nI (awk s)), .int ms, .int mk, .int (aft T m s), x7] [.int (tog T n k (s_next (aft T m s)))] (hi, hl, X) _
        refine w_N 6 70 [.ref b, .int s, .int (nI (k + 1)), .int (nI (awk s)), .int ms, .int mk, .int (aft T m s), .int (tog T n k (s_next (aft T m s)))] [.int (aft T m s), .int (nI (awk s)), .ref b, .int ms] rfl ?_
        refine w_cc (w_vst rfl rfl rfl (Nat.le_of_ble_eq_true rfl) (Nat.le_of_ble_eq_true rfl) (T_kd S)) (t_valueTo (d := d + 1) S H (awk_lt s)) ?_
        show lm_wp _ 16 73 [.ref b, .int s, .int (nI (k + 1)), .int (nI (awk s)), .int ms, .int mk, .int (aft T m s), .int (tog T n k (s_next (aft T m s)))] [.int (val T (awk s) (aft T m s)), .int ms] (hi, hl, X) _
        refine w_N 6 12 [.ref b, .int s, .int (nI (k + 1)), .int (nI (awk s)), .int (if ms < (val T (awk s) (aft T m s)) + (tog T n k (s_next (aft T m s))) then (val T (awk s) (aft T m s)) + (tog T n k (s_next (aft T m s))) else ms), .int (mk + 1), .int (aft T m s), .int (tog T n k (s_next (aft T m s)))] [] rfl ?_
        have eb : tol T (tog T n k) s (m + 1) = mx (tol T (tog T n k) s m) (val T (awk s) (aft T m s) + tog T n k (s_next (aft T m s))) := if_pos c1
        exact ih (m + 1) _ _ _ _ (by omega) (by rw [eb, e1]; rfl) (by rw [e4, aI_succ])
theorem MB_of {d k : Nat} (hk : k < 1000) (hB : 1 ≤ k → MB (d + 2) k) : MB (d + 3) (k + 1) := by
  intro hi hl X b n T s x S H hx
  subst hx
  refine lm_c_of (lm_w_in (Nat.le_of_ble_eq_true rfl) ?_)
  show lm_wp (d + 3) 16 0 [.ref b, .int s, .int (nI (k + 1)), lm_jk, lm_jk, lm_jk, lm_jk, lm_jk] [] (hi, hl, X) _
  refine w_N 1 1 [.ref b, .int s, .int (nI (k + 1)), lm_jk, lm_jk, lm_jk, lm_jk, lm_jk] [.int s] rfl ?_
  refine w_cc rfl (c_awkz rfl) ?_
  show lm_wp _ 16 4 [.ref b, .int s, .int (nI (k + 1)), lm_jk, lm_jk, lm_jk, lm_jk, lm_jk] [.int (nI (awk s))] (hi, hl, X) _
  refine w_N 5 12 [.ref b, .int s, .int (nI (k + 1)), .int (nI (awk s)), .int (-2000000000), .int (-1), lm_jk, lm_jk] [] rfl ?_
  refine q_mb1 (k := k) S H hk hB (fun c y z => ?_) (n + 1) 0 _ _ _ _ (by omega) rfl rfl
  refine w_N 1 89 _ [.int (tog T n (k + 1) s)] rfl ?_
  exact w_ri rfl rfl rfl
theorem MB_all : ∀ k d, k < 1000 → MB (d + k + 3) (k + 1) := by
  intro k
  induction k with
  | zero => intro d _; exact MB_of (by decide) (fun z => absurd z (by decide))
  | succ k ih => intro d h; exact MB_of (d := d + k + 1) h (fun _ => ih d (by omega))
theorem q_mostOfBoth {d : Nat} {hi : Nat → Nat → Int32} {hl : Nat → Nat → Int64} {X : lm_X} {b n : Nat} {T : lm_T} (S : sh_T X b) (H : isT hi b T n) {s : Int32} {k : Nat} (h1 : 1 ≤ k) (h4 : k ≤ 4) : lm_c (d + 6) 16 [.ref b, .int s, .int (nI k)] (hi, hl, X) (some (.int (tog T n k s)), (hi, hl, X)) := by
  obtain ⟨k, rfl⟩ : ∃ j, k = j + 1 := ⟨k - 1, by omega⟩
  exact lm_c_dep (d := d + k + 3) (by omega) (MB_all k d (by omega) _ _ _ _ _ _ _ _ S H rfl)
theorem q_cs1 {d : Nat} {hi : Nat → Nat → Int32} {hl : Nat → Nat → Int64} {X : lm_X} {b n : Nat} {T : lm_T} (S : sh_T X b) (H : isT hi b T n) {s set idle : Int32} {k nn : Nat} (hnn : nn ≤ n) (hB : CB (d + 2) k) {P : Option Value → lm_H → Prop} : ∀ (j m : Nat) (mk : Int32), m + j = nn + 1 → (mk = aI m) → (∀ v h1, (v, h1) = (some (.int (bz (csl T (cst T n set idle k) s m j))), (hi, hl, X)) → P v h1) → lm_wp (d + 3) 17 43 [.ref b, .int s, .int set, .int idle, .int (nI (k + 1)), .int (nI (awk s)), .int (nI nn), .int mk] [] (hi, hl, X) P := by
  intro j
  induction j with
  | zero =>
    intro m mk hm e4 hP
    have hn10 := isTle H
    refine w_N 2 47 [.ref b, .int s, .int set, .int idle, .int (nI (k + 1)), .int (nI (awk s)), .int (nI nn), .int mk] [.int (nI nn), .int mk] rfl ?_
    refine w_icmp_ge_t (t := 93) rfl rfl (by rw [e4, aI_lt (by omega) (by omega)]; omega) ?_
    refine w_N 1 94 [.ref b, .int s, .int set, .int idle, .int (nI (k + 1)), .int (nI (awk s)), .int (nI nn), .int mk] [.int 0] rfl ?_
    refine w_rz rfl rfl (by decide) ?_
    exact hP _ _ rfl
  | succ j ih =>
    intro m mk hm e4 hP
    have hn10 := isTle H
    refine w_N 2 47 [.ref b, .int s, .int set, .int idle, .int (nI (k + 1)), .int (nI (awk s)), .int (nI nn), .int mk] [.int (nI nn), .int mk] rfl ?_
    refine w_icmp_ge_f (t := 93) rfl rfl (by rw [e4, aI_lt (by omega) (by omega)]; omega) ?_
    refine w_N 4 56 [.ref b, .int s, .int set, .int idle, .int (nI (k + 1)), .int (nI (awk s)), .int (nI nn), .int mk] [.int s, .int (nI (awk s)), .int mk, .ref b] rfl ?_
    refine w_cc (w_vst rfl rfl rfl (Nat.le_of_ble_eq_true rfl) (Nat.le_of_ble_eq_true rfl) (T_kd S)) (t_allowsE (d := d + 1) S H e4 rfl (by omega)) ?_
    show lm_wp _ 17 59 [.ref b, .int s, .int set, .int idle, .int (nI (k + 1)), .int (nI (awk s)), .int (nI nn), .int mk] [.int (bz (alw T m (awk s) s))] (hi, hl, X) _
    refine w_zeq (t := 87) rfl rfl (fun c1 => ?_) (fun c1 => ?_)
    · refine w_N 2 43 [.ref b, .int s, .int set, .int idle, .int (nI (k + 1)), .int (nI (awk s)), .int (nI nn), .int (mk + 1)] [] rfl ?_
      have eb : csl T (cst T n set idle k) s m (j + 1) = csl T (cst T n set idle k) s (m + 1) j := if_neg (fun z => by rw [c1] at z; exact absurd z.1 (by decide))
      rw [eb] at hP
      exact ih (m + 1) _ (by omega) (by rw [e4, aI_succ]) hP
    · refine w_N 4 67 [.ref b, .int s, .int set, .int idle, .int (nI (k + 1)), .int (nI (awk s)), .int (nI nn), .int mk] [.int s, .int mk, .ref b, .ref b] rfl ?_
      refine w_cc (w_vst rfl rfl rfl (Nat.le_of_ble_eq_true rfl) (Nat.le_of_ble_eq_true rfl) (T_kd S)) (t_afterE (d := d + 1) S H e4 (by omega)) ?_
      show lm_wp _ 17 70 [.ref b, .int s, .int set, .int idle, .int (nI (k + 1)), .int (nI (awk s)), .int (nI nn), .int mk] [.int (aft T m s), .ref b] (hi, hl, X) _
      refine w_cc rfl c_X4_nextDay ?_
      show lm_wp _ 17 73 [.ref b, .int s, .int set, .int idle, .int (nI (k + 1)), .int (nI (awk s)), .int (nI nn), .int mk] [.int (s_next (aft T m s)), .ref b] (hi, hl, X) _
      refine w_N 5 79 [.ref b, .int s, .int set, .int idle, .int (nI (k + 1)), .int (nI (awk s)), .int (nI nn), .int mk] [.int ((nI (k + 1)) - 1), .int idle, .int set, .int (s_next (aft T m s)), .ref b] rfl ?_
      refine w_cc rfl (hB _ _ _ _ _ _ _ _ _ _ S H (nI_prd k)) ?_
      show lm_wp _ 17 82 [.ref b, .int s, .int set, .int idle, .int (nI (k + 1)), .int (nI (awk s)), .int (nI nn), .int mk] [.int (bz (cst T n set idle k (s_next (aft T m s))))] (hi, hl, X) _
      refine w_zeq (t := 87) rfl rfl (fun c2 => ?_) (fun c2 => ?_)
      · refine w_N 2 43 [.ref b, .int s, .int set, .int idle, .int (nI (k + 1)), .int (nI (awk s)), .int (nI nn), .int (mk + 1)] [] rfl ?_
        have eb : csl T (cst T n set idle k) s m (j + 1) = csl T (cst T n set idle k) s (m + 1) j := if_neg (fun z => by rw [c2] at z; exact absurd z.2 (by decide))
        rw [eb] at hP
        exact ih (m + 1) _ (by omega) (by rw [e4, aI_succ]) hP
      · refine w_N 1 86 [.ref b, .int s, .int set, .int idle, .int (nI (k + 1)), .int (nI (awk s)), .int (nI nn), .int mk] [.int 1] rfl ?_
        refine w_rz rfl rfl (by decide) ?_
        exact hP _ _ (by rw [show csl T (cst T n set idle k) s m (j + 1) = true from if_pos ⟨c1, c2⟩]; rfl)
theorem CB_0 {d : Nat} : CB d 0 := by
  intro hi hl X b n T s set idle x S H hx
  subst hx
  refine lm_c_of (lm_w_in (Nat.le_of_ble_eq_true rfl) ?_)
  show lm_wp d 17 0 [.ref b, .int s, .int set, .int idle, .int 0, lm_jk, lm_jk, lm_jk] [] (hi, hl, X) _
  refine w_N 1 2 [.ref b, .int s, .int set, .int idle, .int 0, lm_jk, lm_jk, lm_jk] [.int 0] rfl ?_
  refine w_if_gt_f (t := 18) rfl rfl (by decide) ?_
  refine w_N 4 9 [.ref b, .int s, .int set, .int idle, .int 0, lm_jk, lm_jk, lm_jk] [.int set, .int (s &&& set)] rfl ?_
  refine w_icmp_ne (t := 16) rfl rfl (fun c1 => ?_) (fun c1 => ?_)
  · refine w_N 1 17 [.ref b, .int s, .int set, .int idle, .int 0, lm_jk, lm_jk, lm_jk] [.int 0] rfl ?_
    refine w_rz rfl rfl (by decide) ?_
    simp [bz, cst, *]
  · refine w_N 2 17 [.ref b, .int s, .int set, .int idle, .int 0, lm_jk, lm_jk, lm_jk] [.int 1] rfl ?_
    refine w_rz rfl rfl (by decide) ?_
    simp [bz, cst, *]
theorem CB_of {d k : Nat} (hk : k < 1000) (hB : CB (d + 2) k) : CB (d + 3) (k + 1) := by
  intro hi hl X b n T s set idle x S H hx
  subst hx
  refine lm_c_of (lm_w_in (Nat.le_of_ble_eq_true rfl) ?_)
  show lm_wp (d + 3) 17 0 [.ref b, .int s, .int set, .int idle, .int (nI (k + 1)), lm_jk, lm_jk, lm_jk] [] (hi, hl, X) _
  refine w_N 1 2 [.ref b, .int s, .int set, .int idle, .int (nI (k + 1)), lm_jk, lm_jk, lm_jk] [.int (nI (k + 1))] rfl ?_
  refine w_if_gt_t (t := 18) rfl rfl (nI_gt0 hk) ?_
  refine w_N 1 19 [.ref b, .int s, .int set, .int idle, .int (nI (k + 1)), lm_jk, lm_jk, lm_jk] [.int s] rfl ?_
  refine w_cc rfl (c_awkz rfl) ?_
  show lm_wp _ 17 22 [.ref b, .int s, .int set, .int idle, .int (nI (k + 1)), lm_jk, lm_jk, lm_jk] [.int (nI (awk s))] (hi, hl, X) _
  refine w_N 3 27 [.ref b, .int s, .int set, .int idle, .int (nI (k + 1)), .int (nI (awk s)), lm_jk, lm_jk] [.int idle, .int (nI (awk s))] rfl ?_
  refine w_icmp_ne (t := 34) rfl rfl (fun c1 => ?_) (fun c1 => ?_)
  · refine w_N 1 35 [.ref b, .int s, .int set, .int idle, .int (nI (k + 1)), .int (nI (awk s)), lm_jk, lm_jk] [.ref b] rfl ?_
    refine w_gi (v := nI n) rfl rfl rfl (T_kd S) (isTn H) ?_
    refine w_N 3 43 [.ref b, .int s, .int set, .int idle, .int (nI (k + 1)), .int (nI (awk s)), .int (nI n), .int (-1)] [] rfl ?_
    refine q_cs1 (nn := n) S H (Nat.le_refl _) hB (n + 1) 0 _ (by omega) rfl (fun v h1 q => q.trans ?_)
    rw [show cst T n set idle (k + 1) s = csl T (cst T n set idle k) s 0 ((if nI (awk s) = idle then 0 else n) + 1) from rfl, if_neg c1]
  · refine w_N 5 43 [.ref b, .int s, .int set, .int idle, .int (nI (k + 1)), .int (nI (awk s)), .int 0, .int (-1)] [] rfl ?_
    refine q_cs1 (nn := 0) S H (Nat.zero_le _) hB (0 + 1) 0 _ (by omega) rfl (fun v h1 q => q.trans ?_)
    rw [show cst T n set idle (k + 1) s = csl T (cst T n set idle k) s 0 ((if nI (awk s) = idle then 0 else n) + 1) from rfl, if_pos c1]
theorem CB_all : ∀ k d, k < 1000 → CB (d + k + 2) k := by
  intro k
  induction k with
  | zero => intro d _; exact CB_0
  | succ k ih => intro d h; exact CB_of (d := d + k) (by omega) (ih d (by omega))
theorem q_canStand {d : Nat} {hi : Nat → Nat → Int32} {hl : Nat → Nat → Int64} {X : lm_X} {b n : Nat} {T : lm_T} (S : sh_T X b) (H : isT hi b T n) {s set idle : Int32} {k : Nat} (h4 : k ≤ 4) : lm_c (d + 6) 17 [.ref b, .int s, .int set, .int idle, .int (nI k)] (hi, hl, X) (some (.int (bz (cst T n set idle k s))), (hi, hl, X)) :=
  lm_c_dep (d := d + k + 2) (by omega) (CB_all k d (by omega) _ _ _ _ _ _ _ _ _ _ S H rfl)
theorem q_mw1 {d : Nat} {hi : Nat → Nat → Int32} {hl : Nat → Nat → Int64} {X : lm_X} {b n : Nat} {T : lm_T} (S : sh_T X b) (H : isT hi b T n) {s : Int32} {k : Nat} (hB : KB (d + 2) k) {P : Option Value → lm_H → Prop} (k' : ∀ (c : Int32), lm_wp (d + 3) 18 68 [.ref b, .int s, .int (nI (k + 1)), .int (nI (awk s)), .int (mkw T n (k + 1) s), .int c] [] (hi, hl, X) P) : ∀ (j m : Nat) (ms : Int32) (mk : Int32), m + j = n + 1 → (ms = mwl T (mkw T n k) s m) → (mk = aI m) → lm_wp (d + 3) 18 20 [.ref b, .int s, .int (nI (k + 1)), .int (nI (awk s)), .int ms, .int mk] [] (hi, hl, X) P := by
  intro j
  induction j with
  | zero =>
    intro m ms mk hm e1 e4
    have hn10 := isTle H
    refine w_N 2 23 [.ref b, .int s, .int (nI (k + 1)), .int (nI (awk s)), .int ms, .int mk] [.ref b, .int mk] rfl ?_
    refine w_gi (v := nI n) rfl rfl rfl (T_kd S) (isTn H) ?_
    refine w_icmp_ge_t (t := 68) rfl rfl (by rw [e4, aI_lt (by omega) (by omega)]; omega) ?_
    obtain rfl : m = n + 1 := by omega
    rw [e1]
    exact k' _
  | succ j ih =>
    intro m ms mk hm e1 e4
    have hn10 := isTle H
    refine w_N 2 23 [.ref b, .int s, .int (nI (k + 1)), .int (nI (awk s)), .int ms, .int mk] [.ref b, .int mk] rfl ?_
    refine w_gi (v := nI n) rfl rfl rfl (T_kd S) (isTn H) ?_
    refine w_icmp_ge_f (t := 68) rfl rfl (by rw [e4, aI_lt (by omega) (by omega)]; omega) ?_
    refine w_N 4 34 [.ref b, .int s, .int (nI (k + 1)), .int (nI (awk s)), .int ms, .int mk] [.int s, .int (nI (awk s)), .int mk, .ref b] rfl ?_
    refine w_cc (w_vst rfl rfl rfl (Nat.le_of_ble_eq_true rfl) (Nat.le_of_ble_eq_true rfl) (T_kd S)) (t_allowsE (d := d + 1) S H e4 rfl (by omega)) ?_
    show lm_wp _ 18 37 [.ref b, .int s, .int (nI (k + 1)), .int (nI (awk s)), .int ms, .int mk] [.int (bz (alw T m (awk s) s))] (hi, hl, X) _
    refine w_zeq (t := 62) rfl rfl (fun c1 => ?_) (fun c1 => ?_)
    · refine w_N 2 20 [.ref b, .int s, .int (nI (k + 1)), .int (nI (awk s)), .int ms, .int (mk + 1)] [] rfl ?_
      have eb : mwl T (mkw T n k) s (m + 1) = mwl T (mkw T n k) s m := if_neg (by rw [c1]; decide)
      exact ih (m + 1) _ _ (by omega) (by rw [e1, eb]) (by rw [e4, aI_succ])
    · refine w_N 5 47 [.ref b, .int s, .int (nI (k + 1)), .int (nI (awk s)), .int ms, .int mk] [.int s, .int mk, .ref b, .ref b, .int ms] rfl ?_
      refine w_cc (w_vst rfl rfl rfl (Nat.le_of_ble_eq_true rfl) (Nat.le_of_ble_eq_true rfl) (T_kd S)) (t_afterE (d := d + 1) S H e4 (by omega)) ?_
      show lm_wp _ 18 50 [.ref b, .int s, .int (nI (k + 1)), .int (nI (awk s)), .int ms, .int mk] [.int (aft T m s), .ref b, .int ms] (hi, hl, X) _
      refine w_cc rfl c_X4_nextDay ?_
      show lm_wp _ 18 53 [.ref b, .int s, .int (nI (k + 1)), .int (nI (awk s)), .int ms, .int mk] [.int (s_next (aft T m s)), .ref b, .int ms] (hi, hl, X) _
      refine w_N 3 56 [.ref b, .int s, .int (nI (k + 1)), .int (nI (awk s)), .int ms, .int mk] [.int ((nI (k + 1)) - 1), .int (s_next (aft T m s)), .ref b, .int ms] rfl ?_
      refine w_cc rfl (hB _ _ _ _ _ _ _ _ S H (nI_prd k)) ?_
      show lm_wp _ 18 59 [.ref b, .int s, .int (nI (k + 1)), .int (nI (awk s)), .int ms, .int mk] [.int (mkw T n k (s_next (aft T m s))), .int ms] (hi, hl, X) _
      refine w_N 4 20 [.ref b, .int s, .int (nI (k + 1)), .int (nI (awk s)), .int (ms ||| (mkw T n k (s_next (aft T m s)))), .int (mk + 1)] [] rfl ?_
      have eb : mwl T (mkw T n k) s (m + 1) = mwl T (mkw T n k) s m ||| mkw T n k (s_next (aft T m s)) := if_pos c1
      exact ih (m + 1) _ _ (by omega) (by rw [eb, e1]) (by rw [e4, aI_succ])
theorem KB_0 {d : Nat} : KB (d + 1) 0 := by
  intro hi hl X b n T s x S H hx
  subst hx
  refine lm_c_of (lm_w_in (Nat.le_of_ble_eq_true rfl) ?_)
  show lm_wp (d + 1) 18 0 [.ref b, .int s, .int 0, lm_jk, lm_jk, lm_jk] [] (hi, hl, X) _
  refine w_N 1 1 [.ref b, .int s, .int 0, lm_jk, lm_jk, lm_jk] [.int 0] rfl ?_
  refine w_if_gt_f (t := 9) rfl rfl (by decide) ?_
  refine w_N 1 5 [.ref b, .int s, .int 0, lm_jk, lm_jk, lm_jk] [.int s] rfl ?_
  refine w_cc rfl c_X4_marksIn ?_
  show lm_wp _ 18 8 [.ref b, .int s, .int 0, lm_jk, lm_jk, lm_jk] [.int (s_marks s)] (hi, hl, X) _
  refine w_ri rfl rfl ?_
  rfl
theorem KB_of {d k : Nat} (hk : k < 1000) (hB : KB (d + 2) k) : KB (d + 3) (k + 1) := by
  intro hi hl X b n T s x S H hx
  subst hx
  refine lm_c_of (lm_w_in (Nat.le_of_ble_eq_true rfl) ?_)
  show lm_wp (d + 3) 18 0 [.ref b, .int s, .int (nI (k + 1)), lm_jk, lm_jk, lm_jk] [] (hi, hl, X) _
  refine w_N 1 1 [.ref b, .int s, .int (nI (k + 1)), lm_jk, lm_jk, lm_jk] [.int (nI (k + 1))] rfl ?_
  refine w_if_gt_t (t := 9) rfl rfl (nI_gt0 hk) ?_
  refine w_N 1 10 [.ref b, .int s, .int (nI (k + 1)), lm_jk, lm_jk, lm_jk] [.int s] rfl ?_
  refine w_cc rfl (c_awkz rfl) ?_
  show lm_wp _ 18 13 [.ref b, .int s, .int (nI (k + 1)), lm_jk, lm_jk, lm_jk] [.int (nI (awk s))] (hi, hl, X) _
  refine w_N 5 20 [.ref b, .int s, .int (nI (k + 1)), .int (nI (awk s)), .int 0, .int (-1)] [] rfl ?_
  refine q_mw1 (k := k) S H hB (fun c => ?_) (n + 1) 0 _ _ (by omega) rfl rfl
  refine w_N 1 70 _ [.int (mkw T n (k + 1) s)] rfl ?_
  exact w_ri rfl rfl rfl
theorem KB_all : ∀ k d, k < 1000 → KB (d + k + 2) k := by
  intro k
  induction k with
  | zero => intro d _; exact KB_0
  | succ k ih => intro d h; exact KB_of (d := d + k) (by omega) (ih d (by omega))
theorem q_marksWithin {d : Nat} {hi : Nat → Nat → Int32} {hl : Nat → Nat → Int64} {X : lm_X} {b n : Nat} {T : lm_T} (S : sh_T X b) (H : isT hi b T n) {s : Int32} {k : Nat} (h4 : k ≤ 4) : lm_c (d + 6) 18 [.ref b, .int s, .int (nI k)] (hi, hl, X) (some (.int (mkw T n k s)), (hi, hl, X)) :=
  lm_c_dep (d := d + k + 2) (by omega) (KB_all k d (by omega) _ _ _ _ _ _ _ _ S H rfl)
def AB (d k : Nat) : Prop := ∀ (hi : Nat → Nat → Int32) (hl : Nat → Nat → Int64) (X : lm_X) (n C kd a q : Nat) (T : lm_T) (s x : Int32), sh_A X → isT hi 65 T n → fok hi T n C → okT T n → okS s → sh_Sf X q → hi q 1 = nI (10 + kd) → hi q 3 = nI a → 1 ≤ kd → kd ≤ 6 → a ≤ 99 → 103 ≤ q → x = nI k → lm_w d 15 [.ref 65, .ref 103, .ref q, .int s, .int x] (hi, hl, X) (fun v h1 => ∃ hi', v = some (.int (ags T n kd a k s)) ∧ h1 = (hi', hl, X) ∧ fr 98 103 hi hi' ∧ fok hi' T n C)
def agf (T : lm_T) (n kd a k : Nat) : Int32 → Int32 := if k < 3 then (fun _ => 0) else (fun t => ags T n kd a (k - 2) (oth T n kd a t))
theorem ags_eq (T : lm_T) (n kd a k : Nat) (s : Int32) : ags T n kd a k s = agl T (agf T n kd a k) s (n + 1) := by
  match k with
  | 0 => rfl
  | 1 => rfl
  | 2 => rfl
  | k + 3 =>
    unfold ags agf
    rw [if_neg (by omega)]
    rfl
theorem q_ma1 {d : Nat} {hi : Nat → Nat → Int32} {hl : Nat → Nat → Int64} {X : lm_X} (S : sh_A X) {n C kd a q k : Nat} {T : lm_T} {s : Int32} (hT : okT T n) (hs : okS s) (Q : sh_Sf X q) (h1 : 1 ≤ kd) (h6 : kd ≤ 6) (ha : a ≤ 99) (hq : 103 ≤ q) (hk : k < 1000) (hB : 3 ≤ k → AB (d + 15) (k - 2)) (q1 : hi q 1 = nI (10 + kd)) (q3 : hi q 3 = nI a) {P : Option Value → lm_H → Prop} (k' : ∀ (c : Int32) (x8 x9 x10 x11 : Value) (hi' : Nat → Nat → Int32), fr 98 103 hi hi' → fok hi' T n C → lm_wp (d + 16) 15 116 [.ref 65, .ref 103, .ref q, .int s, .int (nI k), .int (nI (awk s)), .int (ags T n kd a k s), .int c, x8, x9, x10, x11] [] (hi', hl, X) P) : ∀ (j m : Nat) (hi' : Nat → Nat → Int32) (ms : Int32) (mk : Int32) (x8 : Value) (x9 : Value) (x10 : Value) (x11 : Value), m + j = n + 1 → (ms = agl T (agf T n kd a k) s m) → (mk = aI m) → (isT hi' 65 T n) → (fok hi' T n C) → (fr 98 103 hi hi') → lm_wp (d + 16) 15 13 [.ref 65, .ref 103, .ref q, .int s, .int (nI k), .int (nI (awk s)), .int ms, .int mk, x8, x9, x10, x11] [] (hi', hl, X) P := by
  intro j
  induction j with
  | zero =>
    intro m hi' ms mk x8 x9 x10 x11 hm e1 e4 H FO F
    have hn10 := isTle H
    refine w_N 2 16 [.ref 65, .ref 103, .ref q, .int s, .int (nI k), .int (nI (awk s)), .int ms, .int mk, x8, x9, x10, x11] [.ref 65, .int mk] rfl ?_
    refine w_gi (v := nI n) rfl rfl rfl (T_kd (A_T65 S)) (isTn H) ?_
    refine w_icmp_ge_t (t := 116) rfl rfl (by rw [e4, aI_lt (by omega) (by omega)]; omega) ?_
    obtain rfl : m = n + 1 := by omega
    rw [e1, ← ags_eq]
    exact k' _ _ _ _ _ hi' F FO
  | succ j ih =>
    intro m hi' ms mk x8 x9 x10 x11 hm e1 e4 H FO F
    have hn10 := isTle H
    refine w_N 2 16 [.ref 65, .ref 103, .ref q, .int s, .int (nI k), .int (nI (awk s)), .int ms, .int mk, x8, x9, x10, x11] [.ref 65, .int mk] rfl ?_
    refine w_gi (v := nI n) rfl rfl rfl (T_kd (A_T65 S)) (isTn H) ?_
    refine w_icmp_ge_f (t := 116) rfl rfl (by rw [e4, aI_lt (by omega) (by omega)]; omega) ?_
    refine w_N 4 28 [.ref 65, .ref 103, .ref q, .int s, .int (nI k), .int (nI (awk s)), .int ms, .int mk, x8, x9, x10, x11] [.int s, .int (nI (awk s)), .int mk, .ref 65] rfl ?_
    refine w_cc (w_vst rfl rfl rfl (Nat.le_of_ble_eq_true rfl) (Nat.le_of_ble_eq_true rfl) (T_kd (A_T65 S))) (t_allowsE (d := d + 14) (A_T65 S) H e4 rfl (by omega)) ?_
    show lm_wp _ 15 31 [.ref 65, .ref 103, .ref q, .int s, .int (nI k), .int (nI (awk s)), .int ms, .int mk, x8, x9, x10, x11] [.int (bz (alw T m (awk s) s))] (hi', hl, X) _
    refine w_zeq (t := 110) rfl rfl (fun c1 => ?_) (fun c1 => ?_)
    · refine w_N 2 13 [.ref 65, .ref 103, .ref q, .int s, .int (nI k), .int (nI (awk s)), .int ms, .int (mk + 1), x8, x9, x10, x11] [] rfl ?_
      have eb : agl T (agf T n kd a k) s (m + 1) = agl T (agf T n kd a k) s m := if_neg (by rw [c1]; decide)
      exact ih (m + 1) _ _ _ _ _ _ _ (by omega) (by rw [e1, eb]) (by rw [e4, aI_succ]) H FO F
    · refine w_N 3 38 [.ref 65, .ref 103, .ref q, .int s, .int (nI k), .int (nI (awk s)), .int ms, .int mk, x8, x9, x10, x11] [.int s, .int mk, .ref 65] rfl ?_
      refine w_cc (w_vst rfl rfl rfl (Nat.le_of_ble_eq_true rfl) (Nat.le_of_ble_eq_true rfl) (T_kd (A_T65 S))) (t_afterE (d := d + 14) (A_T65 S) H e4 (by omega)) ?_
      show lm_wp _ 15 41 [.ref 65, .ref 103, .ref q, .int s, .int (nI k), .int (nI (awk s)), .int ms, .int mk, x8, x9, x10, x11] [.int (aft T m s)] (hi', hl, X) _
      refine w_N 4 48 [.ref 65, .ref 103, .ref q, .int s, .int (nI k), .int (nI (awk s)), .int ms, .int mk, .int (aft T m s), x9, x10, x11] [.int (aft T m s), .int (nI (awk s)), .ref 65] rfl ?_
      refine w_cc (w_vst rfl rfl rfl (Nat.le_of_ble_eq_true rfl) (Nat.le_of_ble_eq_true rfl) (T_kd (A_T65 S))) (t_valueTo (d := d + 14) (A_T65 S) H (awk_lt s)) ?_
      show lm_wp _ 15 51 [.ref 65, .ref 103, .ref q, .int s, .int (nI k), .int (nI (awk s)), .int ms, .int mk, .int (aft T m s), x9, x10, x11] [.int (val T (awk s) (aft T m s))] (hi', hl, X) _
      refine w_N 3 56 [.ref 65, .ref 103, .ref q, .int s, .int (nI k), .int (nI (awk s)), .int ms, .int mk, .int (aft T m s), .int (val T (awk s) (aft T m s)), x10, x11] [.int 2, .int (nI k)] rfl ?_
      refine w_icmp_le (t := 101) rfl rfl (fun c2 => ?_) (fun c2 => ?_)
      · refine w_N 6 13 [.ref 65, .ref 103, .ref q, .int s, .int (nI k), .int (nI (awk s)), .int (if ms < val T (awk s) (aft T m s) then val T (awk s) (aft T m s) else ms), .int (mk + 1), .int (aft T m s), .int (val T (awk s) (aft T m s)), x10, x11] [] rfl ?_
        have eb : agl T (agf T n kd a k) s (m + 1) = mx (agl T (agf T n kd a k) s m) (val T (awk s) (aft T m s) + agf T n kd a k (s_next (aft T m s))) := if_pos c1
        have hk3 : k < 3 := by
          rw [show (2 : Int32) = nI 2 from rfl, nI_lt_iff (by omega) (by omega)] at c2
          omega
        rw [show agf T n kd a k = fun _ => 0 from if_pos hk3, Int32.add_zero] at eb
        exact ih (m + 1) _ _ _ _ _ _ _ (by omega) (by rw [show agf T n kd a k = fun _ => 0 from if_pos hk3] at e1 ⊢; rw [eb, e1]; rfl) (by rw [e4, aI_succ]) H FO F
      · refine w_N 1 61 [.ref 65, .ref 103, .ref q, .int s, .int (nI k), .int (nI (awk s)), .int ms, .int mk, .int (aft T m s), .int (val T (awk s) (aft T m s)), x10, x11] [.int (aft T m s)] rfl ?_
        refine w_cc rfl c_X4_nextDay ?_
        show lm_wp _ 15 64 [.ref 65, .ref 103, .ref q, .int s, .int (nI k), .int (nI (awk s)), .int ms, .int mk, .int (aft T m s), .int (val T (awk s) (aft T m s)), x10, x11] [.int (s_next (aft T m s))] (hi', hl, X) _
        refine w_N 5 71 [.ref 65, .ref 103, .ref q, .int s, .int (nI k), .int (nI (awk s)), .int ms, .int mk, .int (aft T m s), .int (val T (awk s) (aft T m s)), .int (s_next (aft T m s)), x11] [.int (s_next (aft T m s)), .ref q, .ref 103, .ref 65] rfl ?_
        have hok := aft_ok hT (show m ≤ n by omega) c1
        have hk3 : 3 ≤ k := by
          rw [show (2 : Int32) = nI 2 from rfl, nI_lt_iff (by omega) (by omega)] at c2
          omega
        refine w_ca (w_vst rfl rfl rfl (Nat.le_of_ble_eq_true rfl) (Nat.le_of_ble_eq_true rfl) (A_k S 103 (by decide))) (lm_w_dep (d := d + 14) (by omega) (r_choose S H FO hT (okS_next (hok.1 hs)) Q (by rw [F q (by omega)]; exact q1) (by rw [F q (by omega)]; exact q3) h1 h6 ha)) ?_
        rintro _ _ ⟨hi1, rfl, rfl, F1, FO1⟩
        show lm_wp _ 15 74 [.ref 65, .ref 103, .ref q, .int s, .int (nI k), .int (nI (awk s)), .int ms, .int mk, .int (aft T m s), .int (val T (awk s) (aft T m s)), .int (s_next (aft T m s)), x11] [.int (aI (chs T n kd a (s_next (aft T m s)))), .ref 65] (hi1, hl, X) _
        refine w_N 1 76 [.ref 65, .ref 103, .ref q, .int s, .int (nI k), .int (nI (awk s)), .int ms, .int mk, .int (aft T m s), .int (val T (awk s) (aft T m s)), .int (s_next (aft T m s)), x11] [.int (s_next (aft T m s)), .int (aI (chs T n kd a (s_next (aft T m s)))), .ref 65] rfl ?_
        have hch := chs_ok T n kd a (s_next (aft T m s)) hn10
        have hok2 := aft_ok hT hch.1 hch.2
        have H1 := isT_fr F1 (by omega) H
        refine w_cc (w_vst rfl rfl rfl (Nat.le_of_ble_eq_true rfl) (Nat.le_of_ble_eq_true rfl) (T_kd (A_T65 S))) (t_after (d := d + 14) (A_T65 S) H1 (by omega)) ?_
        show lm_wp _ 15 79 [.ref 65, .ref 103, .ref q, .int s, .int (nI k), .int (nI (awk s)), .int ms, .int mk, .int (aft T m s), .int (val T (awk s) (aft T m s)), .int (s_next (aft T m s)), x11] [.int (aft T (chs T n kd a (s_next (aft T m s))) (s_next (aft T m s)))] (hi1, hl, X) _
        refine w_cc rfl c_X4_nextDay ?_
        show lm_wp _ 15 82 [.ref 65, .ref 103, .ref q, .int s, .int (nI k), .int (nI (awk s)), .int ms, .int mk, .int (aft T m s), .int (val T (awk s) (aft T m s)), .int (s_next (aft T m s)), x11] [.int (s_next (aft T (chs T n kd a (s_next (aft T m s))) (s_next (aft T m s))))] (hi1, hl, X) _
        refine w_N 9 95 [.ref 65, .ref 103, .ref q, .int s, .int (nI k), .int (nI (awk s)), .int ms, .int mk, .int (aft T m s), .int (val T (awk s) (aft T m s)), .int (s_next (aft T m s)), .int (s_next (aft T (chs T n kd a (s_next (aft T m s))) (s_next (aft T m s))))] [.int ((nI k) - 2), .int (s_next (aft T (chs T n kd a (s_next (aft T m s))) (s_next (aft T m s)))), .ref q, .ref 103, .ref 65, .int (val T (awk s) (aft T m s))] rfl ?_
        refine w_ca rfl (hB hk3 _ _ _ _ _ _ _ _ _ _ _ S H1 FO1 hT (okS_next (hok2.1 (okS_next (hok.1 hs)))) Q (by rw [F1 q (by omega), F q (by omega)]; exact q1) (by rw [F1 q (by omega), F q (by omega)]; exact q3) h1 h6 ha hq (show nI k - 2 = nI (k - 2) from by rw [show (2 : Int32) = nI 2 from rfl, nI_sub (by omega)])) ?_
        rintro _ _ ⟨hi2, rfl, rfl, F2, FO2⟩
        show lm_wp _ 15 98 [.ref 65, .ref 103, .ref q, .int s, .int (nI k), .int (nI (awk s)), .int ms, .int mk, .int (aft T m s), .int (val T (awk s) (aft T m s)), .int (s_next (aft T m s)), .int (s_next (aft T (chs T n kd a (s_next (aft T m s))) (s_next (aft T m s))))] [.int (ags T n kd a (k - 2) (oth T n kd a (s_next (aft T m s)))), .int (val T (awk s) (aft T m s))] (hi2, hl, X) _
        refine w_N 8 13 [.ref 65, .ref 103, .ref q, .int s, .int (nI k), .int (nI (awk s)), .int (if ms < (val T (awk s) (aft T m s)) + (ags T n kd a (k - 2) (oth T n kd a (s_next (aft T m s)))) then (val T (awk s) (aft T m s)) + (ags T n kd a (k - 2) (oth T n kd a (s_next (aft T m s)))) else ms), .int (mk + 1), .int (aft T m s), .int ((val T (awk s) (aft T m s)) + (ags T n kd a (k - 2) (oth T n kd a (s_next (aft T m s))))), .int (s_next (aft T m s)), .int (s_next (aft T (chs T n kd a (s_next (aft T m s))) (s_next (aft T m s))))] [] rfl ?_
        have eb : agl T (agf T n kd a k) s (m + 1) = mx (agl T (agf T n kd a k) s m) (val T (awk s) (aft T m s) + agf T n kd a k (s_next (aft T m s))) := if_pos c1
        rw [show agf T n kd a k = fun t => ags T n kd a (k - 2) (oth T n kd a t) from if_neg (by omega)] at eb
        exact ih (m + 1) _ _ _ _ _ _ _ (by omega) (by rw [show agf T n kd a k = fun t => ags T n kd a (k - 2) (oth T n kd a t) from if_neg (by omega)] at e1 ⊢; rw [eb, e1]; rfl) (by rw [e4, aI_succ]) (isT_fr F2 (by omega) H1) FO2 (fr_trans F (fr_trans F1 F2))
theorem AB_of {d k : Nat} (hk : k < 1000) (hB : 3 ≤ k → AB (d + 15) (k - 2)) : AB (d + 16) k := by
  intro hi hl X n C kd a q T s x S H FO hT hs Q q1 q3 h1 h6 ha hq hx
  subst hx
  refine lm_w_in (Nat.le_of_ble_eq_true rfl) ?_
  show lm_wp (d + 16) 15 0 [.ref 65, .ref 103, .ref q, .int s, .int (nI k), lm_jk, lm_jk, lm_jk, lm_jk, lm_jk, lm_jk, lm_jk] [] (hi, hl, X) _
  refine w_N 1 1 [.ref 65, .ref 103, .ref q, .int s, .int (nI k), lm_jk, lm_jk, lm_jk, lm_jk, lm_jk, lm_jk, lm_jk] [.int s] rfl ?_
  refine w_cc rfl (c_awkz rfl) ?_
  show lm_wp _ 15 4 [.ref 65, .ref 103, .ref q, .int s, .int (nI k), lm_jk, lm_jk, lm_jk, lm_jk, lm_jk, lm_jk, lm_jk] [.int (nI (awk s))] (hi, hl, X) _
  refine w_N 5 13 [.ref 65, .ref 103, .ref q, .int s, .int (nI k), .int (nI (awk s)), .int (-2000000000), .int (-1), lm_jk, lm_jk, lm_jk, lm_jk] [] rfl ?_
  refine q_ma1 (k := k) S hT hs Q h1 h6 ha hq hk hB q1 q3 (fun c x8 x9 x10 x11 hi1 F1 FO1 => ?_) (n + 1) 0 hi _ _ _ _ _ _ (by omega) rfl rfl H FO fr_rfl
  refine w_N 1 118 _ [.int (ags T n kd a k s)] rfl ?_
  refine w_ri rfl rfl ?_
  exact ⟨hi1, rfl, rfl, F1, FO1⟩
theorem AB_all : ∀ k d, k < 5 → AB (d + 17) k := by
  have h2 : ∀ k d, k < 3 → AB (d + 16) k := fun k d h => AB_of (by omega) (fun z => absurd z (by omega))
  intro k d h
  exact AB_of (d := d + 1) (by omega) (fun z => h2 (k - 2) d (by omega))
theorem q_mostAgainst {d : Nat} {hi : Nat → Nat → Int32} {hl : Nat → Nat → Int64} {X : lm_X} (S : sh_A X) {n C kd a q k : Nat} {T : lm_T} {s : Int32} (H : isT hi 65 T n) (FO : fok hi T n C) (hT : okT T n) (hs : okS s) (Q : sh_Sf X q) (q1 : hi q 1 = nI (10 + kd)) (q3 : hi q 3 = nI a) (h1 : 1 ≤ kd) (h6 : kd ≤ 6) (ha : a ≤ 99) (hq : 103 ≤ q) (h4 : k ≤ 4) : lm_w (d + 17) 15 [.ref 65, .ref 103, .ref q, .int s, .int (nI k)] (hi, hl, X) (fun v h1 => ∃ hi', v = some (.int (ags T n kd a k s)) ∧ h1 = (hi', hl, X) ∧ fr 98 103 hi hi' ∧ fok hi' T n C) :=
  AB_all k d (by omega) _ _ _ _ _ _ _ _ _ _ _ S H FO hT hs Q q1 q3 h1 h6 ha hq rfl
