def lm_sts : List (String × Nat × String × List Int32) := [("AwakeByHalves$Tape", 49, "act", [97, 99, 116]), ("AwakeByHalves$Tape", 103, "need", [110, 101, 101, 100]), ("AwakeByHalves$Tape", 109, "bar", [98, 97, 114]), ("AwakeByHalves$Tape", 58, "mark", [109, 97, 114, 107]), ("AwakeByHalves$Tape", 63, "count", [99, 111, 117, 110, 116]), ("AwakeByHalves$Tape", 68, "likes", [108, 105, 107, 101, 115]), ("AwakeByHalves$Tape", 74, "hates", [104, 97, 116, 101, 115]), ("AwakeByHalves$Tape", 76, "counts", [99, 111, 117, 110, 116, 115]), ("AwakeByHalves$Tape", 81, "costs", [99, 111, 115, 116, 115]), ("AwakeByHalves$Tape", 83, "hides", [104, 105, 100, 101, 115]), ("AwakeByHalves$Tape", 88, "locks", [108, 111, 99, 107, 115]), ("AwakeByHalvesModel", 193, "act", [97, 99, 116]), ("AwakeByHalvesModel", 201, "need", [110, 101, 101, 100]), ("AwakeByHalvesModel", 203, "bar", [98, 97, 114]), ("AwakeByHalvesModel", 208, "mark", [109, 97, 114, 107]), ("AwakeByHalvesModel", 210, "count", [99, 111, 117, 110, 116]), ("AwakeByHalvesModel", 212, "likes", [108, 105, 107, 101, 115]), ("AwakeByHalvesModel", 218, "hates", [104, 97, 116, 101, 115]), ("AwakeByHalvesModel", 220, "counts", [99, 111, 117, 110, 116, 115]), ("AwakeByHalvesModel", 221, "costs", [99, 111, 115, 116, 115]), ("AwakeByHalvesModel", 223, "hides", [104, 105, 100, 101, 115]), ("AwakeByHalvesModel", 225, "locks", [108, 111, 99, 107, 115])]
def lm_so (i : Nat) : String × Nat × String × List Int32 := lm_sts.getD i ("", 0, "", [])
def lm_ra : List Int32 := [-1, 0, 1, 0, 2, 1, 0]
/-- LM's heap at the law's entry: the script of L ints, the texts, RULE_ABOVE -/
def lm_h0 (L : Nat) (xs : Nat → Int32) : lm_H :=
  (fun a j => if a = 0 then xs j else if 31 ≤ a ∧ a < 53 then (lm_so (a - 31)).2.2.2.getD j 0 else if a = 60 then lm_ra.getD j 0 else 0,
   fun _ _ => 0,
   fun a j => if 1 ≤ a ∧ a < 23 ∧ j = 0 then some (a + 30) else none,
   fun a => if a = 0 then 1 else if 1 ≤ a ∧ a < 23 then 40 else if 31 ≤ a ∧ a < 53 then 8 else if a = 60 then 1 else 0,
   fun a => if a = 0 then L else if 31 ≤ a ∧ a < 53 then (lm_so (a - 31)).2.2.2.length else if a = 60 then 7 else 0,
   64, 0, 0)
theorem lm_ts_any {w : Jvm.Cond} (hg : lm_gw w = true) {s : State} {A : Array Value} (h : w.before A s = true) (a : Array Value) : w.before a s = true := by
  have key : goodWord w = true → w.before a s = true := fun hq => word_at (State.WarmedH.refl s) (good_of_word hq) h
  cases w <;> first
    | exact va_Nw.use rfl (va_Nw.of rfl h)
    | exact key hg
theorem lm_arrOf {s : State} {ty : FieldType} {A : Array Value} (h : (Cond.arrayClass ty).before A s = true) : ∃ c : ClassId, ArrOfT s c ty ∧ s.vm.findClass ("[" ++ ty.toString) = some c := by
  obtain ⟨c, k, comp, h1, h2, h3⟩ := Cond.arrayClass_spec h
  exact ⟨c, fun n z => ⟨fun q hq => (by cases hq), k, h2, comp, h3⟩, h1⟩
theorem lm_str1 {args : Array Value} {s : State} {tm : Term} {n : Nat} {byt : List Int32} {A : Nat → Prop} (hN : n < 2 ^ 31) (hex : (Cond.exactly tm "java/lang/String").before args s = true) (hco : (Cond.eq (.field tm "java/lang/String" "coder" "B") (.int 0)).before args s = true)
    (har : (Cond.arrayOf (.field tm "java/lang/String" "value" "[B") .byte).before args s = true) (hle : (Cond.eq (.length (.field tm "java/lang/String" "value" "[B")) (.int (Int32.ofNat n))).before args s = true)
    (hel : ∀ j : Nat, j < n → (Cond.eq (.elem (.field tm "java/lang/String" "value" "[B") (.int (Int32.ofNat j))) (.int (byt.getD j 0))).before args s = true) (hA : ∀ a : Nat, a < s.heap.size → ¬ A a) :
    ∃ q : Nat × Nat, tm.eval args s none [] s = some (.ref q.1) ∧ va_O "java/lang/String" q.1 A s s.heap ∧ va_OF "java/lang/String" "coder" "B" (.int 0) q.1 A s s.heap ∧ va_OF "java/lang/String" "value" "[B" (.ref q.2) q.1 A s s.heap ∧ va_T .byte q.2 n (fun j => .int (byt.getD j 0)) A s s.heap := by
  obtain ⟨a, c, cA, kA, q1, q2, q3, q4, q5, q6, -⟩ := Cond.exactly_spec (args := args) (first := s) (o := none) (s := s) (idx := []) (t := tm) (cls := "java/lang/String") hex
  obtain ⟨t, ht, hT⟩ := va_Tof (f := fun j => .int (byt.getD j 0)) (A := A) hN har (va_eqt hle) (fun j hj => va_eqt (hel j hj)) hA
  exact ⟨(a, t), q1, ⟨cA, q3, q5, by rw [q6]; exact q2, hA a (Array.getElem?_eq_some_iff.mp q3).1⟩, vk_OFof q1 (va_eqt hco) hA, vk_OFof q1 ht hA, hT⟩
def lm_nar : Jvm.Cond := Jvm.Cond.and given_1 narrow_1
def lm_tm (i : Nat) : Term := .string (lm_so i).1 (lm_so i).2.1
set_option maxRecDepth 100000 in
theorem lm_sw1 : ∀ i, i < 22 → Cond.exactly (lm_tm i) "java/lang/String" ∈ flatC lm_nar := by decide +kernel
set_option maxRecDepth 100000 in
theorem lm_sw2 : ∀ i, i < 22 → Cond.eq (.field (lm_tm i) "java/lang/String" "coder" "B") (.int 0) ∈ flatC lm_nar := by decide +kernel
set_option maxRecDepth 100000 in
theorem lm_sw3 : ∀ i, i < 22 → Cond.arrayOf (.field (lm_tm i) "java/lang/String" "value" "[B") .byte ∈ flatC lm_nar := by decide +kernel
set_option maxRecDepth 100000 in
theorem lm_sw4 : ∀ i, i < 22 → Cond.eq (.length (.field (lm_tm i) "java/lang/String" "value" "[B")) (.int (Int32.ofNat (lm_so i).2.2.2.length)) ∈ flatC lm_nar := by decide +kernel
set_option maxRecDepth 100000 in
theorem lm_sw5 : ∀ i, i < 22 → ∀ j, j < (lm_so i).2.2.2.length → Cond.eq (.elem (.field (lm_tm i) "java/lang/String" "value" "[B") (.int (Int32.ofNat j))) (.int ((lm_so i).2.2.2.getD j 0)) ∈ flatC lm_nar := by decide +kernel
set_option maxRecDepth 100000 in
theorem lm_sw6 : ∀ i, i < 22 → Cond.stringRef (lm_so i).1 (lm_so i).2.1 (lm_so i).2.2.1 ∈ lw_tbl ∧ (lm_so i).2.2.2.length < 2 ^ 31 := by decide +kernel
set_option maxRecDepth 100000 in
theorem lm_ra1 : Cond.arrayOf (.static "AwakeByHalves" "RULE_ABOVE" "[I") .int ∈ flatC lm_nar ∧ Cond.eq (.length (.static "AwakeByHalves" "RULE_ABOVE" "[I")) (.int 7) ∈ flatC lm_nar ∧ (∀ j, j < 7 → Cond.eq (.elem (.static "AwakeByHalves" "RULE_ABOVE" "[I") (.int (Int32.ofNat j))) (.int (lm_ra.getD j 0)) ∈ flatC lm_nar) ∧ Cond.eq (.static "java/lang/String" "COMPACT_STRINGS" "Z") (.int 1) ∈ flatC lm_nar ∧ Cond.isRef (.static "jdk/internal/util/Preconditions" "SIOOBE_FORMATTER" "Ljava/util/function/BiFunction;") ∈ flatC lm_nar := by decide +kernel
set_option maxRecDepth 100000 in
theorem lm_ra2 : Cond.laysStatic "AwakeByHalves" "RULE_ABOVE" "[I" ∈ lw_tbl ∧ Cond.laysStatic "java/lang/String" "COMPACT_STRINGS" "Z" ∈ lw_tbl ∧ Cond.laysStatic "jdk/internal/util/Preconditions" "SIOOBE_FORMATTER" "Ljava/util/function/BiFunction;" ∈ lw_tbl ∧ Cond.initialized "AwakeByHalves" ∈ lw_tbl ∧ Cond.initialized "java/lang/String" ∈ lw_tbl ∧ Cond.initialized "jdk/internal/util/Preconditions" ∈ lw_tbl ∧ Cond.arrayOver (.object "AwakeByHalves$Shelf") ∈ lw_tbl ∧ Cond.arrayOver (.array .int) ∈ lw_tbl ∧ Cond.arrayOver (.array .long) ∈ lw_tbl := by decide +kernel
/-- which text an entry of kV is -/
def lm_kvc (c : Nat) (q : Nat × Value × Nat) : Bool := match q.2.1 with
  | .ref k => decide (1 ≤ k ∧ k < 23) && decide ((lm_so (k - 1)).1 = lm_own c ∧ (lm_so (k - 1)).2.1 = q.1)
  | _ => true
set_option maxRecDepth 100000 in
theorem lm_kvc_0 : ∀ q ∈ lm_kV_0, lm_kvc 0 q = true := by decide +kernel
set_option maxRecDepth 100000 in
theorem lm_kvc_1 : ∀ q ∈ lm_kV_1, lm_kvc 1 q = true := by decide +kernel
set_option maxRecDepth 100000 in
theorem lm_kvc_2 : ∀ q ∈ lm_kV_2, lm_kvc 2 q = true := by decide +kernel
set_option maxRecDepth 100000 in
theorem lm_kvc_3 : ∀ q ∈ lm_kV_3, lm_kvc 3 q = true := by decide +kernel
set_option maxRecDepth 100000 in
theorem lm_kvc_4 : ∀ q ∈ lm_kV_4, lm_kvc 4 q = true := by decide +kernel
set_option maxRecDepth 100000 in
theorem lm_kvc_5 : ∀ q ∈ lm_kV_5, lm_kvc 5 q = true := by decide +kernel
set_option maxRecDepth 100000 in
theorem lm_kvc_6 : ∀ q ∈ lm_kV_6, lm_kvc 6 q = true := by decide +kernel
set_option maxRecDepth 100000 in
theorem lm_kvc_7 : ∀ q ∈ lm_kV_7, lm_kvc 7 q = true := by decide +kernel
set_option maxRecDepth 100000 in
theorem lm_kvc_8 : ∀ q ∈ lm_kV_8, lm_kvc 8 q = true := by decide +kernel
set_option maxRecDepth 100000 in
theorem lm_kvc_9 : ∀ q ∈ lm_kV_9, lm_kvc 9 q = true := by decide +kernel
set_option maxRecDepth 100000 in
theorem lm_kvc_10 : ∀ q ∈ lm_kV_10, lm_kvc 10 q = true := by decide +kernel
set_option maxRecDepth 100000 in
theorem lm_kvc_11 : ∀ q ∈ lm_kV_11, lm_kvc 11 q = true := by decide +kernel
set_option maxRecDepth 100000 in
theorem lm_kvc_12 : ∀ q ∈ lm_kV_12, lm_kvc 12 q = true := by decide +kernel
set_option maxRecDepth 100000 in
theorem lm_kvc_13 : ∀ q ∈ lm_kV_13, lm_kvc 13 q = true := by decide +kernel
set_option maxRecDepth 100000 in
theorem lm_kvc_14 : ∀ q ∈ lm_kV_14, lm_kvc 14 q = true := by decide +kernel
theorem lm_kvc_all (c : Nat) : ∀ q ∈ lm_kV c, lm_kvc c q = true := by
  unfold lm_kV
  match c with
  | 0 => exact lm_kvc_0
  | 1 => exact lm_kvc_1
  | 2 => exact lm_kvc_2
  | 3 => exact lm_kvc_3
  | 4 => exact lm_kvc_4
  | 5 => exact lm_kvc_5
  | 6 => exact lm_kvc_6
  | 7 => exact lm_kvc_7
  | 8 => exact lm_kvc_8
  | 9 => exact lm_kvc_9
  | 10 => exact lm_kvc_10
  | 11 => exact lm_kvc_11
  | 12 => exact lm_kvc_12
  | 13 => exact lm_kvc_13
  | 14 => exact lm_kvc_14
  | n + 15 => exact fun q h => absurd h (by simp)
theorem lm_kvc_nat {c : Nat} {q : Nat × Value × Nat} {k : Nat} (hkc : lm_kvc c q = true) (hk : q.2.1 = .ref k) : 1 ≤ k ∧ k < 23 ∧ k < 64 ∧ k - 1 < 22 ∧ ¬ k = 0 ∧ (lm_so (k - 1)).1 = lm_own c ∧ (lm_so (k - 1)).2.1 = q.1 := by
  unfold lm_kvc at hkc
  rw [hk] at hkc
  have h9 : (decide (1 ≤ k ∧ k < 23) && decide ((lm_so (k - 1)).1 = lm_own c ∧ (lm_so (k - 1)).2.1 = q.1)) = true := hkc
  rw [Bool.and_eq_true] at h9
  have h1 := of_decide_eq_true h9.1
  have h2 := of_decide_eq_true h9.2
  exact ⟨h1.1, h1.2, by omega, by omega, by omega, h2.1, h2.2⟩
set_option maxRecDepth 100000 in
theorem lm_law_lt : 0 < lm_mt.length := by decide +kernel
def lm_r0 (b t : Nat) (ad : Nat → Nat × Nat) : Nat → Nat := fun a => if a = 0 then b else if 1 ≤ a ∧ a < 23 then (ad (a - 1)).1 else if 31 ≤ a ∧ a < 53 then (ad (a - 31)).2 else t
/-- THE LAW'S START, out of LM's run of it -/
theorem lm_start (hrun : ∀ (L : Nat) (xs : Nat → Int32), L ≤ 3584 → ∃ (n : Nat) (h1 : lm_H), lm_ex n 60 0 0 [.ref 0, lm_jk, lm_jk, lm_jk] [] (lm_h0 L xs) = some (some (.int 1), h1) ∧ lm_nc h1 ≤ 600000 ∧ lm_ns h1 ≤ 7302250)
    {p : Program} {e : Env} {s : State} {m : MethodId} {below : List Frame} {meth : Method} {c : Code} (l : Launch) {b L : Nat} {xs : Nat → Int32} (hL : L ≤ 3584) (C0 : lw_At p s m meth c b L xs) :
    W p l e room_1 s m #[Value.ref b] below meth c s.heap [] 0 0 (lw_Z below #[Value.ref b] s) (entryFrame m ([Value.ref b] : List Value).toArray 4) := by
  obtain ⟨hx, hb, hr, hml, hown, hts, hX, hbl, hlocks, hgv⟩ := id C0
  obtain ⟨n, h1, hex, hnc, hns⟩ := hrun L xs hL
  have hflat := flat_of_before lm_nar hgv
  have hA : ∀ a : Nat, a < s.heap.size → ¬ (fun q : Nat => s.heap.size ≤ q) a := fun a ha => Nat.not_le.mpr ha
  obtain ⟨k1, k2, k3, k4, k5⟩ := lm_ra1
  obtain ⟨j1, j2, j3, j4, j5, j6, j7, j8, j9⟩ := lm_ra2
  -- classes
  have hkn : ∀ ci, ci < 8 → ∃ (cC : ClassId) (iS : Nat → Nat), u_Kn s (lm_cl ci).1 (lm_cl ci).2.1 (lm_cl ci).2.2 cC iS := fun ci hci =>
    u_known (n := (lm_cl ci).2.2) hts (fun w hw => (List.mem_filter.mp (lm_us_all hci w hw)).1) (hts _ (lm_new_words ci hci).1)
  have hkn2 : ∀ ci, ∃ q : ClassId × (Nat → Nat), ci < 8 → u_Kn s (lm_cl ci).1 (lm_cl ci).2.1 (lm_cl ci).2.2 q.1 q.2 := fun ci => by
    by_cases hci : ci < 8
    · obtain ⟨cC, iS, hq⟩ := hkn ci hci
      exact ⟨(cC, iS), fun _ => hq⟩
    · exact ⟨(0, fun _ => 0), fun z => absurd z hci⟩
  obtain ⟨dd, hdd⟩ := Classical.axiomOfChoice hkn2
  obtain ⟨y1, a1, f1⟩ := lm_arrOf (hts _ lm_arr_words.1)
  obtain ⟨y2, a2, f2⟩ := lm_arrOf (hts _ lm_arr_words.2)
  obtain ⟨p4, y4, q4, s1, -, s3, s4, s5⟩ := Cond.arrayOver_spec (hts _ j7)
  obtain ⟨p5, y5, q5, t1, -, t3, t4, t5⟩ := Jvm.Stand.arrayOver_specB (hts _ j8)
  obtain ⟨p6, y6, q6, u1, -, u3, u4, u5⟩ := Jvm.Stand.arrayOver_specB (hts _ j9)
  generalize hcy : (fun k : Nat => if k = 1 then y1 else if k = 2 then y2 else if k = 4 then y4 else if k = 5 then y5 else y6) = cy
  have hK : va_K (fun ci => (dd ci).1, fun ci => (dd ci).2) vwCl (lm_tys cy) s := by
    refine ⟨fun ci q hq => ?_, fun k q hq => ?_⟩
    · have hci : ci < 8 := (List.getElem?_eq_some_iff.mp hq).1
      have := hdd ci hci
      rw [lm_cl_get hci] at hq
      cases hq
      exact this
    · subst hcy
      match k, hq with
      | 0, hq => cases hq; exact ⟨a1, f1⟩
      | 1, hq => cases hq; exact ⟨a2, f2⟩
      | 2, hq => cases hq; exact ⟨fun N z => ⟨(fun k h => by cases h), q4, s3, p4, s4⟩, q4, p4, s3, s4, s1, s5⟩
      | 3, hq => cases hq; exact ⟨fun N z => ⟨(fun k h => by cases h), q5, t3, p5, t4⟩, t5⟩
      | 4, hq => cases hq; exact ⟨fun N z => ⟨(fun k h => by cases h), q6, u3, p6, u4⟩, u5⟩
      | k + 5, hq => simp [lm_tys] at hq
  have V : lm_V (fun ci => (dd ci).1, fun ci => (dd ci).2) cy s :=
    ⟨fun w hw a => lm_ts_any (List.mem_filter.mp hw).2 (hts w (List.mem_filter.mp hw).1) a, hK, hts _ j7, hts _ j8, hts _ j9⟩
  -- old cells
  obtain ⟨t, ht, hT⟩ := va_Tof (N := 7) (f := fun j => .int (lm_ra.getD j 0)) (A := fun q : Nat => s.heap.size ≤ q) (by decide) (hflat _ k1) (va_eqt (hflat _ k2)) (fun j hj => va_eqt (hflat _ (k3 j hj))) hA
  have hstr : ∀ i : Nat, ∃ q : Nat × Nat, i < 22 → (lm_tm i).eval #[Value.ref b] s none [] s = some (.ref q.1) ∧ va_O "java/lang/String" q.1 (fun q : Nat => s.heap.size ≤ q) s s.heap ∧ va_OF "java/lang/String" "coder" "B" (.int 0) q.1 (fun q : Nat => s.heap.size ≤ q) s s.heap ∧ va_OF "java/lang/String" "value" "[B" (.ref q.2) q.1 (fun q : Nat => s.heap.size ≤ q) s s.heap ∧ va_T .byte q.2 (lm_so i).2.2.2.length (fun j => .int ((lm_so i).2.2.2.getD j 0)) (fun q : Nat => s.heap.size ≤ q) s s.heap := fun i => by
    by_cases hi : i < 22
    · obtain ⟨q, hq⟩ := lm_str1 (lm_sw6 i hi).2 (hflat _ (lm_sw1 i hi)) (hflat _ (lm_sw2 i hi)) (hflat _ (lm_sw3 i hi)) (hflat _ (lm_sw4 i hi)) (fun j hj => hflat _ (lm_sw5 i hi j hj)) hA
      exact ⟨q, fun _ => hq⟩
    · exact ⟨(0, 0), fun z => absurd z hi⟩
  obtain ⟨ad, had⟩ := Classical.axiomOfChoice hstr
  have r0 : lm_r0 b t ad 0 = b := if_pos rfl
  have rK : ∀ a, 1 ≤ a → a < 23 → lm_r0 b t ad a = (ad (a - 1)).1 := fun a ha hb0 => by
    unfold lm_r0
    rw [if_neg (by omega), if_pos ⟨ha, hb0⟩]
  have rV : ∀ a, 31 ≤ a → a < 53 → lm_r0 b t ad a = (ad (a - 31)).2 := fun a ha hb0 => by
    unfold lm_r0
    rw [if_neg (by omega), if_neg (by omega), if_pos ⟨ha, hb0⟩]
  have rR : lm_r0 b t ad 60 = t := by
    unfold lm_r0
    rw [if_neg (by omega), if_neg (by omega), if_neg (by omega)]
  have hkd : ∀ a, lm_kd (lm_h0 L xs) a = if a = 0 then 1 else if 1 ≤ a ∧ a < 23 then 40 else if 31 ≤ a ∧ a < 53 then 8 else if a = 60 then 1 else 0 := fun a => rfl
  have hHV : lm_HV (lm_h0 L xs) := by
    refine ⟨fun a j d ha hd => ?_, fun a ha h0 => ?_, fun a ha => ?_⟩
    · have hd' : (if 1 ≤ a ∧ a < 23 ∧ j = 0 then some (a + 30) else none) = some d := hd
      split at hd'
      · rename_i hc
        cases hd'
        rw [hkd, if_neg (by omega), if_neg (by omega), if_pos (by omega)]
        decide
      · cases hd'
    · rw [hkd, if_neg (by omega), if_neg (by omega), if_neg (by omega), if_neg (by omega)] at h0
      exact absurd rfl h0
    · rw [hkd]
      repeat' split
      all_goals simp
  have hO : lm_Old s.heap.size (lm_r0 b t ad) (lm_h0 L xs) s s.heap := by
    refine ⟨fun a ha hk => ?_, fun a ha hk => ?_, fun a ha hk => ?_, va_Zof (hts _ j2) (hts _ j5) (va_eqi (hflat _ k4)) hA, ⟨rfl, ?_⟩, va_Zqof (hts _ j3) (hts _ j6) (hflat _ k5) hA, fun c0 q hm k hk => ?_⟩
    · rw [hkd] at hk
      by_cases h0 : a = 0
      · subst h0
        rw [r0]
        obtain ⟨scr, x1, x2, x3, x4, x5⟩ := hX
        exact ⟨scr, x1, x2, x3, by rw [x4]; exact Nat.le_refl _, by rw [x4]; rfl, fun j hj => x5 j hj, hA b hbl⟩
      · rw [if_neg h0] at hk
        by_cases h60 : a = 60
        · subst h60
          rw [rR]
          exact hT
        · exfalso
          revert hk
          repeat' split
          all_goals first | (intro z; exact absurd z (by decide)) | (intro _; omega)
    · rw [hkd] at hk
      have hr : 31 ≤ a ∧ a < 53 := by
        by_cases h0 : a = 0
        · rw [if_pos h0] at hk; exact absurd hk (by decide)
        · rw [if_neg h0] at hk
          by_cases h2 : 1 ≤ a ∧ a < 23
          · rw [if_pos h2] at hk; exact absurd hk (by decide)
          · rw [if_neg h2] at hk
            by_cases h3 : 31 ≤ a ∧ a < 53
            · exact h3
            · rw [if_neg h3] at hk
              split at hk <;> exact absurd hk (by decide)
      have hln : lm_ln (lm_h0 L xs) a = (lm_so (a - 31)).2.2.2.length := by
        show (if a = 0 then L else if 31 ≤ a ∧ a < 53 then (lm_so (a - 31)).2.2.2.length else if a = 60 then 7 else 0) = _
        rw [if_neg (by omega), if_pos hr]
      have hhi : ∀ j, (lm_h0 L xs).1 a j = (lm_so (a - 31)).2.2.2.getD j 0 := fun j => by
        show (if a = 0 then xs j else if 31 ≤ a ∧ a < 53 then (lm_so (a - 31)).2.2.2.getD j 0 else if a = 60 then lm_ra.getD j 0 else 0) = _
        rw [if_neg (by omega), if_pos hr]
      rw [rV a hr.1 hr.2, hln]
      simp only [hhi]
      exact (had (a - 31) (by omega)).2.2.2.2
    · rw [hkd] at hk
      have hr : 1 ≤ a ∧ a < 23 := by
        by_cases h0 : a = 0
        · rw [if_pos h0] at hk; exact absurd hk (by decide)
        · rw [if_neg h0] at hk
          by_cases h2 : 1 ≤ a ∧ a < 23
          · exact h2
          · rw [if_neg h2] at hk
            repeat' split at hk
            all_goals exact absurd hk (by decide)
      obtain ⟨-, g1, g2, g3, -⟩ := had (a - 1) (by omega)
      rw [rK a hr.1 hr.2]
      have e0 : lm_vm (lm_r0 b t ad) (lm_fv (lm_h0 L xs) 30 a 0) = .ref (ad (a - 1)).2 := by
        show lm_vm (lm_r0 b t ad) (va_rf (if 1 ≤ a ∧ a < 23 ∧ 0 = 0 then some (a + 30) else none)) = _
        rw [if_pos ⟨hr.1, hr.2, rfl⟩]
        show Value.ref (lm_r0 b t ad (a + 30)) = _
        rw [rV (a + 30) (by omega) (by omega), show a + 30 - 31 = a - 1 by omega]
      have e1 : lm_vm (lm_r0 b t ad) (lm_fv (lm_h0 L xs) 30 a 1) = .int 0 := by
        show Value.int (if a = 0 then xs 1 else if 31 ≤ a ∧ a < 53 then (lm_so (a - 31)).2.2.2.getD 1 0 else if a = 60 then lm_ra.getD 1 0 else 0) = _
        rw [if_neg (by omega), if_neg (by omega), if_neg (by omega)]
      rw [e0, e1]
      exact ⟨g1, g3, g2⟩
    · rw [rR]
      exact va_Zof (hts _ j1) (hts _ j4) ht hA
    · obtain ⟨i1, i2, i5, i6, i7, i3, i4⟩ := lm_kvc_nat (lm_kvc_all c0 q hm) hk
      refine ⟨⟨i5, ?_⟩, (lm_so (k - 1)).2.2.1, ?_⟩
      · rw [hkd, if_neg i7, if_pos ⟨i1, i2⟩]
      · rw [rK k i1 i2, ← i3, ← i4]
        exact vk_R.of (hts _ (lm_sw6 (k - 1) i6).1) (had (k - 1) i6).1
  -- the run
  have hG : lm_G (fun ci => (dd ci).1, fun ci => (dd ci).2) cy s.heap.size s (lm_r0 b t ad) [.ref 0, lm_jk, lm_jk, lm_jk] [] (lm_h0 L xs) s.heap [] ((lg_sl ([Value.ref b]) ++ List.replicate (4 - (lg_sl ([Value.ref b])).length) Slot.unset).toArray) := by
    refine ⟨⟨[], List.nodup_nil, fun a => ?_, fun k q hq => by simp at hq, ⟨fun i j x y hi => by simp at hi, fun k q hq => by simp at hq⟩⟩, hHV, hO, va_S.rf, ?_, fun v hv => ?_, fun v hv => by cases hv⟩
    · constructor
      · intro z; cases z
      · intro z
        exfalso
        apply z.2
        rw [hkd, if_neg (by omega), if_neg (by omega), if_neg (by omega), if_neg (by omega)]
    · have := lm_L_ini (lm_r0 b t ad) (n := 4) (as := [.ref 0]) (by decide)
      simp only [List.map_cons, List.map_nil, show lm_vm (lm_r0 b t ad) (.ref 0) = .ref b from congrArg Value.ref r0] at this
      exact this
    · simp only [List.mem_cons, List.not_mem_nil, or_false] at hv
      rcases hv with rfl | rfl | rfl | rfl
      · intro a0 e0
        cases e0
        rw [hkd]
        decide
      all_goals exact lm_ok_jk _
  rw [lg_entry_eq]
  have hCx : lm_Cx 0 p s m meth c := ⟨hx, hb, hml, hown, hr, hlocks, fun z => absurd z (by decide)⟩
  refine lm_ad _ _ _ n 60 0 0 _ [] _ _ hex lm_law_lt p l e room_1 s m _ below meth c s.heap [] 0 0 _ _ _ hCx V (Nat.le_refl _) hG rfl ⟨by decide, by decide, by show 0 + lm_nc h1 ≤ 600000 + 0; omega, by show 0 + lm_ns h1 ≤ 7302250 + 0; omega⟩ ?_
  intro pc' ls' st' ρ' H' locs' sl' cells' slots' hst hag G hc hs
  have hS := G.2.2.2.1
  have hc' : cells' = lm_nc h1 := by have : cells' + 0 = 0 + lm_nc h1 := hc; omega
  have hs' : slots' = lm_ns h1 := by have : slots' + 0 = 0 + lm_ns h1 := hs; omega
  unfold lm_st at hst
  split at hst
  · rename_i i len hlk
    have hmem : (pc', i, len) ∈ (lm_m 0).2.2.2.2.2.1 := lm_lookup_mem hlk
    have hd : decode (lm_m 0).2.2.1 pc' = .ok (i, len) := lm_decs (lm_m 0) (lm_m_mem lm_law_lt) (pc', i, len) hmem
    have hln : lm_lok (pc', i, len) = true := lm_lens (lm_m 0) (lm_m_mem lm_law_lt) (pc', i, len) hmem
    rcases (lm_i_ret hst).2 with rfl | rfl | rfl | rfl
    · obtain rfl : len = 1 := eq_of_beq hln
      have hst2 : st' = [.int 1] := by
        simp only [lm_i] at hst
        split at hst
        · rename_i x
          have e1 : x = 1 := by
            repeat' split at hst
            all_goals first | (cases hst; done) | (have h9 := congrArg Prod.fst (Sum.inl.inj (Sum.inr.inj (Option.some.inj hst))); exact Value.int.inj (Option.some.inj h9))
          rw [e1]
        · cases hst
      subst hst2
      refine va_forget (fun q hq => hS.2.2 q hq) ?_
      refine W.widen (k := 600000) (n := 7302250) (by omega) (by omega) ?_
      exact lw_ret hx hb hr hlocks hd
    · exfalso
      simp only [lm_i] at hst
      repeat' split at hst
      all_goals first | (cases hst; done) | (have h9 := congrArg Prod.fst (Sum.inl.inj (Sum.inr.inj (Option.some.inj hst))); cases h9)
    · exfalso
      simp only [lm_i] at hst
      repeat' split at hst
      all_goals first | (cases hst; done) | (have h9 := congrArg Prod.fst (Sum.inl.inj (Sum.inr.inj (Option.some.inj hst))); cases h9)
    · exfalso
      simp only [lm_i] at hst
      repeat' split at hst
      all_goals first | (cases hst; done) | (have h9 := congrArg Prod.fst (Sum.inl.inj (Sum.inr.inj (Option.some.inj hst))); cases h9)
  · cases hst
