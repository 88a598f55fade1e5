/-- a method's own words -/
abbrev lm_okm (x : lm_M) : Prop := lw_tbl[x.2.2.2.2.2.2.2.1]? = some (.initialized x.2.1.cls) ∧ plainName x.2.1.cls = true ∧ x.2.1.cls ≠ "java/lang/invoke/MethodHandle" ∧ x.2.1.cls ≠ "java/lang/invoke/VarHandle" ∧ lm_own x.1 = x.2.1.cls
set_option maxRecDepth 100000 in
theorem lm_mt_ok : ∀ x ∈ lm_mt.drop 1, lm_okm x := by decide +kernel
set_option maxRecDepth 100000 in
theorem lm_virt_ok : ∀ f ∈ lm_virt, lw_tbl[(lm_m f).2.2.2.2.2.2.2.2.1]? = some (.instanceMethod (lm_m f).2.1) ∧ lw_tbl[(lm_m f).2.2.2.2.2.2.2.2.2]? = some (.selects (lm_m f).2.1.cls (lm_m f).2.1 (lm_m f).2.1) ∧ 0 < f ∧ f < lm_mt.length := by decide +kernel
set_option maxRecDepth 100000 in
theorem lm_stat_ok : ∀ f ∈ lm_stat, lw_tbl[(lm_m f).2.2.2.2.2.2.2.2.1]? = some (.static (lm_m f).2.1) ∧ 0 < f ∧ f < lm_mt.length := by decide +kernel
set_option maxRecDepth 100000 in
theorem lm_inits_ok : ∀ f ∈ lm_inits, lw_tbl[(lm_m f).2.2.2.2.2.2.2.2.1]? = some (.instanceMethod (lm_m f).2.1) ∧ (lm_m f).2.1.name = "<init>" ∧ (lm_m f).2.2.2.2.1 = none ∧ 0 < f ∧ f < lm_mt.length := by decide +kernel
abbrev lm_np (y : MethodName) (n : Nat) : Prop := (parseMethodDescriptor y.desc).map (fun d => d.parameters.length) = some n
/-- a call's words: kinds 0 virtual, 1 static, 2 <init>, 3 and 4 the last two of a nest mate, 5 Object.<init>, 6 arraycopy, 7 String.checkIndex -/
noncomputable def lm_okc (c : Nat) (q : Nat × Nat × Nat × Nat × Nat) : Bool := match q.2.1 with
  | 0 => decide (lw_tbl[q.2.2.2.2]? = some (.methodLink (lm_own c) q.1 (lm_m q.2.2.1).2.1)) && decide (lm_np (lm_m q.2.2.1).2.1 q.2.2.2.1) && lm_virt.contains q.2.2.1
  | 1 => decide (lw_tbl[q.2.2.2.2]? = some (.methodLink (lm_own c) q.1 (lm_m q.2.2.1).2.1)) && decide (lm_np (lm_m q.2.2.1).2.1 q.2.2.2.1) && lm_stat.contains q.2.2.1
  | 2 => decide (lw_tbl[q.2.2.2.2]? = some (.methodLink (lm_own c) q.1 (lm_m q.2.2.1).2.1)) && decide (lm_np (lm_m q.2.2.1).2.1 q.2.2.2.1) && lm_inits.contains q.2.2.1
  | 3 => decide (lw_tbl[q.2.2.2.2]? = some (.methodLinkNest (lm_own c) q.1 (lm_m q.2.2.1).2.1 "AwakeByHalves")) && decide (lm_np (lm_m q.2.2.1).2.1 q.2.2.2.1) && lm_stat.contains q.2.2.1
  | 4 => decide (lw_tbl[q.2.2.2.2]? = some (.methodLinkNest (lm_own c) q.1 (lm_m q.2.2.1).2.1 "AwakeByHalves")) && decide (lm_np (lm_m q.2.2.1).2.1 q.2.2.2.1) && lm_inits.contains q.2.2.1
  | 5 => decide (lw_tbl[q.2.2.2.2]? = some (.methodLink (lm_own c) q.1 objectInit))
  | 6 => decide (lw_tbl[q.2.2.2.2]? = some (.methodLink (lm_own c) q.1 arraycopyName))
  | 7 => decide (lw_tbl[q.2.2.2.2]? = some (.methodLink (lm_own c) q.1 ⟨"java/lang/String", "checkIndex", "(II)V"⟩))
  | 8 => decide (lw_tbl[q.2.2.2.2]? = some (.methodLink (lm_own c) q.1 Lib.Math.max.name))
  | 9 => decide (lw_tbl[q.2.2.2.2]? = some (.methodLink (lm_own c) q.1 Lib.Math.min.name))
  | _ => false
abbrev lm_cl (ci : Nat) : vw_C := vwCl.getD ci ("", TX0, 0)
abbrev lm_okf (c : Nat) (q : Nat × Nat × Nat × Nat) : Prop :=
  (q.2.1 ≠ 30 → q.2.1 < 8 ∧ lw_tbl[q.2.2.2]? = some (.fieldLink (lm_own c) q.1 ((lm_cl q.2.1).2.1 q.2.2.1).1 ((lm_cl q.2.1).2.1 q.2.2.1).2.1 ((lm_cl q.2.1).2.1 q.2.2.1).2.2.1) ∧ q.2.2.1 < (lm_cl q.2.1).2.2) ∧
  (q.2.1 = 30 → (q.2.2.1 = 0 ∧ lw_tbl[q.2.2.2]? = some (.fieldLink (lm_own c) q.1 "java/lang/String" "value" "[B")) ∨ (q.2.2.1 = 1 ∧ lw_tbl[q.2.2.2]? = some (.fieldLink (lm_own c) q.1 "java/lang/String" "coder" "B")))
abbrev lm_okn (c : Nat) (q : Nat × Nat × Nat × Nat) : Prop :=
  (q.2.1 < 8 → lw_tbl[q.2.2.2]? = some (.classLink (lm_own c) q.1 (lm_cl q.2.1).1) ∧ q.2.2.1 = (lm_cl q.2.1).2.2) ∧
  (q.2.1 = 105 → lw_tbl[q.2.2.2]? = some (.classLink (lm_own c) q.1 "[[I")) ∧ (q.2.1 = 106 → lw_tbl[q.2.2.2]? = some (.classLink (lm_own c) q.1 "[[J"))
set_option maxRecDepth 100000 in
theorem lm_okc_0 : ∀ q ∈ lm_kM_0, lm_okc 0 q = true := by decide +kernel
set_option maxRecDepth 100000 in
theorem lm_okf_0 : ∀ q ∈ lm_kF_0, lm_okf 0 q := by decide +kernel
set_option maxRecDepth 100000 in
theorem lm_okn_0 : ∀ q ∈ lm_kC_0, lm_okn 0 q := by decide +kernel
set_option maxRecDepth 100000 in
theorem lm_okc_1 : ∀ q ∈ lm_kM_1, lm_okc 1 q = true := by decide +kernel
set_option maxRecDepth 100000 in
theorem lm_okf_1 : ∀ q ∈ lm_kF_1, lm_okf 1 q := by decide +kernel
set_option maxRecDepth 100000 in
theorem lm_okn_1 : ∀ q ∈ lm_kC_1, lm_okn 1 q := by decide +kernel
set_option maxRecDepth 100000 in
theorem lm_okc_2 : ∀ q ∈ lm_kM_2, lm_okc 2 q = true := by decide +kernel
set_option maxRecDepth 100000 in
theorem lm_okf_2 : ∀ q ∈ lm_kF_2, lm_okf 2 q := by decide +kernel
set_option maxRecDepth 100000 in
theorem lm_okn_2 : ∀ q ∈ lm_kC_2, lm_okn 2 q := by decide +kernel
set_option maxRecDepth 100000 in
theorem lm_okc_3 : ∀ q ∈ lm_kM_3, lm_okc 3 q = true := by decide +kernel
set_option maxRecDepth 100000 in
theorem lm_okf_3 : ∀ q ∈ lm_kF_3, lm_okf 3 q := by decide +kernel
set_option maxRecDepth 100000 in
theorem lm_okn_3 : ∀ q ∈ lm_kC_3, lm_okn 3 q := by decide +kernel
set_option maxRecDepth 100000 in
theorem lm_okc_4 : ∀ q ∈ lm_kM_4, lm_okc 4 q = true := by decide +kernel
set_option maxRecDepth 100000 in
theorem lm_okf_4 : ∀ q ∈ lm_kF_4, lm_okf 4 q := by decide +kernel
set_option maxRecDepth 100000 in
theorem lm_okn_4 : ∀ q ∈ lm_kC_4, lm_okn 4 q := by decide +kernel
set_option maxRecDepth 100000 in
theorem lm_okc_5 : ∀ q ∈ lm_kM_5, lm_okc 5 q = true := by decide +kernel
set_option maxRecDepth 100000 in
theorem lm_okf_5 : ∀ q ∈ lm_kF_5, lm_okf 5 q := by decide +kernel
set_option maxRecDepth 100000 in
theorem lm_okn_5 : ∀ q ∈ lm_kC_5, lm_okn 5 q := by decide +kernel
set_option maxRecDepth 100000 in
theorem lm_okc_6 : ∀ q ∈ lm_kM_6, lm_okc 6 q = true := by decide +kernel
set_option maxRecDepth 100000 in
theorem lm_okf_6 : ∀ q ∈ lm_kF_6, lm_okf 6 q := by decide +kernel
set_option maxRecDepth 100000 in
theorem lm_okn_6 : ∀ q ∈ lm_kC_6, lm_okn 6 q := by decide +kernel
set_option maxRecDepth 100000 in
theorem lm_okc_7 : ∀ q ∈ lm_kM_7, lm_okc 7 q = true := by decide +kernel
set_option maxRecDepth 100000 in
theorem lm_okf_7 : ∀ q ∈ lm_kF_7, lm_okf 7 q := by decide +kernel
set_option maxRecDepth 100000 in
theorem lm_okn_7 : ∀ q ∈ lm_kC_7, lm_okn 7 q := by decide +kernel
set_option maxRecDepth 100000 in
theorem lm_okc_8 : ∀ q ∈ lm_kM_8, lm_okc 8 q = true := by decide +kernel
set_option maxRecDepth 100000 in
theorem lm_okf_8 : ∀ q ∈ lm_kF_8, lm_okf 8 q := by decide +kernel
set_option maxRecDepth 100000 in
theorem lm_okn_8 : ∀ q ∈ lm_kC_8, lm_okn 8 q := by decide +kernel
set_option maxRecDepth 100000 in
theorem lm_okc_9 : ∀ q ∈ lm_kM_9, lm_okc 9 q = true := by decide +kernel
set_option maxRecDepth 100000 in
theorem lm_okf_9 : ∀ q ∈ lm_kF_9, lm_okf 9 q := by decide +kernel
set_option maxRecDepth 100000 in
theorem lm_okn_9 : ∀ q ∈ lm_kC_9, lm_okn 9 q := by decide +kernel
set_option maxRecDepth 100000 in
theorem lm_okc_10 : ∀ q ∈ lm_kM_10, lm_okc 10 q = true := by decide +kernel
set_option maxRecDepth 100000 in
theorem lm_okf_10 : ∀ q ∈ lm_kF_10, lm_okf 10 q := by decide +kernel
set_option maxRecDepth 100000 in
theorem lm_okn_10 : ∀ q ∈ lm_kC_10, lm_okn 10 q := by decide +kernel
set_option maxRecDepth 100000 in
theorem lm_okc_11 : ∀ q ∈ lm_kM_11, lm_okc 11 q = true := by decide +kernel
set_option maxRecDepth 100000 in
theorem lm_okf_11 : ∀ q ∈ lm_kF_11, lm_okf 11 q := by decide +kernel
set_option maxRecDepth 100000 in
theorem lm_okn_11 : ∀ q ∈ lm_kC_11, lm_okn 11 q := by decide +kernel
set_option maxRecDepth 100000 in
theorem lm_okc_12 : ∀ q ∈ lm_kM_12, lm_okc 12 q = true := by decide +kernel
set_option maxRecDepth 100000 in
theorem lm_okf_12 : ∀ q ∈ lm_kF_12, lm_okf 12 q := by decide +kernel
set_option maxRecDepth 100000 in
theorem lm_okn_12 : ∀ q ∈ lm_kC_12, lm_okn 12 q := by decide +kernel
set_option maxRecDepth 100000 in
theorem lm_okc_13 : ∀ q ∈ lm_kM_13, lm_okc 13 q = true := by decide +kernel
set_option maxRecDepth 100000 in
theorem lm_okf_13 : ∀ q ∈ lm_kF_13, lm_okf 13 q := by decide +kernel
set_option maxRecDepth 100000 in
theorem lm_okn_13 : ∀ q ∈ lm_kC_13, lm_okn 13 q := by decide +kernel
set_option maxRecDepth 100000 in
theorem lm_okc_14 : ∀ q ∈ lm_kM_14, lm_okc 14 q = true := by decide +kernel
set_option maxRecDepth 100000 in
theorem lm_okf_14 : ∀ q ∈ lm_kF_14, lm_okf 14 q := by decide +kernel
set_option maxRecDepth 100000 in
theorem lm_okn_14 : ∀ q ∈ lm_kC_14, lm_okn 14 q := by decide +kernel
theorem lm_okc_all (c : Nat) : ∀ q ∈ lm_kM c, lm_okc c q = true := by
  unfold lm_kM
  match c with
  | 0 => exact lm_okc_0
  | 1 => exact lm_okc_1
  | 2 => exact lm_okc_2
  | 3 => exact lm_okc_3
  | 4 => exact lm_okc_4
  | 5 => exact lm_okc_5
  | 6 => exact lm_okc_6
  | 7 => exact lm_okc_7
  | 8 => exact lm_okc_8
  | 9 => exact lm_okc_9
  | 10 => exact lm_okc_10
  | 11 => exact lm_okc_11
  | 12 => exact lm_okc_12
  | 13 => exact lm_okc_13
  | 14 => exact lm_okc_14
  | n + 15 => exact fun q h => absurd h (by simp)
theorem lm_okf_all (c : Nat) : ∀ q ∈ lm_kF c, lm_okf c q := by
  unfold lm_kF
  match c with
  | 0 => exact lm_okf_0
  | 1 => exact lm_okf_1
  | 2 => exact lm_okf_2
  | 3 => exact lm_okf_3
  | 4 => exact lm_okf_4
  | 5 => exact lm_okf_5
  | 6 => exact lm_okf_6
  | 7 => exact lm_okf_7
  | 8 => exact lm_okf_8
  | 9 => exact lm_okf_9
  | 10 => exact lm_okf_10
  | 11 => exact lm_okf_11
  | 12 => exact lm_okf_12
  | 13 => exact lm_okf_13
  | 14 => exact lm_okf_14
  | n + 15 => exact fun q h => absurd h (by simp)
theorem lm_okn_all (c : Nat) : ∀ q ∈ lm_kC c, lm_okn c q := by
  unfold lm_kC
  match c with
  | 0 => exact lm_okn_0
  | 1 => exact lm_okn_1
  | 2 => exact lm_okn_2
  | 3 => exact lm_okn_3
  | 4 => exact lm_okn_4
  | 5 => exact lm_okn_5
  | 6 => exact lm_okn_6
  | 7 => exact lm_okn_7
  | 8 => exact lm_okn_8
  | 9 => exact lm_okn_9
  | 10 => exact lm_okn_10
  | 11 => exact lm_okn_11
  | 12 => exact lm_okn_12
  | 13 => exact lm_okn_13
  | 14 => exact lm_okn_14
  | n + 15 => exact fun q h => absurd h (by simp)
