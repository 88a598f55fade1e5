def lm_okv (c : Nat) (q : Nat × Value × Nat) : Bool := match q.2.1 with
  | .int v => decide (lw_tbl[q.2.2]? = some (.constant (lm_own c) q.1 v))
  | .ref _ => true
  | _ => false
abbrev lm_okl (c : Nat) (q : Nat × Int64 × Nat) : Prop := lw_tbl[q.2.2]? = some (.constantLong (lm_own c) q.1 q.2.1)
abbrev lm_oks (c : Nat) (q : Nat × Value × Nat) : Prop := (q.2.1 = .ref 60 ∧ lw_tbl[q.2.2]? = some (.fieldLinkNest (lm_own c) q.1 "AwakeByHalves" "RULE_ABOVE" "[I" "AwakeByHalves")) ∨ (q.2.1 = .int 1 ∧ lw_tbl[q.2.2]? = some (.fieldLink (lm_own c) q.1 "java/lang/String" "COMPACT_STRINGS" "Z"))
set_option maxRecDepth 100000 in
theorem lm_okv_0 : ∀ q ∈ lm_kV_0, lm_okv 0 q = true := by decide +kernel
set_option maxRecDepth 100000 in
theorem lm_okl_0 : ∀ q ∈ lm_kL_0, lm_okl 0 q := by decide +kernel
set_option maxRecDepth 100000 in
theorem lm_oks_0 : ∀ q ∈ lm_kS_0, lm_oks 0 q := by decide +kernel
set_option maxRecDepth 100000 in
theorem lm_okv_1 : ∀ q ∈ lm_kV_1, lm_okv 1 q = true := by decide +kernel
set_option maxRecDepth 100000 in
theorem lm_okl_1 : ∀ q ∈ lm_kL_1, lm_okl 1 q := by decide +kernel
set_option maxRecDepth 100000 in
theorem lm_oks_1 : ∀ q ∈ lm_kS_1, lm_oks 1 q := by decide +kernel
set_option maxRecDepth 100000 in
theorem lm_okv_2 : ∀ q ∈ lm_kV_2, lm_okv 2 q = true := by decide +kernel
set_option maxRecDepth 100000 in
theorem lm_okl_2 : ∀ q ∈ lm_kL_2, lm_okl 2 q := by decide +kernel
set_option maxRecDepth 100000 in
theorem lm_oks_2 : ∀ q ∈ lm_kS_2, lm_oks 2 q := by decide +kernel
set_option maxRecDepth 100000 in
theorem lm_okv_3 : ∀ q ∈ lm_kV_3, lm_okv 3 q = true := by decide +kernel
set_option maxRecDepth 100000 in
theorem lm_okl_3 : ∀ q ∈ lm_kL_3, lm_okl 3 q := by decide +kernel
set_option maxRecDepth 100000 in
theorem lm_oks_3 : ∀ q ∈ lm_kS_3, lm_oks 3 q := by decide +kernel
set_option maxRecDepth 100000 in
theorem lm_okv_4 : ∀ q ∈ lm_kV_4, lm_okv 4 q = true := by decide +kernel
set_option maxRecDepth 100000 in
theorem lm_okl_4 : ∀ q ∈ lm_kL_4, lm_okl 4 q := by decide +kernel
set_option maxRecDepth 100000 in
theorem lm_oks_4 : ∀ q ∈ lm_kS_4, lm_oks 4 q := by decide +kernel
set_option maxRecDepth 100000 in
theorem lm_okv_5 : ∀ q ∈ lm_kV_5, lm_okv 5 q = true := by decide +kernel
set_option maxRecDepth 100000 in
theorem lm_okl_5 : ∀ q ∈ lm_kL_5, lm_okl 5 q := by decide +kernel
set_option maxRecDepth 100000 in
theorem lm_oks_5 : ∀ q ∈ lm_kS_5, lm_oks 5 q := by decide +kernel
set_option maxRecDepth 100000 in
theorem lm_okv_6 : ∀ q ∈ lm_kV_6, lm_okv 6 q = true := by decide +kernel
set_option maxRecDepth 100000 in
theorem lm_okl_6 : ∀ q ∈ lm_kL_6, lm_okl 6 q := by decide +kernel
set_option maxRecDepth 100000 in
theorem lm_oks_6 : ∀ q ∈ lm_kS_6, lm_oks 6 q := by decide +kernel
set_option maxRecDepth 100000 in
theorem lm_okv_7 : ∀ q ∈ lm_kV_7, lm_okv 7 q = true := by decide +kernel
set_option maxRecDepth 100000 in
theorem lm_okl_7 : ∀ q ∈ lm_kL_7, lm_okl 7 q := by decide +kernel
set_option maxRecDepth 100000 in
theorem lm_oks_7 : ∀ q ∈ lm_kS_7, lm_oks 7 q := by decide +kernel
set_option maxRecDepth 100000 in
theorem lm_okv_8 : ∀ q ∈ lm_kV_8, lm_okv 8 q = true := by decide +kernel
set_option maxRecDepth 100000 in
theorem lm_okl_8 : ∀ q ∈ lm_kL_8, lm_okl 8 q := by decide +kernel
set_option maxRecDepth 100000 in
theorem lm_oks_8 : ∀ q ∈ lm_kS_8, lm_oks 8 q := by decide +kernel
set_option maxRecDepth 100000 in
theorem lm_okv_9 : ∀ q ∈ lm_kV_9, lm_okv 9 q = true := by decide +kernel
set_option maxRecDepth 100000 in
theorem lm_okl_9 : ∀ q ∈ lm_kL_9, lm_okl 9 q := by decide +kernel
set_option maxRecDepth 100000 in
theorem lm_oks_9 : ∀ q ∈ lm_kS_9, lm_oks 9 q := by decide +kernel
set_option maxRecDepth 100000 in
theorem lm_okv_10 : ∀ q ∈ lm_kV_10, lm_okv 10 q = true := by decide +kernel
set_option maxRecDepth 100000 in
theorem lm_okl_10 : ∀ q ∈ lm_kL_10, lm_okl 10 q := by decide +kernel
set_option maxRecDepth 100000 in
theorem lm_oks_10 : ∀ q ∈ lm_kS_10, lm_oks 10 q := by decide +kernel
set_option maxRecDepth 100000 in
theorem lm_okv_11 : ∀ q ∈ lm_kV_11, lm_okv 11 q = true := by decide +kernel
set_option maxRecDepth 100000 in
theorem lm_okl_11 : ∀ q ∈ lm_kL_11, lm_okl 11 q := by decide +kernel
set_option maxRecDepth 100000 in
theorem lm_oks_11 : ∀ q ∈ lm_kS_11, lm_oks 11 q := by decide +kernel
set_option maxRecDepth 100000 in
theorem lm_okv_12 : ∀ q ∈ lm_kV_12, lm_okv 12 q = true := by decide +kernel
set_option maxRecDepth 100000 in
theorem lm_okl_12 : ∀ q ∈ lm_kL_12, lm_okl 12 q := by decide +kernel
set_option maxRecDepth 100000 in
theorem lm_oks_12 : ∀ q ∈ lm_kS_12, lm_oks 12 q := by decide +kernel
set_option maxRecDepth 100000 in
theorem lm_okv_13 : ∀ q ∈ lm_kV_13, lm_okv 13 q = true := by decide +kernel
set_option maxRecDepth 100000 in
theorem lm_okl_13 : ∀ q ∈ lm_kL_13, lm_okl 13 q := by decide +kernel
set_option maxRecDepth 100000 in
theorem lm_oks_13 : ∀ q ∈ lm_kS_13, lm_oks 13 q := by decide +kernel
set_option maxRecDepth 100000 in
theorem lm_okv_14 : ∀ q ∈ lm_kV_14, lm_okv 14 q = true := by decide +kernel
set_option maxRecDepth 100000 in
theorem lm_okl_14 : ∀ q ∈ lm_kL_14, lm_okl 14 q := by decide +kernel
set_option maxRecDepth 100000 in
theorem lm_oks_14 : ∀ q ∈ lm_kS_14, lm_oks 14 q := by decide +kernel
theorem lm_okv_all (c : Nat) : ∀ q ∈ lm_kV c, lm_okv c q = true := by
  unfold lm_kV
  match c with
  | 0 => exact lm_okv_0
  | 1 => exact lm_okv_1
  | 2 => exact lm_okv_2
  | 3 => exact lm_okv_3
  | 4 => exact lm_okv_4
  | 5 => exact lm_okv_5
  | 6 => exact lm_okv_6
  | 7 => exact lm_okv_7
  | 8 => exact lm_okv_8
  | 9 => exact lm_okv_9
  | 10 => exact lm_okv_10
  | 11 => exact lm_okv_11
  | 12 => exact lm_okv_12
  | 13 => exact lm_okv_13
  | 14 => exact lm_okv_14
  | n + 15 => exact fun q h => absurd h (by simp)
theorem lm_okl_all (c : Nat) : ∀ q ∈ lm_kL c, lm_okl c q := by
  unfold lm_kL
  match c with
  | 0 => exact lm_okl_0
  | 1 => exact lm_okl_1
  | 2 => exact lm_okl_2
  | 3 => exact lm_okl_3
  | 4 => exact lm_okl_4
  | 5 => exact lm_okl_5
  | 6 => exact lm_okl_6
  | 7 => exact lm_okl_7
  | 8 => exact lm_okl_8
  | 9 => exact lm_okl_9
  | 10 => exact lm_okl_10
  | 11 => exact lm_okl_11
  | 12 => exact lm_okl_12
  | 13 => exact lm_okl_13
  | 14 => exact lm_okl_14
  | n + 15 => exact fun q h => absurd h (by simp)
theorem lm_oks_all (c : Nat) : ∀ q ∈ lm_kS c, lm_oks c q := by
  unfold lm_kS
  match c with
  | 0 => exact lm_oks_0
  | 1 => exact lm_oks_1
  | 2 => exact lm_oks_2
  | 3 => exact lm_oks_3
  | 4 => exact lm_oks_4
  | 5 => exact lm_oks_5
  | 6 => exact lm_oks_6
  | 7 => exact lm_oks_7
  | 8 => exact lm_oks_8
  | 9 => exact lm_oks_9
  | 10 => exact lm_oks_10
  | 11 => exact lm_oks_11
  | 12 => exact lm_oks_12
  | 13 => exact lm_oks_13
  | 14 => exact lm_oks_14
  | n + 15 => exact fun q h => absurd h (by simp)
set_option maxRecDepth 100000 in
theorem lm_lens : ∀ x ∈ lm_mt, ∀ q ∈ x.2.2.2.2.2.1, lm_lok q = true := by decide +kernel
set_option maxRecDepth 100000 in
theorem lm_decs0 : ∀ x ∈ lm_mt0, ∀ q ∈ x.2.2.2.2.2.1, decode x.2.2.1 q.1 = .ok (q.2.1, q.2.2) := List.forall_mem_cons.mpr ⟨cto0, List.forall_mem_cons.mpr ⟨cto1, List.forall_mem_cons.mpr ⟨cto2, List.forall_mem_cons.mpr ⟨cto3, List.forall_mem_cons.mpr ⟨cto4, List.forall_mem_cons.mpr ⟨cto5, List.forall_mem_cons.mpr ⟨cto6, List.forall_mem_cons.mpr ⟨cto7, List.forall_mem_cons.mpr ⟨cto8, List.forall_mem_cons.mpr ⟨cto9, List.forall_mem_cons.mpr ⟨cto10, List.forall_mem_cons.mpr ⟨cto11, List.forall_mem_cons.mpr ⟨cto12, List.forall_mem_cons.mpr ⟨cto13, List.forall_mem_cons.mpr ⟨cto14, List.forall_mem_cons.mpr ⟨cto15, List.forall_mem_cons.mpr ⟨cto16, List.forall_mem_cons.mpr ⟨cto17, List.forall_mem_cons.mpr ⟨cto18, List.forall_mem_cons.mpr ⟨cto19, List.forall_mem_cons.mpr ⟨cto20, List.forall_mem_cons.mpr ⟨cto21, List.forall_mem_cons.mpr ⟨cto22, List.forall_mem_cons.mpr ⟨cto23, List.forall_mem_cons.mpr ⟨cto24, List.forall_mem_cons.mpr ⟨cto25, List.forall_mem_cons.mpr ⟨cto26, List.forall_mem_cons.mpr ⟨cto27, List.forall_mem_cons.mpr ⟨cto28, List.forall_mem_cons.mpr ⟨cto29, List.forall_mem_cons.mpr ⟨cto30, List.forall_mem_cons.mpr ⟨cto31, List.forall_mem_cons.mpr ⟨cto32, List.forall_mem_cons.mpr ⟨cto33, List.forall_mem_cons.mpr ⟨cto34, List.forall_mem_cons.mpr ⟨cto35, List.forall_mem_cons.mpr ⟨cto36, List.forall_mem_cons.mpr ⟨cto37, List.forall_mem_cons.mpr ⟨cto38, List.forall_mem_cons.mpr ⟨cto39, fun _ h => absurd h List.not_mem_nil⟩⟩⟩⟩⟩⟩⟩⟩⟩⟩⟩⟩⟩⟩⟩⟩⟩⟩⟩⟩⟩⟩⟩⟩⟩⟩⟩⟩⟩⟩⟩⟩⟩⟩⟩⟩⟩⟩⟩⟩
set_option maxRecDepth 100000 in
theorem lm_decs1 : ∀ x ∈ lm_mt1, ∀ q ∈ x.2.2.2.2.2.1, decode x.2.2.1 q.1 = .ok (q.2.1, q.2.2) := List.forall_mem_cons.mpr ⟨cto40, List.forall_mem_cons.mpr ⟨cto41, List.forall_mem_cons.mpr ⟨cto42, List.forall_mem_cons.mpr ⟨cto43, List.forall_mem_cons.mpr ⟨cto44, List.forall_mem_cons.mpr ⟨cto45, List.forall_mem_cons.mpr ⟨cto46, List.forall_mem_cons.mpr ⟨cto47, List.forall_mem_cons.mpr ⟨cto48, List.forall_mem_cons.mpr ⟨cto49, List.forall_mem_cons.mpr ⟨cto50, List.forall_mem_cons.mpr ⟨cto51, List.forall_mem_cons.mpr ⟨cto52, List.forall_mem_cons.mpr ⟨cto53, List.forall_mem_cons.mpr ⟨cto54, List.forall_mem_cons.mpr ⟨cto55, List.forall_mem_cons.mpr ⟨cto56, List.forall_mem_cons.mpr ⟨cto57, List.forall_mem_cons.mpr ⟨cto58, List.forall_mem_cons.mpr ⟨cto59, List.forall_mem_cons.mpr ⟨cto60, List.forall_mem_cons.mpr ⟨cto61, List.forall_mem_cons.mpr ⟨cto62, List.forall_mem_cons.mpr ⟨cto63, List.forall_mem_cons.mpr ⟨cto64, List.forall_mem_cons.mpr ⟨cto65, List.forall_mem_cons.mpr ⟨cto66, List.forall_mem_cons.mpr ⟨cto67, List.forall_mem_cons.mpr ⟨cto68, List.forall_mem_cons.mpr ⟨cto69, List.forall_mem_cons.mpr ⟨cto70, List.forall_mem_cons.mpr ⟨cto71, List.forall_mem_cons.mpr ⟨cto72, List.forall_mem_cons.mpr ⟨cto73, List.forall_mem_cons.mpr ⟨cto74, List.forall_mem_cons.mpr ⟨cto75, List.forall_mem_cons.mpr ⟨cto76, List.forall_mem_cons.mpr ⟨cto77, List.forall_mem_cons.mpr ⟨cto78, List.forall_mem_cons.mpr ⟨cto79, fun _ h => absurd h List.not_mem_nil⟩⟩⟩⟩⟩⟩⟩⟩⟩⟩⟩⟩⟩⟩⟩⟩⟩⟩⟩⟩⟩⟩⟩⟩⟩⟩⟩⟩⟩⟩⟩⟩⟩⟩⟩⟩⟩⟩⟩⟩
set_option maxRecDepth 100000 in
theorem lm_decs2 : ∀ x ∈ lm_mt2, ∀ q ∈ x.2.2.2.2.2.1, decode x.2.2.1 q.1 = .ok (q.2.1, q.2.2) := List.forall_mem_cons.mpr ⟨cto80, List.forall_mem_cons.mpr ⟨cto81, List.forall_mem_cons.mpr ⟨cto82, List.forall_mem_cons.mpr ⟨cto83, List.forall_mem_cons.mpr ⟨cto84, List.forall_mem_cons.mpr ⟨cto85, List.forall_mem_cons.mpr ⟨cto86, List.forall_mem_cons.mpr ⟨cto87, List.forall_mem_cons.mpr ⟨cto88, List.forall_mem_cons.mpr ⟨cto89, List.forall_mem_cons.mpr ⟨cto90, List.forall_mem_cons.mpr ⟨cto91, List.forall_mem_cons.mpr ⟨cto92, List.forall_mem_cons.mpr ⟨cto93, List.forall_mem_cons.mpr ⟨cto94, List.forall_mem_cons.mpr ⟨cto95, List.forall_mem_cons.mpr ⟨cto96, List.forall_mem_cons.mpr ⟨cto97, List.forall_mem_cons.mpr ⟨cto98, List.forall_mem_cons.mpr ⟨cto99, List.forall_mem_cons.mpr ⟨cto100, List.forall_mem_cons.mpr ⟨cto101, List.forall_mem_cons.mpr ⟨cto102, List.forall_mem_cons.mpr ⟨cto103, List.forall_mem_cons.mpr ⟨cto104, List.forall_mem_cons.mpr ⟨cto105, List.forall_mem_cons.mpr ⟨cto106, List.forall_mem_cons.mpr ⟨cto107, List.forall_mem_cons.mpr ⟨cto108, List.forall_mem_cons.mpr ⟨cto109, List.forall_mem_cons.mpr ⟨cto110, List.forall_mem_cons.mpr ⟨cto111, List.forall_mem_cons.mpr ⟨cto112, List.forall_mem_cons.mpr ⟨cto113, List.forall_mem_cons.mpr ⟨cto114, List.forall_mem_cons.mpr ⟨cto115, List.forall_mem_cons.mpr ⟨cto116, List.forall_mem_cons.mpr ⟨cto117, List.forall_mem_cons.mpr ⟨cto118, List.forall_mem_cons.mpr ⟨cto119, fun _ h => absurd h List.not_mem_nil⟩⟩⟩⟩⟩⟩⟩⟩⟩⟩⟩⟩⟩⟩⟩⟩⟩⟩⟩⟩⟩⟩⟩⟩⟩⟩⟩⟩⟩⟩⟩⟩⟩⟩⟩⟩⟩⟩⟩⟩
set_option maxRecDepth 100000 in
theorem lm_decs3 : ∀ x ∈ lm_mt3, ∀ q ∈ x.2.2.2.2.2.1, decode x.2.2.1 q.1 = .ok (q.2.1, q.2.2) := List.forall_mem_cons.mpr ⟨cto120, List.forall_mem_cons.mpr ⟨cto121, List.forall_mem_cons.mpr ⟨cto122, List.forall_mem_cons.mpr ⟨cto123, List.forall_mem_cons.mpr ⟨cto124, List.forall_mem_cons.mpr ⟨cto125, List.forall_mem_cons.mpr ⟨cto126, List.forall_mem_cons.mpr ⟨cto127, List.forall_mem_cons.mpr ⟨cto128, List.forall_mem_cons.mpr ⟨cto129, List.forall_mem_cons.mpr ⟨cto130, List.forall_mem_cons.mpr ⟨cto131, List.forall_mem_cons.mpr ⟨cto132, List.forall_mem_cons.mpr ⟨cto133, List.forall_mem_cons.mpr ⟨cto134, List.forall_mem_cons.mpr ⟨cto135, List.forall_mem_cons.mpr ⟨cto136, List.forall_mem_cons.mpr ⟨cto137, List.forall_mem_cons.mpr ⟨cto138, List.forall_mem_cons.mpr ⟨cto139, List.forall_mem_cons.mpr ⟨cto140, List.forall_mem_cons.mpr ⟨cto141, List.forall_mem_cons.mpr ⟨cto142, List.forall_mem_cons.mpr ⟨cto143, List.forall_mem_cons.mpr ⟨cto144, List.forall_mem_cons.mpr ⟨cto145, List.forall_mem_cons.mpr ⟨cto146, List.forall_mem_cons.mpr ⟨cto147, List.forall_mem_cons.mpr ⟨cto148, List.forall_mem_cons.mpr ⟨cto149, List.forall_mem_cons.mpr ⟨cto150, List.forall_mem_cons.mpr ⟨cto151, List.forall_mem_cons.mpr ⟨cto152, List.forall_mem_cons.mpr ⟨cto153, List.forall_mem_cons.mpr ⟨cto154, List.forall_mem_cons.mpr ⟨cto155, List.forall_mem_cons.mpr ⟨cto156, List.forall_mem_cons.mpr ⟨cto157, List.forall_mem_cons.mpr ⟨cto158, List.forall_mem_cons.mpr ⟨cto159, fun _ h => absurd h List.not_mem_nil⟩⟩⟩⟩⟩⟩⟩⟩⟩⟩⟩⟩⟩⟩⟩⟩⟩⟩⟩⟩⟩⟩⟩⟩⟩⟩⟩⟩⟩⟩⟩⟩⟩⟩⟩⟩⟩⟩⟩⟩
set_option maxRecDepth 100000 in
theorem lm_decs4 : ∀ x ∈ lm_mt4, ∀ q ∈ x.2.2.2.2.2.1, decode x.2.2.1 q.1 = .ok (q.2.1, q.2.2) := List.forall_mem_cons.mpr ⟨cto160, List.forall_mem_cons.mpr ⟨cto161, List.forall_mem_cons.mpr ⟨cto162, List.forall_mem_cons.mpr ⟨cto163, List.forall_mem_cons.mpr ⟨cto164, List.forall_mem_cons.mpr ⟨cto165, List.forall_mem_cons.mpr ⟨cto166, List.forall_mem_cons.mpr ⟨cto167, List.forall_mem_cons.mpr ⟨cto168, List.forall_mem_cons.mpr ⟨cto169, List.forall_mem_cons.mpr ⟨cto170, List.forall_mem_cons.mpr ⟨cto171, List.forall_mem_cons.mpr ⟨cto172, List.forall_mem_cons.mpr ⟨cto173, List.forall_mem_cons.mpr ⟨cto174, List.forall_mem_cons.mpr ⟨cto175, List.forall_mem_cons.mpr ⟨cto176, List.forall_mem_cons.mpr ⟨cto177, List.forall_mem_cons.mpr ⟨cto178, List.forall_mem_cons.mpr ⟨cto179, List.forall_mem_cons.mpr ⟨cto180, List.forall_mem_cons.mpr ⟨cto181, List.forall_mem_cons.mpr ⟨cto182, List.forall_mem_cons.mpr ⟨cto183, List.forall_mem_cons.mpr ⟨cto184, List.forall_mem_cons.mpr ⟨cto185, List.forall_mem_cons.mpr ⟨cto186, List.forall_mem_cons.mpr ⟨cto187, List.forall_mem_cons.mpr ⟨cto188, List.forall_mem_cons.mpr ⟨cto189, List.forall_mem_cons.mpr ⟨cto190, List.forall_mem_cons.mpr ⟨cto191, List.forall_mem_cons.mpr ⟨cto192, List.forall_mem_cons.mpr ⟨cto193, List.forall_mem_cons.mpr ⟨cto194, List.forall_mem_cons.mpr ⟨cto195, List.forall_mem_cons.mpr ⟨cto196, List.forall_mem_cons.mpr ⟨cto197, List.forall_mem_cons.mpr ⟨cto198, List.forall_mem_cons.mpr ⟨cto199, fun _ h => absurd h List.not_mem_nil⟩⟩⟩⟩⟩⟩⟩⟩⟩⟩⟩⟩⟩⟩⟩⟩⟩⟩⟩⟩⟩⟩⟩⟩⟩⟩⟩⟩⟩⟩⟩⟩⟩⟩⟩⟩⟩⟩⟩⟩
set_option maxRecDepth 100000 in
theorem lm_decs5 : ∀ x ∈ lm_mt5, ∀ q ∈ x.2.2.2.2.2.1, decode x.2.2.1 q.1 = .ok (q.2.1, q.2.2) := List.forall_mem_cons.mpr ⟨cto200, List.forall_mem_cons.mpr ⟨cto201, List.forall_mem_cons.mpr ⟨cto202, List.forall_mem_cons.mpr ⟨cto203, List.forall_mem_cons.mpr ⟨cto204, List.forall_mem_cons.mpr ⟨cto205, List.forall_mem_cons.mpr ⟨cto206, List.forall_mem_cons.mpr ⟨cto207, List.forall_mem_cons.mpr ⟨cto208, List.forall_mem_cons.mpr ⟨cto209, List.forall_mem_cons.mpr ⟨cto210, List.forall_mem_cons.mpr ⟨cto211, List.forall_mem_cons.mpr ⟨cto212, List.forall_mem_cons.mpr ⟨cto213, List.forall_mem_cons.mpr ⟨cto214, List.forall_mem_cons.mpr ⟨cto215, List.forall_mem_cons.mpr ⟨cto216, List.forall_mem_cons.mpr ⟨cto217, List.forall_mem_cons.mpr ⟨cto218, List.forall_mem_cons.mpr ⟨cto219, List.forall_mem_cons.mpr ⟨cto220, List.forall_mem_cons.mpr ⟨cto221, List.forall_mem_cons.mpr ⟨cto222, List.forall_mem_cons.mpr ⟨cto223, List.forall_mem_cons.mpr ⟨cto224, List.forall_mem_cons.mpr ⟨cto225, List.forall_mem_cons.mpr ⟨cto226, List.forall_mem_cons.mpr ⟨cto227, List.forall_mem_cons.mpr ⟨cto228, List.forall_mem_cons.mpr ⟨cto229, List.forall_mem_cons.mpr ⟨cto230, List.forall_mem_cons.mpr ⟨cto231, List.forall_mem_cons.mpr ⟨cto232, List.forall_mem_cons.mpr ⟨cto233, fun _ h => absurd h List.not_mem_nil⟩⟩⟩⟩⟩⟩⟩⟩⟩⟩⟩⟩⟩⟩⟩⟩⟩⟩⟩⟩⟩⟩⟩⟩⟩⟩⟩⟩⟩⟩⟩⟩⟩⟩
theorem lm_decs : ∀ x ∈ lm_mt, ∀ q ∈ x.2.2.2.2.2.1, decode x.2.2.1 q.1 = .ok (q.2.1, q.2.2) := List.forall_mem_append.mpr ⟨lm_decs0, List.forall_mem_append.mpr ⟨lm_decs1, List.forall_mem_append.mpr ⟨lm_decs2, List.forall_mem_append.mpr ⟨lm_decs3, List.forall_mem_append.mpr ⟨lm_decs4, lm_decs5⟩⟩⟩⟩⟩
set_option maxRecDepth 100000 in
theorem lm_us_0 : ∀ w ∈ u_ws RX0 TX0 6, w ∈ lw_tbl := by decide +kernel
set_option maxRecDepth 100000 in
theorem lm_us_1 : ∀ w ∈ u_ws RX1 TX1 2, w ∈ lw_tbl := by decide +kernel
set_option maxRecDepth 100000 in
theorem lm_us_2 : ∀ w ∈ u_ws RX3 TX3 4, w ∈ lw_tbl := by decide +kernel
set_option maxRecDepth 100000 in
theorem lm_us_3 : ∀ w ∈ u_ws RX5 TX5 5, w ∈ lw_tbl := by decide +kernel
set_option maxRecDepth 100000 in
theorem lm_us_4 : ∀ w ∈ u_ws RX6 TX6 17, w ∈ lw_tbl := by decide +kernel
set_option maxRecDepth 100000 in
theorem lm_us_5 : ∀ w ∈ u_ws RX7 TX7 6, w ∈ lw_tbl := by decide +kernel
set_option maxRecDepth 100000 in
theorem lm_us_6 : ∀ w ∈ u_ws RX8 TX8 10, w ∈ lw_tbl := by decide +kernel
set_option maxRecDepth 100000 in
theorem lm_us_7 : ∀ w ∈ u_ws RX9 TX9 36, w ∈ lw_tbl := by decide +kernel
set_option maxRecDepth 100000 in
theorem lm_nw_0 : Cond.instantiable RX0 6 ∈ lw_tbl ∧ Cond.initialized RX0 ∈ lw_tbl := ⟨lm_tk1 (List.mem_of_getElem? (i := 137) rfl), lm_tk1 (List.mem_of_getElem? (i := 4) rfl)⟩
set_option maxRecDepth 100000 in
theorem lm_nw_1 : Cond.instantiable RX1 2 ∈ lw_tbl ∧ Cond.initialized RX1 ∈ lw_tbl := ⟨lm_tk1 (List.mem_of_getElem? (i := 162) rfl), lm_tk1 (List.mem_of_getElem? (i := 5) rfl)⟩
set_option maxRecDepth 100000 in
theorem lm_nw_2 : Cond.instantiable RX3 4 ∈ lw_tbl ∧ Cond.initialized RX3 ∈ lw_tbl := ⟨lm_tk1 (List.mem_of_getElem? (i := 203) rfl), lm_tk1 (List.mem_of_getElem? (i := 7) rfl)⟩
set_option maxRecDepth 100000 in
theorem lm_nw_3 : Cond.instantiable RX5 5 ∈ lw_tbl ∧ Cond.initialized RX5 ∈ lw_tbl := ⟨lm_tk1 (List.mem_of_getElem? (i := 111) rfl), lm_tk1 (List.mem_of_getElem? (i := 3) rfl)⟩
set_option maxRecDepth 100000 in
theorem lm_nw_4 : Cond.instantiable RX6 17 ∈ lw_tbl ∧ Cond.initialized RX6 ∈ lw_tbl := ⟨lm_tk1 (List.mem_of_getElem? (i := 28) rfl), lm_tk1 (List.mem_of_getElem? (i := 2) rfl)⟩
set_option maxRecDepth 100000 in
theorem lm_nw_5 : Cond.instantiable RX7 6 ∈ lw_tbl ∧ Cond.initialized RX7 ∈ lw_tbl := ⟨lm_tk1 (List.mem_of_getElem? (i := 175) rfl), lm_tk1 (List.mem_of_getElem? (i := 6) rfl)⟩
set_option maxRecDepth 100000 in
theorem lm_nw_6 : Cond.instantiable RX8 10 ∈ lw_tbl ∧ Cond.initialized RX8 ∈ lw_tbl := ⟨lm_tk1 (List.mem_of_getElem? (i := 20) rfl), lm_tk1 (List.mem_of_getElem? (i := 1) rfl)⟩
set_option maxRecDepth 100000 in
theorem lm_nw_7 : Cond.instantiable RX9 36 ∈ lw_tbl ∧ Cond.initialized RX9 ∈ lw_tbl := ⟨lm_tk4 (List.mem_of_getElem? (i := 153) rfl), lm_tk1 (List.mem_of_getElem? (i := 8) rfl)⟩
theorem lm_new_words : ∀ ci, ci < 8 → Cond.instantiable (lm_cl ci).1 (lm_cl ci).2.2 ∈ lw_tbl ∧ Cond.initialized (lm_cl ci).1 ∈ lw_tbl := by
  intro ci h
  match ci, h with
  | 0, _ => exact lm_nw_0
  | 1, _ => exact lm_nw_1
  | 2, _ => exact lm_nw_2
  | 3, _ => exact lm_nw_3
  | 4, _ => exact lm_nw_4
  | 5, _ => exact lm_nw_5
  | 6, _ => exact lm_nw_6
  | 7, _ => exact lm_nw_7
set_option maxRecDepth 100000 in
theorem lm_arr_words : Cond.arrayClass .int ∈ lw_tbl ∧ Cond.arrayClass .long ∈ lw_tbl := ⟨lm_tk1 (List.mem_of_getElem? (i := 109) rfl), lm_tk1 (List.mem_of_getElem? (i := 227) rfl)⟩
