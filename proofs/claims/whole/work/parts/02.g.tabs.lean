/-- J6_bitCount_0f7a4 -/
def ct226 : List (Nat × Instr × Nat) := [(0, (.iload_n 0), 1), (1, (.iload_n 0), 1), (2, (.iconst 1), 1), (3, .iushr, 1), (4, (.ldc_w 265), 3), (7, .iand, 1), (8, .isub, 1), (9, (.istore_n 0), 1), (10, (.iload_n 0), 1), (11, (.ldc_w 266), 3), (14, .iand, 1), (15, (.iload_n 0), 1), (16, (.iconst 2), 1), (17, .iushr, 1), (18, (.ldc_w 266), 3), (21, .iand, 1), (22, .iadd, 1), (23, (.istore_n 0), 1), (24, (.iload_n 0), 1), (25, (.iload_n 0), 1), (26, (.iconst 4), 1), (27, .iushr, 1), (28, .iadd, 1), (29, (.ldc_w 267), 3), (32, .iand, 1), (33, (.istore_n 0), 1), (34, (.iload_n 0), 1), (35, (.iload_n 0), 1), (36, (.bipush 8), 2), (38, .iushr, 1), (39, .iadd, 1), (40, (.istore_n 0), 1), (41, (.iload_n 0), 1), (42, (.iload_n 0), 1), (43, (.bipush 16), 2), (45, .iushr, 1), (46, .iadd, 1), (47, (.istore_n 0), 1), (48, (.iload_n 0), 1), (49, (.bipush 63), 2), (51, .iand, 1), (52, .ireturn, 1)]
theorem cto226 : ∀ q ∈ ct226, decode cJ6_bitCount_0f7a4 q.1 = .ok (q.2.1, q.2.2) := by decide +kernel
/-- J0_length_8abf5 -/
def ct227 : List (Nat × Instr × Nat) := [(0, (.aload_n 0), 1), (1, (.getfield 9), 3), (4, .arraylength, 1), (5, (.aload_n 0), 1), (6, (.invokevirtual 335), 3), (9, .ishr, 1), (10, .ireturn, 1)]
theorem cto227 : ∀ q ∈ ct227, decode cJ0_length_8abf5 q.1 = .ok (q.2.1, q.2.2) := by decide +kernel
/-- J0_charAt_5068e -/
def ct228 : List (Nat × Instr × Nat) := [(0, (.aload_n 0), 1), (1, (.invokevirtual 492), 3), (4, (.ifCond .eq 12), 3), (7, (.aload_n 0), 1), (8, (.getfield 9), 3), (11, (.iload_n 1), 1), (12, (.invokestatic 495), 3), (15, .ireturn, 1), (16, (.aload_n 0), 1), (17, (.getfield 9), 3), (20, (.iload_n 1), 1), (21, (.invokestatic 498), 3), (24, .ireturn, 1)]
theorem cto228 : ∀ q ∈ ct228, decode cJ0_charAt_5068e q.1 = .ok (q.2.1, q.2.2) := by decide +kernel
/-- J0_coder_7d493 -/
def ct229 : List (Nat × Instr × Nat) := [(0, (.getstatic 38), 3), (3, (.ifCond .eq 10), 3), (6, (.aload_n 0), 1), (7, (.getfield 15), 3), (10, (.goto 4), 3), (13, (.iconst 1), 1), (14, .ireturn, 1)]
theorem cto229 : ∀ q ∈ ct229, decode cJ0_coder_7d493 q.1 = .ok (q.2.1, q.2.2) := by decide +kernel
/-- J0_isLatin1_aae02 -/
def ct230 : List (Nat × Instr × Nat) := [(0, (.getstatic 38), 3), (3, (.ifCond .eq 14), 3), (6, (.aload_n 0), 1), (7, (.getfield 15), 3), (10, (.ifCond .ne 7), 3), (13, (.iconst 1), 1), (14, (.goto 4), 3), (17, (.iconst 0), 1), (18, .ireturn, 1)]
theorem cto230 : ∀ q ∈ ct230, decode cJ0_isLatin1_aae02 q.1 = .ok (q.2.1, q.2.2) := by decide +kernel
/-- J1_charAt_3b067 -/
def ct231 : List (Nat × Instr × Nat) := [(0, (.iload_n 1), 1), (1, (.aload_n 0), 1), (2, .arraylength, 1), (3, (.invokestatic 9), 3), (6, (.aload_n 0), 1), (7, (.iload_n 1), 1), (8, .baload, 1), (9, (.sipush 255), 3), (12, .iand, 1), (13, .i2c, 1), (14, .ireturn, 1)]
theorem cto231 : ∀ q ∈ ct231, decode cJ1_charAt_3b067 q.1 = .ok (q.2.1, q.2.2) := by decide +kernel
/-- J7_fill_d0a16 -/
def ct232 : List (Nat × Instr × Nat) := [(0, (.iconst 0), 1), (1, (.istore_n 3), 1), (2, (.aload_n 0), 1), (3, .arraylength, 1), (4, (.istore 4), 2), (6, (.iload_n 3), 1), (7, (.iload 4), 2), (9, (.if_icmp .ge 13), 3), (12, (.aload_n 0), 1), (13, (.iload_n 3), 1), (14, (.lload_n 1), 1), (15, .lastore, 1), (16, (.iinc 3 1), 3), (19, (.goto (-13)), 3), (22, .return_, 1)]
theorem cto232 : ∀ q ∈ ct232, decode cJ7_fill_d0a16 q.1 = .ok (q.2.1, q.2.2) := by decide +kernel
/-- J7_fill_53178 -/
def ct233 : List (Nat × Instr × Nat) := [(0, (.iconst 0), 1), (1, (.istore_n 2), 1), (2, (.aload_n 0), 1), (3, .arraylength, 1), (4, (.istore_n 3), 1), (5, (.iload_n 2), 1), (6, (.iload_n 3), 1), (7, (.if_icmp .ge 13), 3), (10, (.aload_n 0), 1), (11, (.iload_n 2), 1), (12, (.iload_n 1), 1), (13, .iastore, 1), (14, (.iinc 2 1), 3), (17, (.goto (-12)), 3), (20, .return_, 1)]
theorem cto233 : ∀ q ∈ ct233, decode cJ7_fill_53178 q.1 = .ok (q.2.1, q.2.2) := by decide +kernel
