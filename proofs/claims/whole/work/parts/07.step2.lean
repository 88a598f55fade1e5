section LMT
variable {p : Program} {l : Launch} {e : Env} {R : Room} {s : State} {m : MethodId} {args : Array Value} {below : List Frame} {meth : Method} {c : Code} {H : Heap} {locs : List Loc} {cells slots : Nat} {Q : State → Prop}
variable {D : va_G} {cy : Nat → ClassId} {B : Nat} {ρ : Nat → Nat} {f pc : Nat} {ls st : List Value} {h : lm_H} {sl : Array Slot}

theorem lm_t_iadd (hx : p.tables.exec = Jvm.exec) {cc : ByteArray} (hb : c.code = cc) (G : lm_G D cy B s ρ ls st h H locs sl) {q : Nat × List Value × List Value × lm_H} (kk : lm_K p l e R s m args below meth c cells slots Q D cy B ρ h q) (hd : decode cc pc = .ok (.iadd, 1)) (hs : lm_i2 pc ls st h (fun x y => x + y) = some (.inl q)) : W p l e R s m args below meth c H locs cells slots Q (F0 m pc sl (st.map (lm_vm ρ))) := by
  have hst := G.2.2.2.2.2.2
  have hvl := G.2.2.2.2.2.1
  obtain ⟨x, y, r, rfl, rfl⟩ := lm_i2_inv hs
  exact lv_iadd hx hb hd (lm_K_st kk G (lm_ok_cons (lm_ok_int _ _) (fun v hv => hst v (List.mem_cons_of_mem _ (List.mem_cons_of_mem _ hv)))))
theorem lm_t_isub (hx : p.tables.exec = Jvm.exec) {cc : ByteArray} (hb : c.code = cc) (G : lm_G D cy B s ρ ls st h H locs sl) {q : Nat × List Value × List Value × lm_H} (kk : lm_K p l e R s m args below meth c cells slots Q D cy B ρ h q) (hd : decode cc pc = .ok (.isub, 1)) (hs : lm_i2 pc ls st h (fun x y => x - y) = some (.inl q)) : W p l e R s m args below meth c H locs cells slots Q (F0 m pc sl (st.map (lm_vm ρ))) := by
  have hst := G.2.2.2.2.2.2
  have hvl := G.2.2.2.2.2.1
  obtain ⟨x, y, r, rfl, rfl⟩ := lm_i2_inv hs
  exact lv_isub hx hb hd (lm_K_st kk G (lm_ok_cons (lm_ok_int _ _) (fun v hv => hst v (List.mem_cons_of_mem _ (List.mem_cons_of_mem _ hv)))))
theorem lm_t_imul (hx : p.tables.exec = Jvm.exec) {cc : ByteArray} (hb : c.code = cc) (G : lm_G D cy B s ρ ls st h H locs sl) {q : Nat × List Value × List Value × lm_H} (kk : lm_K p l e R s m args below meth c cells slots Q D cy B ρ h q) (hd : decode cc pc = .ok (.imul, 1)) (hs : lm_i2 pc ls st h (fun x y => x * y) = some (.inl q)) : W p l e R s m args below meth c H locs cells slots Q (F0 m pc sl (st.map (lm_vm ρ))) := by
  have hst := G.2.2.2.2.2.2
  have hvl := G.2.2.2.2.2.1
  obtain ⟨x, y, r, rfl, rfl⟩ := lm_i2_inv hs
  exact lv_imul hx hb hd (lm_K_st kk G (lm_ok_cons (lm_ok_int _ _) (fun v hv => hst v (List.mem_cons_of_mem _ (List.mem_cons_of_mem _ hv)))))
theorem lm_t_iand (hx : p.tables.exec = Jvm.exec) {cc : ByteArray} (hb : c.code = cc) (G : lm_G D cy B s ρ ls st h H locs sl) {q : Nat × List Value × List Value × lm_H} (kk : lm_K p l e R s m args below meth c cells slots Q D cy B ρ h q) (hd : decode cc pc = .ok (.iand, 1)) (hs : lm_i2 pc ls st h (fun x y => x &&& y) = some (.inl q)) : W p l e R s m args below meth c H locs cells slots Q (F0 m pc sl (st.map (lm_vm ρ))) := by
  have hst := G.2.2.2.2.2.2
  have hvl := G.2.2.2.2.2.1
  obtain ⟨x, y, r, rfl, rfl⟩ := lm_i2_inv hs
  exact lv_iand hx hb hd (lm_K_st kk G (lm_ok_cons (lm_ok_int _ _) (fun v hv => hst v (List.mem_cons_of_mem _ (List.mem_cons_of_mem _ hv)))))
theorem lm_t_ior (hx : p.tables.exec = Jvm.exec) {cc : ByteArray} (hb : c.code = cc) (G : lm_G D cy B s ρ ls st h H locs sl) {q : Nat × List Value × List Value × lm_H} (kk : lm_K p l e R s m args below meth c cells slots Q D cy B ρ h q) (hd : decode cc pc = .ok (.ior, 1)) (hs : lm_i2 pc ls st h (fun x y => x ||| y) = some (.inl q)) : W p l e R s m args below meth c H locs cells slots Q (F0 m pc sl (st.map (lm_vm ρ))) := by
  have hst := G.2.2.2.2.2.2
  have hvl := G.2.2.2.2.2.1
  obtain ⟨x, y, r, rfl, rfl⟩ := lm_i2_inv hs
  exact lv_ior hx hb hd (lm_K_st kk G (lm_ok_cons (lm_ok_int _ _) (fun v hv => hst v (List.mem_cons_of_mem _ (List.mem_cons_of_mem _ hv)))))
theorem lm_t_ixor (hx : p.tables.exec = Jvm.exec) {cc : ByteArray} (hb : c.code = cc) (G : lm_G D cy B s ρ ls st h H locs sl) {q : Nat × List Value × List Value × lm_H} (kk : lm_K p l e R s m args below meth c cells slots Q D cy B ρ h q) (hd : decode cc pc = .ok (.ixor, 1)) (hs : lm_i2 pc ls st h (fun x y => x ^^^ y) = some (.inl q)) : W p l e R s m args below meth c H locs cells slots Q (F0 m pc sl (st.map (lm_vm ρ))) := by
  have hst := G.2.2.2.2.2.2
  have hvl := G.2.2.2.2.2.1
  obtain ⟨x, y, r, rfl, rfl⟩ := lm_i2_inv hs
  exact lv_ixor hx hb hd (lm_K_st kk G (lm_ok_cons (lm_ok_int _ _) (fun v hv => hst v (List.mem_cons_of_mem _ (List.mem_cons_of_mem _ hv)))))
theorem lm_t_ishl (hx : p.tables.exec = Jvm.exec) {cc : ByteArray} (hb : c.code = cc) (G : lm_G D cy B s ρ ls st h H locs sl) {q : Nat × List Value × List Value × lm_H} (kk : lm_K p l e R s m args below meth c cells slots Q D cy B ρ h q) (hd : decode cc pc = .ok (.ishl, 1)) (hs : lm_i2 pc ls st h (fun x y => x <<< (y &&& 31)) = some (.inl q)) : W p l e R s m args below meth c H locs cells slots Q (F0 m pc sl (st.map (lm_vm ρ))) := by
  have hst := G.2.2.2.2.2.2
  have hvl := G.2.2.2.2.2.1
  obtain ⟨x, y, r, rfl, rfl⟩ := lm_i2_inv hs
  exact lv_ishl hx hb hd (lm_K_st kk G (lm_ok_cons (lm_ok_int _ _) (fun v hv => hst v (List.mem_cons_of_mem _ (List.mem_cons_of_mem _ hv)))))
theorem lm_t_ishr (hx : p.tables.exec = Jvm.exec) {cc : ByteArray} (hb : c.code = cc) (G : lm_G D cy B s ρ ls st h H locs sl) {q : Nat × List Value × List Value × lm_H} (kk : lm_K p l e R s m args below meth c cells slots Q D cy B ρ h q) (hd : decode cc pc = .ok (.ishr, 1)) (hs : lm_i2 pc ls st h (fun x y => x >>> (y &&& 31)) = some (.inl q)) : W p l e R s m args below meth c H locs cells slots Q (F0 m pc sl (st.map (lm_vm ρ))) := by
  have hst := G.2.2.2.2.2.2
  have hvl := G.2.2.2.2.2.1
  obtain ⟨x, y, r, rfl, rfl⟩ := lm_i2_inv hs
  exact lv_ishr hx hb hd (lm_K_st kk G (lm_ok_cons (lm_ok_int _ _) (fun v hv => hst v (List.mem_cons_of_mem _ (List.mem_cons_of_mem _ hv)))))
theorem lm_t_iushr (hx : p.tables.exec = Jvm.exec) {cc : ByteArray} (hb : c.code = cc) (G : lm_G D cy B s ρ ls st h H locs sl) {q : Nat × List Value × List Value × lm_H} (kk : lm_K p l e R s m args below meth c cells slots Q D cy B ρ h q) (hd : decode cc pc = .ok (.iushr, 1)) (hs : lm_i2 pc ls st h (fun x y => (x.toUInt32 >>> (y.toUInt32 &&& Int32.toUInt32 31)).toInt32) = some (.inl q)) : W p l e R s m args below meth c H locs cells slots Q (F0 m pc sl (st.map (lm_vm ρ))) := by
  have hst := G.2.2.2.2.2.2
  have hvl := G.2.2.2.2.2.1
  obtain ⟨x, y, r, rfl, rfl⟩ := lm_i2_inv hs
  exact lv_iushr hx hb hd rfl (lm_K_st kk G (lm_ok_cons (lm_ok_int _ _) (fun v hv => hst v (List.mem_cons_of_mem _ (List.mem_cons_of_mem _ hv)))))
theorem lm_t_ladd (hx : p.tables.exec = Jvm.exec) {cc : ByteArray} (hb : c.code = cc) (G : lm_G D cy B s ρ ls st h H locs sl) {q : Nat × List Value × List Value × lm_H} (kk : lm_K p l e R s m args below meth c cells slots Q D cy B ρ h q) (hd : decode cc pc = .ok (.ladd, 1)) (hs : lm_l2 pc ls st h (fun x y => x + y) = some (.inl q)) : W p l e R s m args below meth c H locs cells slots Q (F0 m pc sl (st.map (lm_vm ρ))) := by
  have hst := G.2.2.2.2.2.2
  have hvl := G.2.2.2.2.2.1
  obtain ⟨x, y, r, rfl, rfl⟩ := lm_l2_inv hs
  exact lv_ladd hx hb hd (lm_K_st kk G (lm_ok_cons (lm_ok_long _ _) (fun v hv => hst v (List.mem_cons_of_mem _ (List.mem_cons_of_mem _ hv)))))
theorem lm_t_lmul (hx : p.tables.exec = Jvm.exec) {cc : ByteArray} (hb : c.code = cc) (G : lm_G D cy B s ρ ls st h H locs sl) {q : Nat × List Value × List Value × lm_H} (kk : lm_K p l e R s m args below meth c cells slots Q D cy B ρ h q) (hd : decode cc pc = .ok (.lmul, 1)) (hs : lm_l2 pc ls st h (fun x y => x * y) = some (.inl q)) : W p l e R s m args below meth c H locs cells slots Q (F0 m pc sl (st.map (lm_vm ρ))) := by
  have hst := G.2.2.2.2.2.2
  have hvl := G.2.2.2.2.2.1
  obtain ⟨x, y, r, rfl, rfl⟩ := lm_l2_inv hs
  exact lv_lmul hx hb hd (lm_K_st kk G (lm_ok_cons (lm_ok_long _ _) (fun v hv => hst v (List.mem_cons_of_mem _ (List.mem_cons_of_mem _ hv)))))
theorem lm_t_land (hx : p.tables.exec = Jvm.exec) {cc : ByteArray} (hb : c.code = cc) (G : lm_G D cy B s ρ ls st h H locs sl) {q : Nat × List Value × List Value × lm_H} (kk : lm_K p l e R s m args below meth c cells slots Q D cy B ρ h q) (hd : decode cc pc = .ok (.land, 1)) (hs : lm_l2 pc ls st h (fun x y => x &&& y) = some (.inl q)) : W p l e R s m args below meth c H locs cells slots Q (F0 m pc sl (st.map (lm_vm ρ))) := by
  have hst := G.2.2.2.2.2.2
  have hvl := G.2.2.2.2.2.1
  obtain ⟨x, y, r, rfl, rfl⟩ := lm_l2_inv hs
  exact lv_land hx hb hd (lm_K_st kk G (lm_ok_cons (lm_ok_long _ _) (fun v hv => hst v (List.mem_cons_of_mem _ (List.mem_cons_of_mem _ hv)))))
theorem lm_t_lor (hx : p.tables.exec = Jvm.exec) {cc : ByteArray} (hb : c.code = cc) (G : lm_G D cy B s ρ ls st h H locs sl) {q : Nat × List Value × List Value × lm_H} (kk : lm_K p l e R s m args below meth c cells slots Q D cy B ρ h q) (hd : decode cc pc = .ok (.lor, 1)) (hs : lm_l2 pc ls st h (fun x y => x ||| y) = some (.inl q)) : W p l e R s m args below meth c H locs cells slots Q (F0 m pc sl (st.map (lm_vm ρ))) := by
  have hst := G.2.2.2.2.2.2
  have hvl := G.2.2.2.2.2.1
  obtain ⟨x, y, r, rfl, rfl⟩ := lm_l2_inv hs
  exact lv_lor hx hb hd (lm_K_st kk G (lm_ok_cons (lm_ok_long _ _) (fun v hv => hst v (List.mem_cons_of_mem _ (List.mem_cons_of_mem _ hv)))))
theorem lm_t_lxor (hx : p.tables.exec = Jvm.exec) {cc : ByteArray} (hb : c.code = cc) (G : lm_G D cy B s ρ ls st h H locs sl) {q : Nat × List Value × List Value × lm_H} (kk : lm_K p l e R s m args below meth c cells slots Q D cy B ρ h q) (hd : decode cc pc = .ok (.lxor, 1)) (hs : lm_l2 pc ls st h (fun x y => x ^^^ y) = some (.inl q)) : W p l e R s m args below meth c H locs cells slots Q (F0 m pc sl (st.map (lm_vm ρ))) := by
  have hst := G.2.2.2.2.2.2
  have hvl := G.2.2.2.2.2.1
  obtain ⟨x, y, r, rfl, rfl⟩ := lm_l2_inv hs
  exact lv_lxor hx hb hd (lm_K_st kk G (lm_ok_cons (lm_ok_long _ _) (fun v hv => hst v (List.mem_cons_of_mem _ (List.mem_cons_of_mem _ hv)))))
theorem lm_t_lshl (hx : p.tables.exec = Jvm.exec) {cc : ByteArray} (hb : c.code = cc) (G : lm_G D cy B s ρ ls st h H locs sl) {q : Nat × List Value × List Value × lm_H} (kk : lm_K p l e R s m args below meth c cells slots Q D cy B ρ h q) (hd : decode cc pc = .ok (.lshl, 1)) (hs : lm_ls pc ls st h (fun x y => x <<< (y.toInt64 &&& 63)) = some (.inl q)) : W p l e R s m args below meth c H locs cells slots Q (F0 m pc sl (st.map (lm_vm ρ))) := by
  have hst := G.2.2.2.2.2.2
  have hvl := G.2.2.2.2.2.1
  obtain ⟨x, y, r, rfl, rfl⟩ := lm_ls_inv hs
  exact lv_lshl hx hb hd rfl (lm_K_st kk G (lm_ok_cons (lm_ok_long _ _) (fun v hv => hst v (List.mem_cons_of_mem _ (List.mem_cons_of_mem _ hv)))))
theorem lm_t_lshr (hx : p.tables.exec = Jvm.exec) {cc : ByteArray} (hb : c.code = cc) (G : lm_G D cy B s ρ ls st h H locs sl) {q : Nat × List Value × List Value × lm_H} (kk : lm_K p l e R s m args below meth c cells slots Q D cy B ρ h q) (hd : decode cc pc = .ok (.lshr, 1)) (hs : lm_ls pc ls st h (fun x y => x >>> (y.toInt64 &&& 63)) = some (.inl q)) : W p l e R s m args below meth c H locs cells slots Q (F0 m pc sl (st.map (lm_vm ρ))) := by
  have hst := G.2.2.2.2.2.2
  have hvl := G.2.2.2.2.2.1
  obtain ⟨x, y, r, rfl, rfl⟩ := lm_ls_inv hs
  exact lv_lshr hx hb hd rfl (lm_K_st kk G (lm_ok_cons (lm_ok_long _ _) (fun v hv => hst v (List.mem_cons_of_mem _ (List.mem_cons_of_mem _ hv)))))
theorem lm_t_ineg (hx : p.tables.exec = Jvm.exec) {cc : ByteArray} (hb : c.code = cc) (G : lm_G D cy B s ρ ls st h H locs sl) {q : Nat × List Value × List Value × lm_H} (kk : lm_K p l e R s m args below meth c cells slots Q D cy B ρ h q) (hd : decode cc pc = .ok (.ineg, 1)) (hs : lm_i1 pc ls st h (fun x => .int (-x)) = some (.inl q)) : W p l e R s m args below meth c H locs cells slots Q (F0 m pc sl (st.map (lm_vm ρ))) := by
  have hst := G.2.2.2.2.2.2
  have hvl := G.2.2.2.2.2.1
  obtain ⟨x, r, rfl, rfl⟩ := lm_i1_inv hs
  exact lv_ineg hx hb hd (lm_K_st kk G (lm_ok_cons (lm_ok_int _ _) (fun v hv => hst v (List.mem_cons_of_mem _ hv))))
theorem lm_t_i2l (hx : p.tables.exec = Jvm.exec) {cc : ByteArray} (hb : c.code = cc) (G : lm_G D cy B s ρ ls st h H locs sl) {q : Nat × List Value × List Value × lm_H} (kk : lm_K p l e R s m args below meth c cells slots Q D cy B ρ h q) (hd : decode cc pc = .ok (.i2l, 1)) (hs : lm_i1 pc ls st h (fun x => .long x.toInt64) = some (.inl q)) : W p l e R s m args below meth c H locs cells slots Q (F0 m pc sl (st.map (lm_vm ρ))) := by
  have hst := G.2.2.2.2.2.2
  have hvl := G.2.2.2.2.2.1
  obtain ⟨x, r, rfl, rfl⟩ := lm_i1_inv hs
  exact lv_i2l hx hb hd rfl (lm_K_st kk G (lm_ok_cons (lm_ok_long _ _) (fun v hv => hst v (List.mem_cons_of_mem _ hv))))
theorem lm_t_i2b (hx : p.tables.exec = Jvm.exec) {cc : ByteArray} (hb : c.code = cc) (G : lm_G D cy B s ρ ls st h H locs sl) {q : Nat × List Value × List Value × lm_H} (kk : lm_K p l e R s m args below meth c cells slots Q D cy B ρ h q) (hd : decode cc pc = .ok (.i2b, 1)) (hs : lm_i1 pc ls st h (fun x => .int x.toInt8.toInt32) = some (.inl q)) : W p l e R s m args below meth c H locs cells slots Q (F0 m pc sl (st.map (lm_vm ρ))) := by
  have hst := G.2.2.2.2.2.2
  have hvl := G.2.2.2.2.2.1
  obtain ⟨x, r, rfl, rfl⟩ := lm_i1_inv hs
  exact lv_i2b hx hb hd rfl (lm_K_st kk G (lm_ok_cons (lm_ok_int _ _) (fun v hv => hst v (List.mem_cons_of_mem _ hv))))
theorem lm_t_i2s (hx : p.tables.exec = Jvm.exec) {cc : ByteArray} (hb : c.code = cc) (G : lm_G D cy B s ρ ls st h H locs sl) {q : Nat × List Value × List Value × lm_H} (kk : lm_K p l e R s m args below meth c cells slots Q D cy B ρ h q) (hd : decode cc pc = .ok (.i2s, 1)) (hs : lm_i1 pc ls st h (fun x => .int x.toInt16.toInt32) = some (.inl q)) : W p l e R s m args below meth c H locs cells slots Q (F0 m pc sl (st.map (lm_vm ρ))) := by
  have hst := G.2.2.2.2.2.2
  have hvl := G.2.2.2.2.2.1
  obtain ⟨x, r, rfl, rfl⟩ := lm_i1_inv hs
  exact lv_i2s hx hb hd rfl (lm_K_st kk G (lm_ok_cons (lm_ok_int _ _) (fun v hv => hst v (List.mem_cons_of_mem _ hv))))
theorem lm_t_i2c (hx : p.tables.exec = Jvm.exec) {cc : ByteArray} (hb : c.code = cc) (G : lm_G D cy B s ρ ls st h H locs sl) {q : Nat × List Value × List Value × lm_H} (kk : lm_K p l e R s m args below meth c cells slots Q D cy B ρ h q) (hd : decode cc pc = .ok (.i2c, 1)) (hs : lm_i1 pc ls st h (fun x => .int (x.toUInt32 % 65536).toInt32) = some (.inl q)) : W p l e R s m args below meth c H locs cells slots Q (F0 m pc sl (st.map (lm_vm ρ))) := by
  have hst := G.2.2.2.2.2.2
  have hvl := G.2.2.2.2.2.1
  obtain ⟨x, r, rfl, rfl⟩ := lm_i1_inv hs
  exact lv_i2c hx hb hd rfl (lm_K_st kk G (lm_ok_cons (lm_ok_int _ _) (fun v hv => hst v (List.mem_cons_of_mem _ hv))))
theorem lm_t_iload (hx : p.tables.exec = Jvm.exec) {cc : ByteArray} (hb : c.code = cc) (G : lm_G D cy B s ρ ls st h H locs sl) {q : Nat × List Value × List Value × lm_H} (kk : lm_K p l e R s m args below meth c cells slots Q D cy B ρ h q) {i : Nat} (hd : decode cc pc = .ok (.iload i, 2)) (hs : lm_li (pc + 2) ls st h i = some (.inl q)) : W p l e R s m args below meth c H locs cells slots Q (F0 m pc sl (st.map (lm_vm ρ))) := by
  have hst := G.2.2.2.2.2.2
  have hvl := G.2.2.2.2.2.1
  obtain ⟨x, hi, rfl⟩ := lm_li_inv hs
  exact lv_iload hx hb hd (lm_L_get G.2.2.2.2.1 hi (lm_nj_i x)) (lm_K_st kk G (lm_ok_cons (lm_ok_int _ _) hst))
theorem lm_t_iload_n (hx : p.tables.exec = Jvm.exec) {cc : ByteArray} (hb : c.code = cc) (G : lm_G D cy B s ρ ls st h H locs sl) {q : Nat × List Value × List Value × lm_H} (kk : lm_K p l e R s m args below meth c cells slots Q D cy B ρ h q) {i : Fin 4} (hd : decode cc pc = .ok (.iload_n i, 1)) (hs : lm_li (pc + 1) ls st h i = some (.inl q)) : W p l e R s m args below meth c H locs cells slots Q (F0 m pc sl (st.map (lm_vm ρ))) := by
  have hst := G.2.2.2.2.2.2
  have hvl := G.2.2.2.2.2.1
  obtain ⟨x, hi, rfl⟩ := lm_li_inv hs
  exact lv_iload_n hx hb hd rfl (lm_L_get G.2.2.2.2.1 hi (lm_nj_i x)) (lm_K_st kk G (lm_ok_cons (lm_ok_int _ _) hst))
theorem lm_t_lload (hx : p.tables.exec = Jvm.exec) {cc : ByteArray} (hb : c.code = cc) (G : lm_G D cy B s ρ ls st h H locs sl) {q : Nat × List Value × List Value × lm_H} (kk : lm_K p l e R s m args below meth c cells slots Q D cy B ρ h q) {i : Nat} (hd : decode cc pc = .ok (.lload i, 2)) (hs : lm_ll (pc + 2) ls st h i = some (.inl q)) : W p l e R s m args below meth c H locs cells slots Q (F0 m pc sl (st.map (lm_vm ρ))) := by
  have hst := G.2.2.2.2.2.2
  have hvl := G.2.2.2.2.2.1
  obtain ⟨x, hi, rfl⟩ := lm_ll_inv hs
  exact lv_lload hx hb hd (lm_L_get G.2.2.2.2.1 hi (lm_nj_l x)) (lm_K_st kk G (lm_ok_cons (lm_ok_long _ _) hst))
theorem lm_t_lload_n (hx : p.tables.exec = Jvm.exec) {cc : ByteArray} (hb : c.code = cc) (G : lm_G D cy B s ρ ls st h H locs sl) {q : Nat × List Value × List Value × lm_H} (kk : lm_K p l e R s m args below meth c cells slots Q D cy B ρ h q) {i : Fin 4} (hd : decode cc pc = .ok (.lload_n i, 1)) (hs : lm_ll (pc + 1) ls st h i = some (.inl q)) : W p l e R s m args below meth c H locs cells slots Q (F0 m pc sl (st.map (lm_vm ρ))) := by
  have hst := G.2.2.2.2.2.2
  have hvl := G.2.2.2.2.2.1
  obtain ⟨x, hi, rfl⟩ := lm_ll_inv hs
  exact lv_lload_n hx hb hd rfl (lm_L_get G.2.2.2.2.1 hi (lm_nj_l x)) (lm_K_st kk G (lm_ok_cons (lm_ok_long _ _) hst))
theorem lm_t_aload (hx : p.tables.exec = Jvm.exec) {cc : ByteArray} (hb : c.code = cc) (G : lm_G D cy B s ρ ls st h H locs sl) {q : Nat × List Value × List Value × lm_H} (kk : lm_K p l e R s m args below meth c cells slots Q D cy B ρ h q) {i : Nat} (hd : decode cc pc = .ok (.aload i, 2)) (hs : lm_la (pc + 2) ls st h i = some (.inl q)) : W p l e R s m args below meth c H locs cells slots Q (F0 m pc sl (st.map (lm_vm ρ))) := by
  have hst := G.2.2.2.2.2.2
  have hvl := G.2.2.2.2.2.1
  obtain ⟨x, hi, rfl⟩ := lm_la_inv hs
  exact lv_aload hx hb hd (lm_L_get G.2.2.2.2.1 hi (lm_nj_r x)) (lm_K_st kk G (lm_ok_cons (hvl _ (List.mem_of_getElem? hi)) hst))
theorem lm_t_aload_n (hx : p.tables.exec = Jvm.exec) {cc : ByteArray} (hb : c.code = cc) (G : lm_G D cy B s ρ ls st h H locs sl) {q : Nat × List Value × List Value × lm_H} (kk : lm_K p l e R s m args below meth c cells slots Q D cy B ρ h q) {i : Fin 4} (hd : decode cc pc = .ok (.aload_n i, 1)) (hs : lm_la (pc + 1) ls st h i = some (.inl q)) : W p l e R s m args below meth c H locs cells slots Q (F0 m pc sl (st.map (lm_vm ρ))) := by
  have hst := G.2.2.2.2.2.2
  have hvl := G.2.2.2.2.2.1
  obtain ⟨x, hi, rfl⟩ := lm_la_inv hs
  exact lv_aload_n hx hb hd rfl (lm_L_get G.2.2.2.2.1 hi (lm_nj_r x)) (lm_K_st kk G (lm_ok_cons (hvl _ (List.mem_of_getElem? hi)) hst))
theorem lm_t_istore (hx : p.tables.exec = Jvm.exec) {cc : ByteArray} (hb : c.code = cc) (G : lm_G D cy B s ρ ls st h H locs sl) {q : Nat × List Value × List Value × lm_H} (kk : lm_K p l e R s m args below meth c cells slots Q D cy B ρ h q) {i : Nat} (hd : decode cc pc = .ok (.istore i, 2)) (hs : lm_si (pc + 2) ls st h i = some (.inl q)) : W p l e R s m args below meth c H locs cells slots Q (F0 m pc sl (st.map (lm_vm ρ))) := by
  have hst := G.2.2.2.2.2.2
  have hvl := G.2.2.2.2.2.1
  obtain ⟨x, r, rfl, hi, rfl⟩ := lm_si_inv hs
  obtain ⟨lv, hl1, hl2⟩ := G.2.2.2.2.1
  exact lv_istore hx hb hd hl1 hi rfl (fun sl1 hl1 => lm_K_s1 kk G hi hl2 hl1 (lm_ok_int _ _) (fun v hv => hst v (List.mem_cons_of_mem _ hv)))
theorem lm_t_istore_n (hx : p.tables.exec = Jvm.exec) {cc : ByteArray} (hb : c.code = cc) (G : lm_G D cy B s ρ ls st h H locs sl) {q : Nat × List Value × List Value × lm_H} (kk : lm_K p l e R s m args below meth c cells slots Q D cy B ρ h q) {i : Fin 4} (hd : decode cc pc = .ok (.istore_n i, 1)) (hs : lm_si (pc + 1) ls st h i = some (.inl q)) : W p l e R s m args below meth c H locs cells slots Q (F0 m pc sl (st.map (lm_vm ρ))) := by
  have hst := G.2.2.2.2.2.2
  have hvl := G.2.2.2.2.2.1
  obtain ⟨x, r, rfl, hi, rfl⟩ := lm_si_inv hs
  obtain ⟨lv, hl1, hl2⟩ := G.2.2.2.2.1
  exact lv_istore_n hx hb hd rfl hl1 hi rfl (fun sl1 hl1 => lm_K_s1 kk G hi hl2 hl1 (lm_ok_int _ _) (fun v hv => hst v (List.mem_cons_of_mem _ hv)))
theorem lm_t_lstore (hx : p.tables.exec = Jvm.exec) {cc : ByteArray} (hb : c.code = cc) (G : lm_G D cy B s ρ ls st h H locs sl) {q : Nat × List Value × List Value × lm_H} (kk : lm_K p l e R s m args below meth c cells slots Q D cy B ρ h q) {i : Nat} (hd : decode cc pc = .ok (.lstore i, 2)) (hs : lm_sl (pc + 2) ls st h i = some (.inl q)) : W p l e R s m args below meth c H locs cells slots Q (F0 m pc sl (st.map (lm_vm ρ))) := by
  have hst := G.2.2.2.2.2.2
  have hvl := G.2.2.2.2.2.1
  obtain ⟨x, r, rfl, hi, rfl⟩ := lm_sl_inv hs
  obtain ⟨lv, hl1, hl2⟩ := G.2.2.2.2.1
  exact lv_lstore hx hb hd hl1 hi rfl (fun sl1 hl1 => lm_K_s2 kk G hi hl2 hl1 (lm_ok_long _ _) (fun v hv => hst v (List.mem_cons_of_mem _ hv)))
theorem lm_t_lstore_n (hx : p.tables.exec = Jvm.exec) {cc : ByteArray} (hb : c.code = cc) (G : lm_G D cy B s ρ ls st h H locs sl) {q : Nat × List Value × List Value × lm_H} (kk : lm_K p l e R s m args below meth c cells slots Q D cy B ρ h q) {i : Fin 4} (hd : decode cc pc = .ok (.lstore_n i, 1)) (hs : lm_sl (pc + 1) ls st h i = some (.inl q)) : W p l e R s m args below meth c H locs cells slots Q (F0 m pc sl (st.map (lm_vm ρ))) := by
  have hst := G.2.2.2.2.2.2
  have hvl := G.2.2.2.2.2.1
  obtain ⟨x, r, rfl, hi, rfl⟩ := lm_sl_inv hs
  obtain ⟨lv, hl1, hl2⟩ := G.2.2.2.2.1
  exact lv_lstore_n hx hb hd rfl hl1 hi rfl (fun sl1 hl1 => lm_K_s2 kk G hi hl2 hl1 (lm_ok_long _ _) (fun v hv => hst v (List.mem_cons_of_mem _ hv)))
theorem lm_t_astore (hx : p.tables.exec = Jvm.exec) {cc : ByteArray} (hb : c.code = cc) (G : lm_G D cy B s ρ ls st h H locs sl) {q : Nat × List Value × List Value × lm_H} (kk : lm_K p l e R s m args below meth c cells slots Q D cy B ρ h q) {i : Nat} (hd : decode cc pc = .ok (.astore i, 2)) (hs : lm_sa (pc + 2) ls st h i = some (.inl q)) : W p l e R s m args below meth c H locs cells slots Q (F0 m pc sl (st.map (lm_vm ρ))) := by
  have hst := G.2.2.2.2.2.2
  have hvl := G.2.2.2.2.2.1
  obtain ⟨x, r, rfl, hi, rfl⟩ := lm_sa_inv hs
  obtain ⟨lv, hl1, hl2⟩ := G.2.2.2.2.1
  exact lv_astore hx hb hd hl1 hi rfl (fun sl1 hl1 => lm_K_s1 kk G hi hl2 hl1 (hst _ List.mem_cons_self) (fun v hv => hst v (List.mem_cons_of_mem _ hv)))
theorem lm_t_astore_n (hx : p.tables.exec = Jvm.exec) {cc : ByteArray} (hb : c.code = cc) (G : lm_G D cy B s ρ ls st h H locs sl) {q : Nat × List Value × List Value × lm_H} (kk : lm_K p l e R s m args below meth c cells slots Q D cy B ρ h q) {i : Fin 4} (hd : decode cc pc = .ok (.astore_n i, 1)) (hs : lm_sa (pc + 1) ls st h i = some (.inl q)) : W p l e R s m args below meth c H locs cells slots Q (F0 m pc sl (st.map (lm_vm ρ))) := by
  have hst := G.2.2.2.2.2.2
  have hvl := G.2.2.2.2.2.1
  obtain ⟨x, r, rfl, hi, rfl⟩ := lm_sa_inv hs
  obtain ⟨lv, hl1, hl2⟩ := G.2.2.2.2.1
  exact lv_astore_n hx hb hd rfl hl1 hi rfl (fun sl1 hl1 => lm_K_s1 kk G hi hl2 hl1 (hst _ List.mem_cons_self) (fun v hv => hst v (List.mem_cons_of_mem _ hv)))
theorem lm_t_if_icmp (hx : p.tables.exec = Jvm.exec) {cc : ByteArray} (hb : c.code = cc) (G : lm_G D cy B s ρ ls st h H locs sl) {q : Nat × List Value × List Value × lm_H} (kk : lm_K p l e R s m args below meth c cells slots Q D cy B ρ h q) {off : Int} {co : ClassFile.Cond} {x y : Int32} (hd : decode cc pc = .ok (.if_icmp co off, 3)) (hs : lm_bt pc off co x y ls st h = some (.inl q)) : W p l e R s m args below meth c H locs cells slots Q (F0 m pc sl ((.int y :: .int x :: st).map (lm_vm ρ))) := by
  have hst := G.2.2.2.2.2.2
  obtain ⟨t, ht, hq⟩ := lm_bt_inv hs
  have ka : lm_nx t ls st h = some (.inl q) → W p l e R s m args below meth c H locs cells slots Q (F0 m t sl (st.map (lm_vm ρ))) := fun z => by cases z; exact lm_K_st kk G hst
  have kb : lm_nx (pc + 3) ls st h = some (.inl q) → W p l e R s m args below meth c H locs cells slots Q (F0 m (pc + 3) sl (st.map (lm_vm ρ))) := fun z => by cases z; exact lm_K_st kk G hst
  cases co with
  | eq => exact lv_icmp_eq hx hb hd ht (fun hc => ka ((if_pos hc).symm.trans hq)) (fun hc => kb ((if_neg hc).symm.trans hq))
  | ne => exact lv_icmp_ne hx hb hd ht (fun hc => ka ((if_neg hc).symm.trans hq)) (fun hc => kb ((if_pos hc).symm.trans hq))
  | lt => exact lv_icmp_lt hx hb hd ht (fun hc => ka ((if_pos hc).symm.trans hq)) (fun hc => kb ((if_neg hc).symm.trans hq))
  | ge => exact lv_icmp_ge hx hb hd ht (fun hc => ka ((if_neg (Int32.not_lt.mpr hc)).symm.trans hq)) (fun hc => kb ((if_pos (Int32.not_le.mp hc)).symm.trans hq))
  | gt => exact lv_icmp_gt hx hb hd ht (fun hc => ka ((if_pos hc).symm.trans hq)) (fun hc => kb ((if_neg hc).symm.trans hq))
  | le => exact lv_icmp_le hx hb hd ht (fun hc => ka ((if_neg (Int32.not_lt.mpr hc)).symm.trans hq)) (fun hc => kb ((if_pos (Int32.not_le.mp hc)).symm.trans hq))
theorem lm_t_ifCond (hx : p.tables.exec = Jvm.exec) {cc : ByteArray} (hb : c.code = cc) (G : lm_G D cy B s ρ ls st h H locs sl) {q : Nat × List Value × List Value × lm_H} (kk : lm_K p l e R s m args below meth c cells slots Q D cy B ρ h q) {off : Int} {co : ClassFile.Cond} {x : Int32} (hd : decode cc pc = .ok (.ifCond co off, 3)) (hs : lm_bt pc off co x 0 ls st h = some (.inl q)) : W p l e R s m args below meth c H locs cells slots Q (F0 m pc sl ((.int x :: st).map (lm_vm ρ))) := by
  have hst := G.2.2.2.2.2.2
  obtain ⟨t, ht, hq⟩ := lm_bt_inv hs
  have ka : lm_nx t ls st h = some (.inl q) → W p l e R s m args below meth c H locs cells slots Q (F0 m t sl (st.map (lm_vm ρ))) := fun z => by cases z; exact lm_K_st kk G hst
  have kb : lm_nx (pc + 3) ls st h = some (.inl q) → W p l e R s m args below meth c H locs cells slots Q (F0 m (pc + 3) sl (st.map (lm_vm ρ))) := fun z => by cases z; exact lm_K_st kk G hst
  cases co with
  | eq => exact lv_if_eq hx hb hd ht (fun hc => ka ((if_pos hc).symm.trans hq)) (fun hc => kb ((if_neg hc).symm.trans hq))
  | ne => exact lv_if_ne hx hb hd ht (fun hc => ka ((if_neg hc).symm.trans hq)) (fun hc => kb ((if_pos hc).symm.trans hq))
  | lt => exact lv_if_lt hx hb hd ht (fun hc => ka ((if_pos hc).symm.trans hq)) (fun hc => kb ((if_neg hc).symm.trans hq))
  | ge => exact lv_if_ge hx hb hd ht (fun hc => ka ((if_neg (Int32.not_lt.mpr hc)).symm.trans hq)) (fun hc => kb ((if_pos (Int32.not_le.mp hc)).symm.trans hq))
  | gt => exact lv_if_gt hx hb hd ht (fun hc => ka ((if_pos hc).symm.trans hq)) (fun hc => kb ((if_neg hc).symm.trans hq))
  | le => exact lv_if_le hx hb hd ht (fun hc => ka ((if_neg (Int32.not_lt.mpr hc)).symm.trans hq)) (fun hc => kb ((if_pos (Int32.not_le.mp hc)).symm.trans hq))
end LMT
