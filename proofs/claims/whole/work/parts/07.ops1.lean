section
variable {G : mG} {p : Program} {l : Launch} {e : Env} {R : Room} {s : State} {m : MethodId} {args : Array Value} {below : List Frame} {meth : Method} {c : Code} {Q : State → Prop} {n0 : Nat} {ad0 : Nat → Nat} {cc : ByteArray} {pc : Nat} {lv : mL} {st : List mV} {n : Nat} {σ : mM}
theorem g_iconst (hx : p.tables.exec = Jvm.exec) (hb : c.code = cc) {v : Int} (hd : decode cc pc = .ok (.iconst v, 1)) (hv : -128 ≤ v ∧ v < 128) (k : mj_Go G p l e R s m args below meth c Q n0 ad0 (pc + 1) lv (.inl v :: st) n σ) : mj_Go G p l e R s m args below meth c Q n0 ad0 pc lv st n σ := by
  intro ad H locs ls st2 h
  obtain ⟨h1, h2, h3, h4⟩ := h
  exact lv_iconst hx hb hd rfl (k ad H locs ls _ ⟨h1, h2, ⟨⟨_, rfl, Int32.toInt_ofInt_of_le (by omega) (by omega)⟩, h3⟩, h4⟩)
theorem g_bipush (hx : p.tables.exec = Jvm.exec) (hb : c.code = cc) {v : Int} (hd : decode cc pc = .ok (.bipush v, 2)) (hv : -128 ≤ v ∧ v < 128) (k : mj_Go G p l e R s m args below meth c Q n0 ad0 (pc + 2) lv (.inl v :: st) n σ) : mj_Go G p l e R s m args below meth c Q n0 ad0 pc lv st n σ := by
  intro ad H locs ls st2 h
  obtain ⟨h1, h2, h3, h4⟩ := h
  exact lv_bipush hx hb hd rfl (k ad H locs ls _ ⟨h1, h2, ⟨⟨_, rfl, by rw [Int8.toInt_toInt32]; exact Int8.toInt_ofInt_of_le (by omega) (by omega)⟩, h3⟩, h4⟩)
theorem g_sipush (hx : p.tables.exec = Jvm.exec) (hb : c.code = cc) {v : Int} (hd : decode cc pc = .ok (.sipush v, 3)) (hv : -32768 ≤ v ∧ v < 32768) (k : mj_Go G p l e R s m args below meth c Q n0 ad0 (pc + 3) lv (.inl v :: st) n σ) : mj_Go G p l e R s m args below meth c Q n0 ad0 pc lv st n σ := by
  intro ad H locs ls st2 h
  obtain ⟨h1, h2, h3, h4⟩ := h
  exact lv_sipush hx hb hd rfl (k ad H locs ls _ ⟨h1, h2, ⟨⟨_, rfl, by rw [Int16.toInt_toInt32]; exact Int16.toInt_ofInt_of_le (by omega) (by omega)⟩, h3⟩, h4⟩)
theorem g_lconst (hx : p.tables.exec = Jvm.exec) (hb : c.code = cc) {v : Fin 2} {x : Int} (hd : decode cc pc = .ok (.lconst v, 1)) (hv : ((v : Nat) : Int) = x) (k : mj_Go G p l e R s m args below meth c Q n0 ad0 (pc + 1) lv (.inr (.inl x) :: st) n σ) : mj_Go G p l e R s m args below meth c Q n0 ad0 pc lv st n σ := by
  intro ad H locs ls st2 h
  obtain ⟨h1, h2, h3, h4⟩ := h
  exact lv_lconst hx hb hd rfl (k ad H locs ls _ ⟨h1, h2, ⟨⟨_, rfl, by rw [← hv]; rcases (show v = 0 ∨ v = 1 by omega) with rfl | rfl <;> rfl⟩, h3⟩, h4⟩)
theorem g_ldc (hx : p.tables.exec = Jvm.exec) (hb : c.code = cc) {j : Nat} {x : Int32} {v : Int} {own : String} (hown : s.vm.findClass own = some m.cls) (hk : (Jvm.Cond.constant own j x).before args s = true) (hd : decode cc pc = .ok (.ldc j, 2)) (hv : x.toInt = v) (k : mj_Go G p l e R s m args below meth c Q n0 ad0 (pc + 2) lv (.inl v :: st) n σ) : mj_Go G p l e R s m args below meth c Q n0 ad0 pc lv st n σ := by
  intro ad H locs ls st2 h
  obtain ⟨h1, h2, h3, h4⟩ := h
  exact lv_ldc hx hb hown hk hd (k ad H locs ls _ ⟨h1, h2, ⟨⟨_, rfl, hv⟩, h3⟩, h4⟩)
theorem g_ldcw (hx : p.tables.exec = Jvm.exec) (hb : c.code = cc) {j : Nat} {x : Int32} {v : Int} {own : String} (hown : s.vm.findClass own = some m.cls) (hk : (Jvm.Cond.constant own j x).before args s = true) (hd : decode cc pc = .ok (.ldc_w j, 3)) (hv : x.toInt = v) (k : mj_Go G p l e R s m args below meth c Q n0 ad0 (pc + 3) lv (.inl v :: st) n σ) : mj_Go G p l e R s m args below meth c Q n0 ad0 pc lv st n σ := by
  intro ad H locs ls st2 h
  obtain ⟨h1, h2, h3, h4⟩ := h
  exact lv_ldcw hx hb hown hk hd (k ad H locs ls _ ⟨h1, h2, ⟨⟨_, rfl, hv⟩, h3⟩, h4⟩)
theorem g_ldc2 (hx : p.tables.exec = Jvm.exec) (hb : c.code = cc) {j : Nat} {x : Int64} {v : Int} {own : String} (hown : s.vm.findClass own = some m.cls) (hk : (Jvm.Cond.constantLong own j x).before args s = true) (hd : decode cc pc = .ok (.ldc2_w j, 3)) (hv : x.toInt = v) (k : mj_Go G p l e R s m args below meth c Q n0 ad0 (pc + 3) lv (.inr (.inl v) :: st) n σ) : mj_Go G p l e R s m args below meth c Q n0 ad0 pc lv st n σ := by
  intro ad H locs ls st2 h
  obtain ⟨h1, h2, h3, h4⟩ := h
  exact lv_ldc2 hx hb hown hk hd (k ad H locs ls _ ⟨h1, h2, ⟨⟨_, rfl, hv⟩, h3⟩, h4⟩)
theorem g_iload (hx : p.tables.exec = Jvm.exec) (hb : c.code = cc) {j : Nat} {x : Int} (hl : lv.getD j none = some (.inl x)) (hd : decode cc pc = .ok (.iload j, 2)) (k : mj_Go G p l e R s m args below meth c Q n0 ad0 (pc + 2) lv (.inl x :: st) n σ) : mj_Go G p l e R s m args below meth c Q n0 ad0 pc lv st n σ := by
  intro ad H locs ls st2 h
  obtain ⟨h1, h2, h3, h4⟩ := h
  obtain ⟨w, hw, hv⟩ := h2.get hl
  obtain ⟨z, rfl, hy⟩ := hv
  exact lv_iload hx hb hd hw (k ad H locs ls _ ⟨h1, h2, ⟨⟨z, rfl, hy⟩, h3⟩, h4⟩)
theorem g_iloadn (hx : p.tables.exec = Jvm.exec) (hb : c.code = cc) {f : Fin 4} {j : Nat} (hf : (f : Nat) = j) {x : Int} (hl : lv.getD j none = some (.inl x)) (hd : decode cc pc = .ok (.iload_n f, 1)) (k : mj_Go G p l e R s m args below meth c Q n0 ad0 (pc + 1) lv (.inl x :: st) n σ) : mj_Go G p l e R s m args below meth c Q n0 ad0 pc lv st n σ := by
  intro ad H locs ls st2 h
  obtain ⟨h1, h2, h3, h4⟩ := h
  obtain ⟨w, hw, hv⟩ := h2.get hl
  obtain ⟨z, rfl, hy⟩ := hv
  exact lv_iload_n hx hb hd hf hw (k ad H locs ls _ ⟨h1, h2, ⟨⟨z, rfl, hy⟩, h3⟩, h4⟩)
theorem g_lload (hx : p.tables.exec = Jvm.exec) (hb : c.code = cc) {j : Nat} {x : Int} (hl : lv.getD j none = some (.inr (.inl x))) (hd : decode cc pc = .ok (.lload j, 2)) (k : mj_Go G p l e R s m args below meth c Q n0 ad0 (pc + 2) lv (.inr (.inl x) :: st) n σ) : mj_Go G p l e R s m args below meth c Q n0 ad0 pc lv st n σ := by
  intro ad H locs ls st2 h
  obtain ⟨h1, h2, h3, h4⟩ := h
  obtain ⟨w, hw, hv⟩ := h2.get hl
  obtain ⟨z, rfl, hy⟩ := hv
  exact lv_lload hx hb hd hw (k ad H locs ls _ ⟨h1, h2, ⟨⟨z, rfl, hy⟩, h3⟩, h4⟩)
theorem g_lloadn (hx : p.tables.exec = Jvm.exec) (hb : c.code = cc) {f : Fin 4} {j : Nat} (hf : (f : Nat) = j) {x : Int} (hl : lv.getD j none = some (.inr (.inl x))) (hd : decode cc pc = .ok (.lload_n f, 1)) (k : mj_Go G p l e R s m args below meth c Q n0 ad0 (pc + 1) lv (.inr (.inl x) :: st) n σ) : mj_Go G p l e R s m args below meth c Q n0 ad0 pc lv st n σ := by
  intro ad H locs ls st2 h
  obtain ⟨h1, h2, h3, h4⟩ := h
  obtain ⟨w, hw, hv⟩ := h2.get hl
  obtain ⟨z, rfl, hy⟩ := hv
  exact lv_lload_n hx hb hd hf hw (k ad H locs ls _ ⟨h1, h2, ⟨⟨z, rfl, hy⟩, h3⟩, h4⟩)
theorem g_aload (hx : p.tables.exec = Jvm.exec) (hb : c.code = cc) {j : Nat} {x : Nat} (hl : lv.getD j none = some (.inr (.inr x))) (hd : decode cc pc = .ok (.aload j, 2)) (k : mj_Go G p l e R s m args below meth c Q n0 ad0 (pc + 2) lv (.inr (.inr x) :: st) n σ) : mj_Go G p l e R s m args below meth c Q n0 ad0 pc lv st n σ := by
  intro ad H locs ls st2 h
  obtain ⟨h1, h2, h3, h4⟩ := h
  obtain ⟨w, hw, hv⟩ := h2.get hl
  rcases id hv with ⟨e1, rfl⟩ | ⟨e1, e2, rfl⟩
  · exact lv_aloadN hx hb hd hw (k ad H locs ls _ ⟨h1, h2, ⟨hv, h3⟩, h4⟩)
  · exact lv_aload hx hb hd hw (k ad H locs ls _ ⟨h1, h2, ⟨hv, h3⟩, h4⟩)
theorem g_aloadn (hx : p.tables.exec = Jvm.exec) (hb : c.code = cc) {f : Fin 4} {j : Nat} (hf : (f : Nat) = j) {x : Nat} (hl : lv.getD j none = some (.inr (.inr x))) (hd : decode cc pc = .ok (.aload_n f, 1)) (k : mj_Go G p l e R s m args below meth c Q n0 ad0 (pc + 1) lv (.inr (.inr x) :: st) n σ) : mj_Go G p l e R s m args below meth c Q n0 ad0 pc lv st n σ := by
  intro ad H locs ls st2 h
  obtain ⟨h1, h2, h3, h4⟩ := h
  obtain ⟨w, hw, hv⟩ := h2.get hl
  rcases id hv with ⟨e1, rfl⟩ | ⟨e1, e2, rfl⟩
  · exact lv_aload_nN hx hb hd hf hw (k ad H locs ls _ ⟨h1, h2, ⟨hv, h3⟩, h4⟩)
  · exact lv_aload_n hx hb hd hf hw (k ad H locs ls _ ⟨h1, h2, ⟨hv, h3⟩, h4⟩)
theorem g_istore (hx : p.tables.exec = Jvm.exec) (hb : c.code = cc) {j : Nat} {x : Int} (hn : j < lv.length) (hd : decode cc pc = .ok (.istore j, 2)) (k : mj_Go G p l e R s m args below meth c Q n0 ad0 (pc + 2) (mj_st1 lv j (.inl x)) st n σ) : mj_Go G p l e R s m args below meth c Q n0 ad0 pc lv (.inl x :: st) n σ := by
  intro ad H locs ls st2 h
  obtain ⟨h1, h2, h3, h4⟩ := h
  obtain ⟨z, r, rfl, hz, h3a⟩ := h3.i
  exact lv_istore hx hb hd (mj_all_has h2.2.1) (by rw [h2.1]; exact hn) rfl (fun ls2 h9 => k ad H locs ls2 _ ⟨h1, mj_st1_lv h2 (v := .inl x) ⟨z, rfl, hz⟩ h9, h3a, h4⟩)
theorem g_istoren (hx : p.tables.exec = Jvm.exec) (hb : c.code = cc) {f : Fin 4} {j : Nat} (hf : (f : Nat) = j) {x : Int} (hn : j < lv.length) (hd : decode cc pc = .ok (.istore_n f, 1)) (k : mj_Go G p l e R s m args below meth c Q n0 ad0 (pc + 1) (mj_st1 lv j (.inl x)) st n σ) : mj_Go G p l e R s m args below meth c Q n0 ad0 pc lv (.inl x :: st) n σ := by
  intro ad H locs ls st2 h
  obtain ⟨h1, h2, h3, h4⟩ := h
  obtain ⟨z, r, rfl, hz, h3a⟩ := h3.i
  exact lv_istore_n hx hb hd hf (mj_all_has h2.2.1) (by rw [h2.1]; exact hn) rfl (fun ls2 h9 => k ad H locs ls2 _ ⟨h1, mj_st1_lv h2 (v := .inl x) ⟨z, rfl, hz⟩ h9, h3a, h4⟩)
theorem g_lstore (hx : p.tables.exec = Jvm.exec) (hb : c.code = cc) {j : Nat} {x : Int} (hn : j + 1 < lv.length) (hd : decode cc pc = .ok (.lstore j, 2)) (k : mj_Go G p l e R s m args below meth c Q n0 ad0 (pc + 2) (mj_st2 lv j (.inr (.inl x))) st n σ) : mj_Go G p l e R s m args below meth c Q n0 ad0 pc lv (.inr (.inl x) :: st) n σ := by
  intro ad H locs ls st2 h
  obtain ⟨h1, h2, h3, h4⟩ := h
  obtain ⟨z, r, rfl, hz, h3a⟩ := h3.l
  exact lv_lstore hx hb hd (mj_all_has h2.2.1) (by rw [h2.1]; exact hn) rfl (fun ls2 h9 => k ad H locs ls2 _ ⟨h1, mj_st2_lv h2 (v := .inr (.inl x)) ⟨z, rfl, hz⟩ h9, h3a, h4⟩)
theorem g_lstoren (hx : p.tables.exec = Jvm.exec) (hb : c.code = cc) {f : Fin 4} {j : Nat} (hf : (f : Nat) = j) {x : Int} (hn : j + 1 < lv.length) (hd : decode cc pc = .ok (.lstore_n f, 1)) (k : mj_Go G p l e R s m args below meth c Q n0 ad0 (pc + 1) (mj_st2 lv j (.inr (.inl x))) st n σ) : mj_Go G p l e R s m args below meth c Q n0 ad0 pc lv (.inr (.inl x) :: st) n σ := by
  intro ad H locs ls st2 h
  obtain ⟨h1, h2, h3, h4⟩ := h
  obtain ⟨z, r, rfl, hz, h3a⟩ := h3.l
  exact lv_lstore_n hx hb hd hf (mj_all_has h2.2.1) (by rw [h2.1]; exact hn) rfl (fun ls2 h9 => k ad H locs ls2 _ ⟨h1, mj_st2_lv h2 (v := .inr (.inl x)) ⟨z, rfl, hz⟩ h9, h3a, h4⟩)
theorem g_astore (hx : p.tables.exec = Jvm.exec) (hb : c.code = cc) {j : Nat} {x : Nat} (hn : j < lv.length) (hd : decode cc pc = .ok (.astore j, 2)) (k : mj_Go G p l e R s m args below meth c Q n0 ad0 (pc + 2) (mj_st1 lv j (.inr (.inr x))) st n σ) : mj_Go G p l e R s m args below meth c Q n0 ad0 pc lv (.inr (.inr x) :: st) n σ := by
  intro ad H locs ls st2 h
  obtain ⟨h1, h2, h3, h4⟩ := h
  obtain ⟨w, r, rfl, hv, h3a⟩ := h3.r
  rcases id hv with ⟨e1, rfl⟩ | ⟨e1, e2, rfl⟩
  · exact lv_astoreN hx hb hd (mj_all_has h2.2.1) (by rw [h2.1]; exact hn) rfl (fun ls2 h9 => k ad H locs ls2 _ ⟨h1, mj_st1_lv h2 (v := .inr (.inr x)) hv h9, h3a, h4⟩)
  · exact lv_astore hx hb hd (mj_all_has h2.2.1) (by rw [h2.1]; exact hn) rfl (fun ls2 h9 => k ad H locs ls2 _ ⟨h1, mj_st1_lv h2 (v := .inr (.inr x)) hv h9, h3a, h4⟩)
theorem g_astoren (hx : p.tables.exec = Jvm.exec) (hb : c.code = cc) {f : Fin 4} {j : Nat} (hf : (f : Nat) = j) {x : Nat} (hn : j < lv.length) (hd : decode cc pc = .ok (.astore_n f, 1)) (k : mj_Go G p l e R s m args below meth c Q n0 ad0 (pc + 1) (mj_st1 lv j (.inr (.inr x))) st n σ) : mj_Go G p l e R s m args below meth c Q n0 ad0 pc lv (.inr (.inr x) :: st) n σ := by
  intro ad H locs ls st2 h
  obtain ⟨h1, h2, h3, h4⟩ := h
  obtain ⟨w, r, rfl, hv, h3a⟩ := h3.r
  rcases id hv with ⟨e1, rfl⟩ | ⟨e1, e2, rfl⟩
  · exact lv_astore_nN hx hb hd hf (mj_all_has h2.2.1) (by rw [h2.1]; exact hn) rfl (fun ls2 h9 => k ad H locs ls2 _ ⟨h1, mj_st1_lv h2 (v := .inr (.inr x)) hv h9, h3a, h4⟩)
  · exact lv_astore_n hx hb hd hf (mj_all_has h2.2.1) (by rw [h2.1]; exact hn) rfl (fun ls2 h9 => k ad H locs ls2 _ ⟨h1, mj_st1_lv h2 (v := .inr (.inr x)) hv h9, h3a, h4⟩)
theorem g_iinc (hx : p.tables.exec = Jvm.exec) (hb : c.code = cc) {j : Nat} {x v : Int} (hl : lv.getD j none = some (.inl x)) (hv : -32768 ≤ v ∧ v < 32768) (hd : decode cc pc = .ok (.iinc j v, 3)) (k : mj_Go G p l e R s m args below meth c Q n0 ad0 (pc + 3) (mj_st1 lv j (.inl (w32 (x + v)))) st n σ) : mj_Go G p l e R s m args below meth c Q n0 ad0 pc lv st n σ := by
  intro ad H locs ls st2 h
  obtain ⟨h1, h2, h3, h4⟩ := h
  obtain ⟨w, hw, hq⟩ := h2.get hl
  obtain ⟨z, rfl, hy⟩ := hq
  obtain ⟨i0, hi0⟩ := List.getElem?_of_mem (mj_all_in hw)
  exact lv_iinc (k := i0) hx hb hd (mj_all_has h2.2.1) hi0 rfl (h2.lt hl) rfl (fun ls2 h9 => k ad H locs ls2 _ ⟨h1, mj_st1_lv h2 (v := .inl (w32 (x + v))) ⟨_, rfl, by rw [mj_add, hy, Int32.toInt_ofInt_of_le (by omega) (by omega)]⟩ h9, h3, h4⟩)
theorem g_iadd (hx : p.tables.exec = Jvm.exec) (hb : c.code = cc) {x y : Int} (hd : decode cc pc = .ok (.iadd, 1)) (k : mj_Go G p l e R s m args below meth c Q n0 ad0 (pc + 1) lv (.inl (w32 (x + y)) :: st) n σ) : mj_Go G p l e R s m args below meth c Q n0 ad0 pc lv (.inl y :: .inl x :: st) n σ := by
  intro ad H locs ls st2 h
  obtain ⟨h1, h2, h3, h4⟩ := h
  obtain ⟨b, r, rfl, rfl, h3a⟩ := h3.i
  obtain ⟨a, r, rfl, rfl, h3b⟩ := h3a.i
  exact lv_iadd hx hb hd (k ad H locs ls _ ⟨h1, h2, ⟨⟨_, rfl, mj_add⟩, h3b⟩, h4⟩)
theorem g_isub (hx : p.tables.exec = Jvm.exec) (hb : c.code = cc) {x y : Int} (hd : decode cc pc = .ok (.isub, 1)) (k : mj_Go G p l e R s m args below meth c Q n0 ad0 (pc + 1) lv (.inl (w32 (x - y)) :: st) n σ) : mj_Go G p l e R s m args below meth c Q n0 ad0 pc lv (.inl y :: .inl x :: st) n σ := by
  intro ad H locs ls st2 h
  obtain ⟨h1, h2, h3, h4⟩ := h
  obtain ⟨b, r, rfl, rfl, h3a⟩ := h3.i
  obtain ⟨a, r, rfl, rfl, h3b⟩ := h3a.i
  exact lv_isub hx hb hd (k ad H locs ls _ ⟨h1, h2, ⟨⟨_, rfl, mj_sub⟩, h3b⟩, h4⟩)
theorem g_imul (hx : p.tables.exec = Jvm.exec) (hb : c.code = cc) {x y : Int} (hd : decode cc pc = .ok (.imul, 1)) (k : mj_Go G p l e R s m args below meth c Q n0 ad0 (pc + 1) lv (.inl (w32 (x * y)) :: st) n σ) : mj_Go G p l e R s m args below meth c Q n0 ad0 pc lv (.inl y :: .inl x :: st) n σ := by
  intro ad H locs ls st2 h
  obtain ⟨h1, h2, h3, h4⟩ := h
  obtain ⟨b, r, rfl, rfl, h3a⟩ := h3.i
  obtain ⟨a, r, rfl, rfl, h3b⟩ := h3a.i
  exact lv_imul hx hb hd (k ad H locs ls _ ⟨h1, h2, ⟨⟨_, rfl, mj_mul⟩, h3b⟩, h4⟩)
theorem g_idiv (hx : p.tables.exec = Jvm.exec) (hb : c.code = cc) {x y : Int} (hy : y ≠ 0) (hd : decode cc pc = .ok (.idiv, 1)) (k : mj_Go G p l e R s m args below meth c Q n0 ad0 (pc + 1) lv (.inl (w32 (x.tdiv y)) :: st) n σ) : mj_Go G p l e R s m args below meth c Q n0 ad0 pc lv (.inl y :: .inl x :: st) n σ := by
  intro ad H locs ls st2 h
  obtain ⟨h1, h2, h3, h4⟩ := h
  obtain ⟨b, r, rfl, rfl, h3a⟩ := h3.i
  obtain ⟨a, r, rfl, rfl, h3b⟩ := h3a.i
  exact lv_idiv hx hb hd (fun q => hy (by rw [q]; rfl)) (k ad H locs ls _ ⟨h1, h2, ⟨⟨_, rfl, mj_div⟩, h3b⟩, h4⟩)
theorem g_irem (hx : p.tables.exec = Jvm.exec) (hb : c.code = cc) {x y : Int} (hy : y ≠ 0) (hd : decode cc pc = .ok (.irem, 1)) (k : mj_Go G p l e R s m args below meth c Q n0 ad0 (pc + 1) lv (.inl (x.tmod y) :: st) n σ) : mj_Go G p l e R s m args below meth c Q n0 ad0 pc lv (.inl y :: .inl x :: st) n σ := by
  intro ad H locs ls st2 h
  obtain ⟨h1, h2, h3, h4⟩ := h
  obtain ⟨b, r, rfl, rfl, h3a⟩ := h3.i
  obtain ⟨a, r, rfl, rfl, h3b⟩ := h3a.i
  exact lv_irem hx hb hd (fun q => hy (by rw [q]; rfl)) (k ad H locs ls _ ⟨h1, h2, ⟨⟨_, rfl, mj_rem⟩, h3b⟩, h4⟩)
theorem g_iand (hx : p.tables.exec = Jvm.exec) (hb : c.code = cc) {x y : Int} (hd : decode cc pc = .ok (.iand, 1)) (k : mj_Go G p l e R s m args below meth c Q n0 ad0 (pc + 1) lv (.inl (i_and x y) :: st) n σ) : mj_Go G p l e R s m args below meth c Q n0 ad0 pc lv (.inl y :: .inl x :: st) n σ := by
  intro ad H locs ls st2 h
  obtain ⟨h1, h2, h3, h4⟩ := h
  obtain ⟨b, r, rfl, rfl, h3a⟩ := h3.i
  obtain ⟨a, r, rfl, rfl, h3b⟩ := h3a.i
  exact lv_iand hx hb hd (k ad H locs ls _ ⟨h1, h2, ⟨⟨_, rfl, by unfold i_and; rw [mj_of, mj_of]⟩, h3b⟩, h4⟩)
theorem g_ior (hx : p.tables.exec = Jvm.exec) (hb : c.code = cc) {x y : Int} (hd : decode cc pc = .ok (.ior, 1)) (k : mj_Go G p l e R s m args below meth c Q n0 ad0 (pc + 1) lv (.inl (i_or x y) :: st) n σ) : mj_Go G p l e R s m args below meth c Q n0 ad0 pc lv (.inl y :: .inl x :: st) n σ := by
  intro ad H locs ls st2 h
  obtain ⟨h1, h2, h3, h4⟩ := h
  obtain ⟨b, r, rfl, rfl, h3a⟩ := h3.i
  obtain ⟨a, r, rfl, rfl, h3b⟩ := h3a.i
  exact lv_ior hx hb hd (k ad H locs ls _ ⟨h1, h2, ⟨⟨_, rfl, by unfold i_or; rw [mj_of, mj_of]⟩, h3b⟩, h4⟩)
theorem g_ixor (hx : p.tables.exec = Jvm.exec) (hb : c.code = cc) {x y : Int} (hd : decode cc pc = .ok (.ixor, 1)) (k : mj_Go G p l e R s m args below meth c Q n0 ad0 (pc + 1) lv (.inl (i_xor x y) :: st) n σ) : mj_Go G p l e R s m args below meth c Q n0 ad0 pc lv (.inl y :: .inl x :: st) n σ := by
  intro ad H locs ls st2 h
  obtain ⟨h1, h2, h3, h4⟩ := h
  obtain ⟨b, r, rfl, rfl, h3a⟩ := h3.i
  obtain ⟨a, r, rfl, rfl, h3b⟩ := h3a.i
  exact lv_ixor hx hb hd (k ad H locs ls _ ⟨h1, h2, ⟨⟨_, rfl, by unfold i_xor; rw [mj_of, mj_of]⟩, h3b⟩, h4⟩)
theorem g_ishl (hx : p.tables.exec = Jvm.exec) (hb : c.code = cc) {x y : Int} (hd : decode cc pc = .ok (.ishl, 1)) (k : mj_Go G p l e R s m args below meth c Q n0 ad0 (pc + 1) lv (.inl (i_shl x y) :: st) n σ) : mj_Go G p l e R s m args below meth c Q n0 ad0 pc lv (.inl y :: .inl x :: st) n σ := by
  intro ad H locs ls st2 h
  obtain ⟨h1, h2, h3, h4⟩ := h
  obtain ⟨b, r, rfl, rfl, h3a⟩ := h3.i
  obtain ⟨a, r, rfl, rfl, h3b⟩ := h3a.i
  exact lv_ishl hx hb hd (k ad H locs ls _ ⟨h1, h2, ⟨⟨_, rfl, by unfold i_shl; rw [mj_of, mj_of]⟩, h3b⟩, h4⟩)
theorem g_ishr (hx : p.tables.exec = Jvm.exec) (hb : c.code = cc) {x y : Int} (hd : decode cc pc = .ok (.ishr, 1)) (k : mj_Go G p l e R s m args below meth c Q n0 ad0 (pc + 1) lv (.inl (i_shr x y) :: st) n σ) : mj_Go G p l e R s m args below meth c Q n0 ad0 pc lv (.inl y :: .inl x :: st) n σ := by
  intro ad H locs ls st2 h
  obtain ⟨h1, h2, h3, h4⟩ := h
  obtain ⟨b, r, rfl, rfl, h3a⟩ := h3.i
  obtain ⟨a, r, rfl, rfl, h3b⟩ := h3a.i
  exact lv_ishr hx hb hd (k ad H locs ls _ ⟨h1, h2, ⟨⟨_, rfl, by unfold i_shr; rw [mj_of, mj_of]⟩, h3b⟩, h4⟩)
theorem g_iushr (hx : p.tables.exec = Jvm.exec) (hb : c.code = cc) {x y : Int} (hd : decode cc pc = .ok (.iushr, 1)) (k : mj_Go G p l e R s m args below meth c Q n0 ad0 (pc + 1) lv (.inl (i_ushr x y) :: st) n σ) : mj_Go G p l e R s m args below meth c Q n0 ad0 pc lv (.inl y :: .inl x :: st) n σ := by
  intro ad H locs ls st2 h
  obtain ⟨h1, h2, h3, h4⟩ := h
  obtain ⟨b, r, rfl, rfl, h3a⟩ := h3.i
  obtain ⟨a, r, rfl, rfl, h3b⟩ := h3a.i
  exact lv_iushr hx hb hd rfl (k ad H locs ls _ ⟨h1, h2, ⟨⟨_, rfl, by unfold i_ushr; rw [mj_of, mj_of]⟩, h3b⟩, h4⟩)
theorem g_ladd (hx : p.tables.exec = Jvm.exec) (hb : c.code = cc) {x y : Int} (hd : decode cc pc = .ok (.ladd, 1)) (k : mj_Go G p l e R s m args below meth c Q n0 ad0 (pc + 1) lv (.inr (.inl (w64 (x + y))) :: st) n σ) : mj_Go G p l e R s m args below meth c Q n0 ad0 pc lv (.inr (.inl y) :: .inr (.inl x) :: st) n σ := by
  intro ad H locs ls st2 h
  obtain ⟨h1, h2, h3, h4⟩ := h
  obtain ⟨b, r, rfl, rfl, h3a⟩ := h3.l
  obtain ⟨a, r, rfl, rfl, h3b⟩ := h3a.l
  exact lv_ladd hx hb hd (k ad H locs ls _ ⟨h1, h2, ⟨⟨_, rfl, mj_addL⟩, h3b⟩, h4⟩)
theorem g_lsub (hx : p.tables.exec = Jvm.exec) (hb : c.code = cc) {x y : Int} (hd : decode cc pc = .ok (.lsub, 1)) (k : mj_Go G p l e R s m args below meth c Q n0 ad0 (pc + 1) lv (.inr (.inl (w64 (x - y))) :: st) n σ) : mj_Go G p l e R s m args below meth c Q n0 ad0 pc lv (.inr (.inl y) :: .inr (.inl x) :: st) n σ := by
  intro ad H locs ls st2 h
  obtain ⟨h1, h2, h3, h4⟩ := h
  obtain ⟨b, r, rfl, rfl, h3a⟩ := h3.l
  obtain ⟨a, r, rfl, rfl, h3b⟩ := h3a.l
  exact lv_lsub hx hb hd (k ad H locs ls _ ⟨h1, h2, ⟨⟨_, rfl, mj_subL⟩, h3b⟩, h4⟩)
theorem g_lmul (hx : p.tables.exec = Jvm.exec) (hb : c.code = cc) {x y : Int} (hd : decode cc pc = .ok (.lmul, 1)) (k : mj_Go G p l e R s m args below meth c Q n0 ad0 (pc + 1) lv (.inr (.inl (w64 (x * y))) :: st) n σ) : mj_Go G p l e R s m args below meth c Q n0 ad0 pc lv (.inr (.inl y) :: .inr (.inl x) :: st) n σ := by
  intro ad H locs ls st2 h
  obtain ⟨h1, h2, h3, h4⟩ := h
  obtain ⟨b, r, rfl, rfl, h3a⟩ := h3.l
  obtain ⟨a, r, rfl, rfl, h3b⟩ := h3a.l
  exact lv_lmul hx hb hd (k ad H locs ls _ ⟨h1, h2, ⟨⟨_, rfl, mj_mulL⟩, h3b⟩, h4⟩)
theorem g_ldiv (hx : p.tables.exec = Jvm.exec) (hb : c.code = cc) {x y : Int} (hy : y ≠ 0) (hd : decode cc pc = .ok (.ldiv, 1)) (k : mj_Go G p l e R s m args below meth c Q n0 ad0 (pc + 1) lv (.inr (.inl (w64 (x.tdiv y))) :: st) n σ) : mj_Go G p l e R s m args below meth c Q n0 ad0 pc lv (.inr (.inl y) :: .inr (.inl x) :: st) n σ := by
  intro ad H locs ls st2 h
  obtain ⟨h1, h2, h3, h4⟩ := h
  obtain ⟨b, r, rfl, rfl, h3a⟩ := h3.l
  obtain ⟨a, r, rfl, rfl, h3b⟩ := h3a.l
  exact lv_ldiv hx hb hd (fun q => hy (by rw [q]; rfl)) (k ad H locs ls _ ⟨h1, h2, ⟨⟨_, rfl, mj_divL⟩, h3b⟩, h4⟩)
theorem g_lrem (hx : p.tables.exec = Jvm.exec) (hb : c.code = cc) {x y : Int} (hy : y ≠ 0) (hd : decode cc pc = .ok (.lrem, 1)) (k : mj_Go G p l e R s m args below meth c Q n0 ad0 (pc + 1) lv (.inr (.inl (x.tmod y)) :: st) n σ) : mj_Go G p l e R s m args below meth c Q n0 ad0 pc lv (.inr (.inl y) :: .inr (.inl x) :: st) n σ := by
  intro ad H locs ls st2 h
  obtain ⟨h1, h2, h3, h4⟩ := h
  obtain ⟨b, r, rfl, rfl, h3a⟩ := h3.l
  obtain ⟨a, r, rfl, rfl, h3b⟩ := h3a.l
  exact lv_lrem hx hb hd (fun q => hy (by rw [q]; rfl)) (k ad H locs ls _ ⟨h1, h2, ⟨⟨_, rfl, mj_remL⟩, h3b⟩, h4⟩)
theorem g_land (hx : p.tables.exec = Jvm.exec) (hb : c.code = cc) {x y : Int} (hd : decode cc pc = .ok (.land, 1)) (k : mj_Go G p l e R s m args below meth c Q n0 ad0 (pc + 1) lv (.inr (.inl (l_and x y)) :: st) n σ) : mj_Go G p l e R s m args below meth c Q n0 ad0 pc lv (.inr (.inl y) :: .inr (.inl x) :: st) n σ := by
  intro ad H locs ls st2 h
  obtain ⟨h1, h2, h3, h4⟩ := h
  obtain ⟨b, r, rfl, rfl, h3a⟩ := h3.l
  obtain ⟨a, r, rfl, rfl, h3b⟩ := h3a.l
  exact lv_land hx hb hd (k ad H locs ls _ ⟨h1, h2, ⟨⟨_, rfl, by unfold l_and; rw [mj_ofL, mj_ofL]⟩, h3b⟩, h4⟩)
theorem g_lor (hx : p.tables.exec = Jvm.exec) (hb : c.code = cc) {x y : Int} (hd : decode cc pc = .ok (.lor, 1)) (k : mj_Go G p l e R s m args below meth c Q n0 ad0 (pc + 1) lv (.inr (.inl (l_or x y)) :: st) n σ) : mj_Go G p l e R s m args below meth c Q n0 ad0 pc lv (.inr (.inl y) :: .inr (.inl x) :: st) n σ := by
  intro ad H locs ls st2 h
  obtain ⟨h1, h2, h3, h4⟩ := h
  obtain ⟨b, r, rfl, rfl, h3a⟩ := h3.l
  obtain ⟨a, r, rfl, rfl, h3b⟩ := h3a.l
  exact lv_lor hx hb hd (k ad H locs ls _ ⟨h1, h2, ⟨⟨_, rfl, by unfold l_or; rw [mj_ofL, mj_ofL]⟩, h3b⟩, h4⟩)
theorem g_lshl (hx : p.tables.exec = Jvm.exec) (hb : c.code = cc) {x y : Int} (hd : decode cc pc = .ok (.lshl, 1)) (k : mj_Go G p l e R s m args below meth c Q n0 ad0 (pc + 1) lv (.inr (.inl (l_shl x y)) :: st) n σ) : mj_Go G p l e R s m args below meth c Q n0 ad0 pc lv (.inl y :: .inr (.inl x) :: st) n σ := by
  intro ad H locs ls st2 h
  obtain ⟨h1, h2, h3, h4⟩ := h
  obtain ⟨b, r, rfl, rfl, h3a⟩ := h3.i
  obtain ⟨a, r, rfl, rfl, h3b⟩ := h3a.l
  exact lv_lshl hx hb hd rfl (k ad H locs ls _ ⟨h1, h2, ⟨⟨_, rfl, by unfold l_shl; rw [mj_ofL, mj_of]⟩, h3b⟩, h4⟩)
theorem g_lshr (hx : p.tables.exec = Jvm.exec) (hb : c.code = cc) {x y : Int} (hd : decode cc pc = .ok (.lshr, 1)) (k : mj_Go G p l e R s m args below meth c Q n0 ad0 (pc + 1) lv (.inr (.inl (l_shr x y)) :: st) n σ) : mj_Go G p l e R s m args below meth c Q n0 ad0 pc lv (.inl y :: .inr (.inl x) :: st) n σ := by
  intro ad H locs ls st2 h
  obtain ⟨h1, h2, h3, h4⟩ := h
  obtain ⟨b, r, rfl, rfl, h3a⟩ := h3.i
  obtain ⟨a, r, rfl, rfl, h3b⟩ := h3a.l
  exact lv_lshr hx hb hd rfl (k ad H locs ls _ ⟨h1, h2, ⟨⟨_, rfl, by unfold l_shr; rw [mj_ofL, mj_of]⟩, h3b⟩, h4⟩)
theorem g_lcmp (hx : p.tables.exec = Jvm.exec) (hb : c.code = cc) {x y : Int} (hd : decode cc pc = .ok (.lcmp, 1)) (k : mj_Go G p l e R s m args below meth c Q n0 ad0 (pc + 1) lv (.inl (l_cmp x y) :: st) n σ) : mj_Go G p l e R s m args below meth c Q n0 ad0 pc lv (.inr (.inl y) :: .inr (.inl x) :: st) n σ := by
  intro ad H locs ls st2 h
  obtain ⟨h1, h2, h3, h4⟩ := h
  obtain ⟨b, r, rfl, rfl, h3a⟩ := h3.l
  obtain ⟨a, r, rfl, rfl, h3b⟩ := h3a.l
  refine W.lcmp hx hb hd (k ad H locs ls _ ⟨h1, h2, ⟨⟨_, rfl, ?_⟩, h3b⟩, h4⟩)
  unfold lg_cmp l_cmp
  simp only [gt_iff_lt, mj_ltL, mj_eqL]
  rcases Int.lt_trichotomy a.toInt b.toInt with q | q | q
  · rw [if_neg (by omega), if_neg (by omega), if_pos q]; rfl
  · rw [if_neg (by omega), if_pos q, if_neg (by omega), if_pos q]; rfl
  · rw [if_pos q, if_neg (by omega), if_neg (by omega)]; rfl
theorem g_i2l (hx : p.tables.exec = Jvm.exec) (hb : c.code = cc) {x : Int} (hd : decode cc pc = .ok (.i2l, 1)) (k : mj_Go G p l e R s m args below meth c Q n0 ad0 (pc + 1) lv (.inr (.inl x) :: st) n σ) : mj_Go G p l e R s m args below meth c Q n0 ad0 pc lv (.inl x :: st) n σ := by
  intro ad H locs ls st2 h
  obtain ⟨h1, h2, h3, h4⟩ := h
  obtain ⟨a, r, rfl, rfl, h3a⟩ := h3.i
  exact lv_i2l hx hb hd rfl (k ad H locs ls _ ⟨h1, h2, ⟨⟨_, rfl, Int32.toInt_toInt64 a⟩, h3a⟩, h4⟩)
theorem g_l2i (hx : p.tables.exec = Jvm.exec) (hb : c.code = cc) {x : Int} (hd : decode cc pc = .ok (.l2i, 1)) (k : mj_Go G p l e R s m args below meth c Q n0 ad0 (pc + 1) lv (.inl (w32 x) :: st) n σ) : mj_Go G p l e R s m args below meth c Q n0 ad0 pc lv (.inr (.inl x) :: st) n σ := by
  intro ad H locs ls st2 h
  obtain ⟨h1, h2, h3, h4⟩ := h
  obtain ⟨a, r, rfl, rfl, h3a⟩ := h3.l
  exact lv_l2i hx hb hd rfl (k ad H locs ls _ ⟨h1, h2, ⟨⟨_, rfl, Int64.toInt_toInt32 a⟩, h3a⟩, h4⟩)
theorem mj_ss.one {ad : Nat → Nat} {n : Nat} {v : mV} {st : List mV} {st2 : List Value} (h : mj_ss ad n (v :: st) st2) : ∃ w r, st2 = w :: r ∧ mj_v ad n v w ∧ mj_ss ad n st r := by
  cases st2 with
  | nil => exact h.elim
  | cons w r => exact ⟨w, r, rfl, h.1, h.2⟩
theorem g_dup (hx : p.tables.exec = Jvm.exec) (hb : c.code = cc) {v : mV} (hv : mj_cat v = 1) (hd : decode cc pc = .ok (.dup, 1)) (k : mj_Go G p l e R s m args below meth c Q n0 ad0 (pc + 1) lv (v :: v :: st) n σ) : mj_Go G p l e R s m args below meth c Q n0 ad0 pc lv (v :: st) n σ := by
  intro ad H locs ls st2 h
  obtain ⟨h1, h2, h3, h4⟩ := h
  obtain ⟨w, r, rfl, hw, h3a⟩ := h3.one
  exact lv_dup hx hb hd ((mj_v_cat hw).trans hv) (k ad H locs ls _ ⟨h1, h2, ⟨hw, hw, h3a⟩, h4⟩)
theorem g_pop (hx : p.tables.exec = Jvm.exec) (hb : c.code = cc) {v : mV} (hv : mj_cat v = 1) (hd : decode cc pc = .ok (.pop, 1)) (k : mj_Go G p l e R s m args below meth c Q n0 ad0 (pc + 1) lv st n σ) : mj_Go G p l e R s m args below meth c Q n0 ad0 pc lv (v :: st) n σ := by
  intro ad H locs ls st2 h
  obtain ⟨h1, h2, h3, h4⟩ := h
  obtain ⟨w, r, rfl, hw, h3a⟩ := h3.one
  exact lv_pop hx hb hd ((mj_v_cat hw).trans hv) (k ad H locs ls _ ⟨h1, h2, h3a, h4⟩)
theorem g_dup2 (hx : p.tables.exec = Jvm.exec) (hb : c.code = cc) {v u : mV} (hv : mj_cat v = 1) (hu : mj_cat u = 1) (hd : decode cc pc = .ok (.dup2, 1)) (k : mj_Go G p l e R s m args below meth c Q n0 ad0 (pc + 1) lv (v :: u :: v :: u :: st) n σ) : mj_Go G p l e R s m args below meth c Q n0 ad0 pc lv (v :: u :: st) n σ := by
  intro ad H locs ls st2 h
  obtain ⟨h1, h2, h3, h4⟩ := h
  obtain ⟨w, r, rfl, hw, h3a⟩ := h3.one
  obtain ⟨w2, r, rfl, hw2, h3b⟩ := h3a.one
  exact lv_dup2_11 hx hb hd ((mj_v_cat hw).trans hv) ((mj_v_cat hw2).trans hu) (k ad H locs ls _ ⟨h1, h2, ⟨hw, hw2, hw, hw2, h3b⟩, h4⟩)
theorem g_dup22 (hx : p.tables.exec = Jvm.exec) (hb : c.code = cc) {v : mV} (hv : mj_cat v = 2) (hd : decode cc pc = .ok (.dup2, 1)) (k : mj_Go G p l e R s m args below meth c Q n0 ad0 (pc + 1) lv (v :: v :: st) n σ) : mj_Go G p l e R s m args below meth c Q n0 ad0 pc lv (v :: st) n σ := by
  intro ad H locs ls st2 h
  obtain ⟨h1, h2, h3, h4⟩ := h
  obtain ⟨w, r, rfl, hw, h3a⟩ := h3.one
  exact lv_dup2_2 hx hb hd ((mj_v_cat hw).trans hv) (k ad H locs ls _ ⟨h1, h2, ⟨hw, hw, h3a⟩, h4⟩)
theorem g_goto (hx : p.tables.exec = Jvm.exec) (hb : c.code = cc) {off : Int} {tgt : Nat} (ht : (pc : Int) + off = (tgt : Int)) (hd : decode cc pc = .ok (.goto off, 3)) (k : mj_Go G p l e R s m args below meth c Q n0 ad0 tgt lv st n σ) : mj_Go G p l e R s m args below meth c Q n0 ad0 pc lv st n σ := by
  intro ad H locs ls st2 h
  obtain ⟨h1, h2, h3, h4⟩ := h
  exact lv_goto hx hb hd ht (k ad H locs ls _ ⟨h1, h2, h3, h4⟩)
end
