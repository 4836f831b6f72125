theorem mj_shp_small (q : Nat) : (mj_shp q).2 < 2147483648 := by
  by_cases h : q < 218
  · exact (show ∀ q, q < 218 → (mj_shp q).2 < 2147483648 by decide +kernel) q h
  · have e : Nat.blt q 218 = false := by rw [Bool.eq_false_iff]; exact fun z => h (Nat.blt_eq.mp z)
    unfold mj_shp
    rw [e]
    show 0 < 2147483648
    omega
theorem mj_narC {x : Int32} (h : 0 ≤ x.toInt ∧ x.toInt < 65536) : vp_nar .char x = x := by
  obtain ⟨q, hq⟩ : ∃ q : Nat, x.toInt = q := ⟨x.toInt.toNat, by omega⟩
  have e : x = nI q := by apply mj_inj; rw [nI_toInt (by omega)]; exact hq
  have hq2 : q < 65536 := by omega
  rw [e]
  unfold vp_nar
  rw [(pk_charN hq2).1]
theorem mj_narZ {x : Int32} (h : x.toInt = 0 ∨ x.toInt = 1) : vp_nar .boolean x = x := by
  have e : x = 0 ∨ x = 1 := by
    rcases h with h | h
    · exact Or.inl (mj_inj h)
    · exact Or.inr (mj_inj h)
  rcases e with rfl | rfl <;> rfl
section
variable {G : mG} {p : Program} {l : Launch} {e : Env} {R : Room} {s : State} {m : MethodId} {args : Array Value} {below : List Frame} {meth : Method} {c : Code} {Q : State → Prop} {n0 : Nat} {ad0 : Nat → Nat} {cc : ByteArray} {pc : Nat} {lv : mL} {st : List mV} {n : Nat} {σ : mM} {own : String}
theorem g_iald (hx : p.tables.exec = Jvm.exec) (hb : c.code = cc) (hK : va_K G.1 vwCl (mj_tys G.2.1) s) {j : Int} {q : Nat} (hq : mj_is n q 20 = true) (hj : 0 ≤ j ∧ j < (mj_shp q).2) (hd : decode cc pc = .ok (.iaload, 1)) (k : mj_Go G p l e R s m args below meth c Q n0 ad0 (pc + 1) lv (.inl (σ q j.toNat) :: st) n σ) : mj_Go G p l e R s m args below meth c Q n0 ad0 pc lv (.inl j :: .inr (.inr q) :: st) n σ := by
  intro ad H locs ls st2 hA
  obtain ⟨h1, h2, h3, h4⟩ := hA
  obtain ⟨zj, r1, rfl, ej, h3a⟩ := h3.i
  obtain ⟨wq, r2, rfl, vq, h3b⟩ := h3a.r
  obtain ⟨ws, E, hP, hD, hE, he, hset⟩ := h1.at hq
  have hlt := (mj_is_iff hq).1
  have hle := h1.le
  have hw2 := vq.ref (by omega)
  subst hw2
  rw [mj_e20] at he
  obtain ⟨g, rfl, hg⟩ := he
  exact va_iald hx hb hK hP q 0 hE rfl (mj_vpin ej hj) hd (k ad H locs ls _ ⟨h1, h2, ⟨⟨_, rfl, by rw [mj_clamp ej]; exact hg _ (by omega)⟩, h3b⟩, h4⟩)
theorem g_cald (hx : p.tables.exec = Jvm.exec) (hb : c.code = cc) (hK : va_K G.1 vwCl (mj_tys G.2.1) s) {j : Int} {q : Nat} (hq : mj_is n q 22 = true) (hj : 0 ≤ j ∧ j < (mj_shp q).2) (hd : decode cc pc = .ok (.caload, 1)) (k : mj_Go G p l e R s m args below meth c Q n0 ad0 (pc + 1) lv (.inl (σ q j.toNat) :: st) n σ) : mj_Go G p l e R s m args below meth c Q n0 ad0 pc lv (.inl j :: .inr (.inr q) :: st) n σ := by
  intro ad H locs ls st2 hA
  obtain ⟨h1, h2, h3, h4⟩ := hA
  obtain ⟨zj, r1, rfl, ej, h3a⟩ := h3.i
  obtain ⟨wq, r2, rfl, vq, h3b⟩ := h3a.r
  obtain ⟨ws, E, hP, hD, hE, he, hset⟩ := h1.at hq
  have hlt := (mj_is_iff hq).1
  have hle := h1.le
  have hw2 := vq.ref (by omega)
  subst hw2
  rw [mj_e22] at he
  obtain ⟨g, rfl, hg⟩ := he
  exact va_cald hx hb hK hP q 2 hE rfl (mj_vpin ej hj) hd (k ad H locs ls _ ⟨h1, h2, ⟨⟨_, rfl, by rw [mj_clamp ej]; exact hg _ (by omega)⟩, h3b⟩, h4⟩)
theorem g_zald (hx : p.tables.exec = Jvm.exec) (hb : c.code = cc) (hK : va_K G.1 vwCl (mj_tys G.2.1) s) {j : Int} {q : Nat} (hq : mj_is n q 23 = true) (hj : 0 ≤ j ∧ j < (mj_shp q).2) (hd : decode cc pc = .ok (.baload, 1)) (k : mj_Go G p l e R s m args below meth c Q n0 ad0 (pc + 1) lv (.inl (σ q j.toNat) :: st) n σ) : mj_Go G p l e R s m args below meth c Q n0 ad0 pc lv (.inl j :: .inr (.inr q) :: st) n σ := by
  intro ad H locs ls st2 hA
  obtain ⟨h1, h2, h3, h4⟩ := hA
  obtain ⟨zj, r1, rfl, ej, h3a⟩ := h3.i
  obtain ⟨wq, r2, rfl, vq, h3b⟩ := h3a.r
  obtain ⟨ws, E, hP, hD, hE, he, hset⟩ := h1.at hq
  have hlt := (mj_is_iff hq).1
  have hle := h1.le
  have hw2 := vq.ref (by omega)
  subst hw2
  rw [mj_e23] at he
  obtain ⟨g, rfl, hg⟩ := he
  exact va_zald hx hb hK hP q 3 hE rfl (mj_vpin ej hj) hd (k ad H locs ls _ ⟨h1, h2, ⟨⟨_, rfl, by rw [mj_clamp ej]; exact hg _ (by omega)⟩, h3b⟩, h4⟩)
theorem g_lald (hx : p.tables.exec = Jvm.exec) (hb : c.code = cc) (hK : va_K G.1 vwCl (mj_tys G.2.1) s) {j : Int} {q : Nat} (hq : mj_is n q 21 = true) (hj : 0 ≤ j ∧ j < (mj_shp q).2) (hd : decode cc pc = .ok (.laload, 1)) (k : mj_Go G p l e R s m args below meth c Q n0 ad0 (pc + 1) lv (.inr (.inl (σ q j.toNat)) :: st) n σ) : mj_Go G p l e R s m args below meth c Q n0 ad0 pc lv (.inl j :: .inr (.inr q) :: st) n σ := by
  intro ad H locs ls st2 hA
  obtain ⟨h1, h2, h3, h4⟩ := hA
  obtain ⟨zj, r1, rfl, ej, h3a⟩ := h3.i
  obtain ⟨wq, r2, rfl, vq, h3b⟩ := h3a.r
  obtain ⟨ws, E, hP, hD, hE, he, hset⟩ := h1.at hq
  have hlt := (mj_is_iff hq).1
  have hle := h1.le
  have hw2 := vq.ref (by omega)
  subst hw2
  rw [mj_e21] at he
  obtain ⟨g, rfl, hg⟩ := he
  exact va_lald hx hb hK hP q 1 hE rfl (mj_vpin ej hj) hd (k ad H locs ls _ ⟨h1, h2, ⟨⟨_, rfl, by rw [mj_clamp ej]; exact hg _ (by omega)⟩, h3b⟩, h4⟩)
theorem g_aald24 (hx : p.tables.exec = Jvm.exec) (hb : c.code = cc) (hK : va_K G.1 vwCl (mj_tys G.2.1) s) {j : Int} {q : Nat} (hq : mj_is n q 24 = true) (hj : 0 ≤ j ∧ j < (mj_shp q).2) (hd : decode cc pc = .ok (.aaload, 1)) (k : mj_Go G p l e R s m args below meth c Q n0 ad0 (pc + 1) lv (.inr (.inr (σ q j.toNat).toNat) :: st) n σ) : mj_Go G p l e R s m args below meth c Q n0 ad0 pc lv (.inl j :: .inr (.inr q) :: st) n σ := by
  intro ad H locs ls st2 hA
  obtain ⟨h1, h2, h3, h4⟩ := hA
  obtain ⟨zj, r1, rfl, ej, h3a⟩ := h3.i
  obtain ⟨wq, r2, rfl, vq, h3b⟩ := h3a.r
  obtain ⟨ws, E, hP, hD, hE, he, hset⟩ := h1.at hq
  have hlt := (mj_is_iff hq).1
  have hle := h1.le
  have hw2 := vq.ref (by omega)
  subst hw2
  rw [mj_e24] at he
  obtain ⟨g, rfl, hg⟩ := he
  exact va_aldq hx hb hK hP q 4 hE rfl (mj_vpin ej hj) hd (k ad H locs ls _ ⟨h1, h2, ⟨by rw [mj_clamp ej]; exact hg _ (by omega), h3b⟩, h4⟩)
theorem g_aald25 (hx : p.tables.exec = Jvm.exec) (hb : c.code = cc) (hK : va_K G.1 vwCl (mj_tys G.2.1) s) {j : Int} {q : Nat} (hq : mj_is n q 25 = true) (hj : 0 ≤ j ∧ j < (mj_shp q).2) (hd : decode cc pc = .ok (.aaload, 1)) (k : mj_Go G p l e R s m args below meth c Q n0 ad0 (pc + 1) lv (.inr (.inr (σ q j.toNat).toNat) :: st) n σ) : mj_Go G p l e R s m args below meth c Q n0 ad0 pc lv (.inl j :: .inr (.inr q) :: st) n σ := by
  intro ad H locs ls st2 hA
  obtain ⟨h1, h2, h3, h4⟩ := hA
  obtain ⟨zj, r1, rfl, ej, h3a⟩ := h3.i
  obtain ⟨wq, r2, rfl, vq, h3b⟩ := h3a.r
  obtain ⟨ws, E, hP, hD, hE, he, hset⟩ := h1.at hq
  have hlt := (mj_is_iff hq).1
  have hle := h1.le
  have hw2 := vq.ref (by omega)
  subst hw2
  rw [mj_e25] at he
  obtain ⟨g, rfl, hg⟩ := he
  exact va_aldq hx hb hK hP q 5 hE rfl (mj_vpin ej hj) hd (k ad H locs ls _ ⟨h1, h2, ⟨by rw [mj_clamp ej]; exact hg _ (by omega), h3b⟩, h4⟩)
theorem g_iast (hx : p.tables.exec = Jvm.exec) (hb : c.code = cc) (hK : va_K G.1 vwCl (mj_tys G.2.1) s) {j x : Int} {q : Nat} (hq : mj_is n q 20 = true) (hj : 0 ≤ j ∧ j < (mj_shp q).2) (hd : decode cc pc = .ok (.iastore, 1)) (k : mj_Go G p l e R s m args below meth c Q n0 ad0 (pc + 1) lv st n (mj_set σ q j.toNat x)) : mj_Go G p l e R s m args below meth c Q n0 ad0 pc lv (.inl x :: .inl j :: .inr (.inr q) :: st) n σ := by
  intro ad H locs ls st2 hA
  obtain ⟨h1, h2, h3, h4⟩ := hA
  obtain ⟨zx, r1, rfl, ex, h3a⟩ := h3.i
  obtain ⟨zj, r2, rfl, ej, h3b⟩ := h3a.i
  obtain ⟨wq, r3, rfl, vq, h3c⟩ := h3b.r
  obtain ⟨ws, E, hP, hD, hE, he, hset⟩ := h1.at hq
  have hlt := (mj_is_iff hq).1
  have hle := h1.le
  have hw2 := vq.ref (by omega)
  subst hw2
  rw [mj_e20] at he
  obtain ⟨g, rfl, hg⟩ := he
  exact va_iast hx hb hK hP hD h4.1 q 0 hE rfl (mj_vpin ej hj) hd (fun H1 locs1 hP1 hD1 hS1 => k ad H1 locs1 ls _ ⟨hset H1 _ _ hP1 hD1 (by rw [mj_e20, mj_set_q, ← mj_clamp ej]; exact mj_eI.set hg ex) (mj_set_ne σ q _ x), h2, h3c, hS1, h4.2⟩)
theorem g_last (hx : p.tables.exec = Jvm.exec) (hb : c.code = cc) (hK : va_K G.1 vwCl (mj_tys G.2.1) s) {j x : Int} {q : Nat} (hq : mj_is n q 21 = true) (hj : 0 ≤ j ∧ j < (mj_shp q).2) (hd : decode cc pc = .ok (.lastore, 1)) (k : mj_Go G p l e R s m args below meth c Q n0 ad0 (pc + 1) lv st n (mj_set σ q j.toNat x)) : mj_Go G p l e R s m args below meth c Q n0 ad0 pc lv (.inr (.inl x) :: .inl j :: .inr (.inr q) :: st) n σ := by
  intro ad H locs ls st2 hA
  obtain ⟨h1, h2, h3, h4⟩ := hA
  obtain ⟨zx, r1, rfl, ex, h3a⟩ := h3.l
  obtain ⟨zj, r2, rfl, ej, h3b⟩ := h3a.i
  obtain ⟨wq, r3, rfl, vq, h3c⟩ := h3b.r
  obtain ⟨ws, E, hP, hD, hE, he, hset⟩ := h1.at hq
  have hlt := (mj_is_iff hq).1
  have hle := h1.le
  have hw2 := vq.ref (by omega)
  subst hw2
  rw [mj_e21] at he
  obtain ⟨g, rfl, hg⟩ := he
  exact va_last hx hb hK hP hD h4.1 q 1 hE rfl (mj_vpin ej hj) hd (fun H1 locs1 hP1 hD1 hS1 => k ad H1 locs1 ls _ ⟨hset H1 _ _ hP1 hD1 (by rw [mj_e21, mj_set_q, ← mj_clamp ej]; exact mj_eL.set hg ex) (mj_set_ne σ q _ x), h2, h3c, hS1, h4.2⟩)
theorem g_cast (hx : p.tables.exec = Jvm.exec) (hb : c.code = cc) (hK : va_K G.1 vwCl (mj_tys G.2.1) s) {j x : Int} {q : Nat} (hq : mj_is n q 22 = true) (hj : 0 ≤ j ∧ j < (mj_shp q).2) (hv : 0 ≤ x ∧ x < 65536) (hd : decode cc pc = .ok (.castore, 1)) (k : mj_Go G p l e R s m args below meth c Q n0 ad0 (pc + 1) lv st n (mj_set σ q j.toNat x)) : mj_Go G p l e R s m args below meth c Q n0 ad0 pc lv (.inl x :: .inl j :: .inr (.inr q) :: st) n σ := by
  intro ad H locs ls st2 hA
  obtain ⟨h1, h2, h3, h4⟩ := hA
  obtain ⟨zx, r1, rfl, ex, h3a⟩ := h3.i
  obtain ⟨zj, r2, rfl, ej, h3b⟩ := h3a.i
  obtain ⟨wq, r3, rfl, vq, h3c⟩ := h3b.r
  obtain ⟨ws, E, hP, hD, hE, he, hset⟩ := h1.at hq
  have hlt := (mj_is_iff hq).1
  have hle := h1.le
  have hw2 := vq.ref (by omega)
  subst hw2
  rw [mj_e22] at he
  obtain ⟨g, rfl, hg⟩ := he
  exact va_cast hx hb hK hP hD h4.1 q 2 hE rfl (mj_vpin ej hj) hd (fun H1 locs1 hP1 hD1 hS1 => k ad H1 locs1 ls _ ⟨hset H1 _ _ hP1 hD1 (by rw [mj_e22, mj_set_q, ← mj_clamp ej]; exact mj_eI.set hg (by rw [mj_narC (by rw [ex]; exact hv)]; exact ex)) (mj_set_ne σ q _ x), h2, h3c, hS1, h4.2⟩)
theorem g_zast (hx : p.tables.exec = Jvm.exec) (hb : c.code = cc) (hK : va_K G.1 vwCl (mj_tys G.2.1) s) {j x : Int} {q : Nat} (hq : mj_is n q 23 = true) (hj : 0 ≤ j ∧ j < (mj_shp q).2) (hv : x = 0 ∨ x = 1) (hd : decode cc pc = .ok (.bastore, 1)) (k : mj_Go G p l e R s m args below meth c Q n0 ad0 (pc + 1) lv st n (mj_set σ q j.toNat x)) : mj_Go G p l e R s m args below meth c Q n0 ad0 pc lv (.inl x :: .inl j :: .inr (.inr q) :: st) n σ := by
  intro ad H locs ls st2 hA
  obtain ⟨h1, h2, h3, h4⟩ := hA
  obtain ⟨zx, r1, rfl, ex, h3a⟩ := h3.i
  obtain ⟨zj, r2, rfl, ej, h3b⟩ := h3a.i
  obtain ⟨wq, r3, rfl, vq, h3c⟩ := h3b.r
  obtain ⟨ws, E, hP, hD, hE, he, hset⟩ := h1.at hq
  have hlt := (mj_is_iff hq).1
  have hle := h1.le
  have hw2 := vq.ref (by omega)
  subst hw2
  rw [mj_e23] at he
  obtain ⟨g, rfl, hg⟩ := he
  exact va_zast hx hb hK hP hD h4.1 q 3 hE rfl (mj_vpin ej hj) hd (fun H1 locs1 hP1 hD1 hS1 => k ad H1 locs1 ls _ ⟨hset H1 _ _ hP1 hD1 (by rw [mj_e23, mj_set_q, ← mj_clamp ej]; exact mj_eI.set hg (by rw [mj_narZ (by rw [ex]; exact hv)]; exact ex)) (mj_set_ne σ q _ x), h2, h3c, hS1, h4.2⟩)
theorem g_aast24 (hx : p.tables.exec = Jvm.exec) (hb : c.code = cc) (hK : va_K G.1 vwCl (mj_tys G.2.1) s) {j : Int} {q x : Nat} (hx7 : mj_is n x 7 = true) (hq : mj_is n q 24 = true) (hj : 0 ≤ j ∧ j < (mj_shp q).2) (hd : decode cc pc = .ok (.aastore, 1)) (k : mj_Go G p l e R s m args below meth c Q n0 ad0 (pc + 1) lv st n (mj_set σ q j.toNat (x : Int))) : mj_Go G p l e R s m args below meth c Q n0 ad0 pc lv (.inr (.inr x) :: .inl j :: .inr (.inr q) :: st) n σ := by
  intro ad H locs ls st2 hA
  obtain ⟨h1, h2, h3, h4⟩ := hA
  obtain ⟨wx, r1, rfl, vx, h3a⟩ := h3.r
  obtain ⟨zj, r2, rfl, ej, h3b⟩ := h3a.i
  obtain ⟨wq, r3, rfl, vq, h3c⟩ := h3b.r
  obtain ⟨ws, hP, hD, hl, hn, ha⟩ := id h1
  have hlx := (mj_is_iff hx7).1
  obtain ⟨Ex, hEx, hex⟩ := ha x hlx
  rw [(mj_is_iff hx7).2, mj_eO_of (by omega)] at hex
  obtain ⟨fx, rfl, -, -⟩ := hex
  have hlt := (mj_is_iff hq).1
  have hw2 := vq.ref (by omega)
  subst hw2
  have hw3 := vx.ref (by omega)
  subst hw3
  obtain ⟨E, hE, he⟩ := ha q hlt
  have hsz := (mj_is_iff hq).2
  rw [hsz, mj_e24] at he
  obtain ⟨g, rfl, hg⟩ := he
  refine va_astq hx hb hK hP hD h4.1 q 4 x 7 hE (r := (mj_R 7, mj_T 7, mj_N 7)) rfl hEx (mj_cl 7 (by omega)) (mj_vpin ej hj) hd (fun H1 locs1 hP1 hD1 hS1 => k ad H1 locs1 ls _ ⟨⟨_, hP1, hD1, by simpa using hl, hn, fun q' hq' => ?_⟩, h2, h3c, hS1, h4.2⟩)
  by_cases e9 : q' = q
  · subst e9
    exact ⟨_, by rw [List.getElem?_set_self (by omega)], by rw [hsz, mj_e24, mj_set_q, ← mj_clamp ej]; exact mj_eR.set hg vx⟩
  · obtain ⟨E2, i1, i2⟩ := ha q' hq'
    exact ⟨E2, by rw [List.getElem?_set_ne (fun z => e9 z.symm)]; exact i1, by rw [mj_set_ne _ _ _ _ _ e9]; exact i2⟩
theorem g_aast25 (hx : p.tables.exec = Jvm.exec) (hb : c.code = cc) (hK : va_K G.1 vwCl (mj_tys G.2.1) s) {j : Int} {q x : Nat} (hx7 : mj_is n x 2 = true) (hq : mj_is n q 25 = true) (hj : 0 ≤ j ∧ j < (mj_shp q).2) (hd : decode cc pc = .ok (.aastore, 1)) (k : mj_Go G p l e R s m args below meth c Q n0 ad0 (pc + 1) lv st n (mj_set σ q j.toNat (x : Int))) : mj_Go G p l e R s m args below meth c Q n0 ad0 pc lv (.inr (.inr x) :: .inl j :: .inr (.inr q) :: st) n σ := by
  intro ad H locs ls st2 hA
  obtain ⟨h1, h2, h3, h4⟩ := hA
  obtain ⟨wx, r1, rfl, vx, h3a⟩ := h3.r
  obtain ⟨zj, r2, rfl, ej, h3b⟩ := h3a.i
  obtain ⟨wq, r3, rfl, vq, h3c⟩ := h3b.r
  obtain ⟨ws, hP, hD, hl, hn, ha⟩ := id h1
  have hlx := (mj_is_iff hx7).1
  obtain ⟨Ex, hEx, hex⟩ := ha x hlx
  rw [(mj_is_iff hx7).2, mj_eO_of (by omega)] at hex
  obtain ⟨fx, rfl, -, -⟩ := hex
  have hlt := (mj_is_iff hq).1
  have hw2 := vq.ref (by omega)
  subst hw2
  have hw3 := vx.ref (by omega)
  subst hw3
  obtain ⟨E, hE, he⟩ := ha q hlt
  have hsz := (mj_is_iff hq).2
  rw [hsz, mj_e25] at he
  obtain ⟨g, rfl, hg⟩ := he
  refine va_astq hx hb hK hP hD h4.1 q 5 x 2 hE (r := (mj_R 2, mj_T 2, mj_N 2)) rfl hEx (mj_cl 2 (by omega)) (mj_vpin ej hj) hd (fun H1 locs1 hP1 hD1 hS1 => k ad H1 locs1 ls _ ⟨⟨_, hP1, hD1, by simpa using hl, hn, fun q' hq' => ?_⟩, h2, h3c, hS1, h4.2⟩)
  by_cases e9 : q' = q
  · subst e9
    exact ⟨_, by rw [List.getElem?_set_self (by omega)], by rw [hsz, mj_e25, mj_set_q, ← mj_clamp ej]; exact mj_eR.set hg vx⟩
  · obtain ⟨E2, i1, i2⟩ := ha q' hq'
    exact ⟨E2, by rw [List.getElem?_set_ne (fun z => e9 z.symm)]; exact i1, by rw [mj_set_ne _ _ _ _ _ e9]; exact i2⟩
theorem g_alen (hx : p.tables.exec = Jvm.exec) (hb : c.code = cc) (hK : va_K G.1 vwCl (mj_tys G.2.1) s) {q : Nat} (hq1 : q < n) (hq2 : 20 ≤ (mj_shp q).1) (hd : decode cc pc = .ok (.arraylength, 1)) (k : mj_Go G p l e R s m args below meth c Q n0 ad0 (pc + 1) lv (.inl ((mj_shp q).2 : Int) :: st) n σ) : mj_Go G p l e R s m args below meth c Q n0 ad0 pc lv (.inr (.inr q) :: st) n σ := by
  intro ad H locs ls st2 hA
  obtain ⟨h1, h2, h3, h4⟩ := hA
  obtain ⟨w, r, rfl, vq, h3a⟩ := h3.r
  obtain ⟨ws, hP, hD, hl, hn, ha⟩ := id h1
  have hw2 := vq.ref (by omega)
  subst hw2
  obtain ⟨E, hE, he⟩ := ha q hq1
  have hz : (mj_shp q).2 < 2147483648 := mj_shp_small q
  have e9 : (Int32.ofNat (mj_shp q).2).toInt = ((mj_shp q).2 : Int) := nI_toInt hz
  have kW := k ad H locs ls (.int (Int32.ofNat (mj_shp q).2) :: r) ⟨h1, h2, ⟨⟨_, rfl, e9⟩, h3a⟩, h4⟩
  unfold mj_e at he
  rw [if_neg (by omega)] at he
  split at he
  · obtain ⟨g, rfl, -⟩ := he; exact va_alen hx hb hK hP q 0 hE rfl rfl hd kW
  · split at he
    · obtain ⟨g, rfl, -⟩ := he; exact va_alen hx hb hK hP q 1 hE rfl rfl hd kW
    · split at he
      · obtain ⟨g, rfl, -⟩ := he; exact va_alen hx hb hK hP q 2 hE rfl rfl hd kW
      · split at he
        · obtain ⟨g, rfl, -⟩ := he; exact va_alen hx hb hK hP q 3 hE rfl rfl hd kW
        · split at he
          · obtain ⟨g, rfl, -⟩ := he; exact va_alen hx hb hK hP q 4 hE rfl rfl hd kW
          · split at he
            · obtain ⟨g, rfl, -⟩ := he; exact va_alen hx hb hK hP q 5 hE rfl rfl hd kW
            · exact he.elim
theorem g_sld (hx : p.tables.exec = Jvm.exec) (hb : c.code = cc) (hX : mj_X G s) {j : Int} (hj : 0 ≤ j ∧ j < (mj_sx G).1) (hd : decode cc pc = .ok (.iaload, 1)) (k : mj_Go G p l e R s m args below meth c Q n0 ad0 (pc + 1) lv (.inl ((mj_sx G).2 j.toNat).toInt :: st) n σ) : mj_Go G p l e R s m args below meth c Q n0 ad0 pc lv (.inl j :: .inr (.inr mj_SCR) :: st) n σ := by
  intro ad H locs ls st2 hA
  obtain ⟨h1, h2, h3, h4⟩ := hA
  obtain ⟨zj, r1, rfl, ej, h3a⟩ := h3.i
  obtain ⟨w, r, rfl, vq, h3b⟩ := h3a.r
  have hw2 := vq.ref (by decide)
  subst hw2
  rw [h4.2.2.2.1]
  obtain ⟨x1, x2, x3, x4, -⟩ := hX
  refine va_sld hx hb x1 (by omega) (by show ¬ _ ≤ _; omega) h4.1 (mj_vpin ej hj) hd (k ad H locs ls _ ⟨h1, h2, ⟨⟨_, rfl, by rw [mj_clamp ej]⟩, h3b⟩, h4⟩)
theorem g_slen (hx : p.tables.exec = Jvm.exec) (hb : c.code = cc) (hX : mj_X G s) (hd : decode cc pc = .ok (.arraylength, 1)) (k : mj_Go G p l e R s m args below meth c Q n0 ad0 (pc + 1) lv (.inl ((mj_sx G).1 : Int) :: st) n σ) : mj_Go G p l e R s m args below meth c Q n0 ad0 pc lv (.inr (.inr mj_SCR) :: st) n σ := by
  intro ad H locs ls st2 hA
  obtain ⟨h1, h2, h3, h4⟩ := hA
  obtain ⟨w, r, rfl, vq, h3b⟩ := h3.r
  have hw2 := vq.ref (by decide)
  subst hw2
  rw [h4.2.2.2.1]
  obtain ⟨x1, x2, x3, x4, -⟩ := hX
  refine va_slen hx hb x1 (by omega) (by show ¬ _ ≤ _; omega) h4.1 hd (k ad H locs ls _ ⟨h1, h2, ⟨⟨_, rfl, nI_toInt (by show G.2.2.1.2.1 < _; omega)⟩, h3b⟩, h4⟩)
end
