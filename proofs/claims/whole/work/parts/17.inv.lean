section
variable {G : mG} {p : Program} {l : Launch} {e : Env} {R : Room} {s : State} {m : MethodId} {args : Array Value} {below : List Frame} {meth : Method} {c : Code} {Q : State → Prop} {n0 : Nat} {ad0 : Nat → Nat} {cc : ByteArray} {pc : Nat} {lv : mL} {st : List mV} {n : Nat} {σ : mM} {own : String} {top : Nat}
theorem mj_SL_add {a b d : Nat} (h1 : a ≤ b) (h2 : b ≤ d) : mj_SL b - mj_SL a + (mj_SL d - mj_SL b) = mj_SL d - mj_SL a := by
  have i1 := mj_SL_mono h1
  have i2 := mj_SL_mono h2
  omega
/-- what is the same in every call -/
theorem mj_call_end {ad : Nat → Nat} {H : Heap} {locs : List Loc} {ls : Array Slot} {st0 r : List Value} {a : Array Value} {K : mK} {top' : Nat} {st2 : List mV} (h2 : mj_lv ad n lv ls) (h3 : mj_ss ad n st2 r) (h4 : va_S (mj_A G) s.heap H locs ∧ n0 ≤ n ∧ (∀ q, q < n0 ∨ mj_SPEC ≤ q → ad q = ad0 q) ∧ ad mj_SCR = G.2.2.1.1 ∧ ad mj_STR = G.2.2.2.2.1) (ht : n ≤ top')
    (hr : va_Run p l e R s m args below meth c H locs (n - n0) (mj_SL n - mj_SL n0) (top' - n) (mj_SL top' - mj_SL n) (F0 m pc ls st0) r (mj_Qc G n ad top' (fun r n' σ' => K r n' σ' ∧ n' = top') a) (mj_A G))
    (kk : ∀ (rv : Option mV) (σ' : mM), K rv top' σ' → mj_Go G p l e R s m args below meth c Q n0 ad0 (pc + 3) lv (rv.toList ++ st2) top' σ') : W p l e R s m args below meth c H locs (n - n0) (mj_SL n - mj_SL n0) Q (F0 m pc ls st0) := by
  refine mj_after hr h4.1 (fun rv σ' ad' v H1 locs1 hKr hm ha hov hS => ?_)
  have hk := kk rv σ' hKr.1 ad' H1 locs1 ls (v.toList ++ r) ⟨hm, h2.mono ha ht, mj_ss.app ?_ (h3.mono ha ht), hS, by have := h4.2.1; omega, fun q hq => by rw [ha q (by have := h4.2.1; omega)]; exact h4.2.2.1 q hq, by rw [ha _ (Or.inr (by decide))]; exact h4.2.2.2.1, by rw [ha _ (Or.inr (by decide))]; exact h4.2.2.2.2⟩
  · have e1 : n - n0 + (top' - n) = top' - n0 := by have := h4.2.1; omega
    rw [e1, mj_SL_add h4.2.1 ht]
    exact hk
  · match rv, v, hov with
    | none, none, _ => exact trivial
    | some rv, some v, h => exact ⟨h, trivial⟩
theorem mj_M.weaken {d y : Nat} {as : List mV} {top' : Nat} {K K' : mK} (h : mj_M d y as n top' σ K) (hK : ∀ r σ', K r top' σ' → K' r top' σ') : mj_M d y as n top' σ K' := by
  intro l G ad vs h1 h2 h3
  refine fun p e ha hc hk s m args below hf happ hP _ => ?_
  obtain ⟨t, o, i1, i2, i3, ⟨⟨r, σ', ad', v, j1, j2, j3⟩, i5⟩, i6⟩ := h l G ad vs h1 h2 h3 p e ha hc hk s m args below hf happ hP trivial
  exact ⟨t, o, i1, i2, i3, ⟨⟨r, σ', ad', v, j1, hK _ _ j2, j3⟩, i5⟩, i6⟩
/-- a call of an instance method -/
theorem g_callV {d k ci idx y : Nat} {f : List mV → List mV → Prop} {K : List mV → mK} (hx : p.tables.exec = Jvm.exec) (hb : c.code = cc) (hml : c.maxLocals = lv.length) (hts : ∀ w ∈ lw_g, w.before args s = true) (hown : s.vm.findClass own = some m.cls) (hK : va_K G.1 vwCl (mj_tys G.2.1) s) (hX : mj_X G s)
    (hR1 : d + 9 ≤ R.frames) (hR2 : 40 * (d + 9) ≤ R.locals) (hR3 : top - n0 ≤ R.cells) (hR4 : mj_SL top - mj_SL n0 ≤ R.slots) (hkd : mj_kd y = 0) (hk : k = mj_par y + 1) (hci : ci < 13) (hcn : (mj_nam y).cls = mj_R ci)
    (hl : y < 282 → (Cond.methodLink own idx (mj_nam y)).before args s = true) (hd : decode cc pc = .ok (.invokevirtual idx, 3))
    (h : mj_args k [] st f) (hf : ∀ as st2, f as st2 → mj_sum st2 ≤ 8 ∧ ∃ q as', as = .inr (.inr q) :: as' ∧ mj_is n q ci = true ∧ mj_cal d top y as n σ (K st2))
    (kk : ∀ (st2 : List mV) (rv : Option mV) (n' : Nat) (σ' : mM), n ≤ n' → n' ≤ top → K st2 rv n' σ' → mj_Go G p l e R s m args below meth c Q n0 ad0 (pc + 3) lv (rv.toList ++ st2) n' σ') : mj_Go G p l e R s m args below meth c Q n0 ad0 pc lv st n σ := by
  intro ad H locs ls st' hA
  obtain ⟨h1, h2, h3, h4⟩ := hA
  obtain ⟨as, st2, vs, r, hfa, g2, g3, g4, g5, g6⟩ := mj_args_iff k [] st [] st' h trivial h3
  obtain ⟨hsum, q, as', rfl, hq, top', ht1, ht2, hy, hM⟩ := hf as st2 hfa
  obtain ⟨w, vs', rfl, hw, g7⟩ := g2.r
  have hlt := (mj_is_iff hq).1
  have hle := h1.le
  have hw2 := hw.ref (by omega)
  subst hw2
  obtain ⟨ws, E, hP, hD, hE, he, -⟩ := h1.at hq
  rw [mj_eO_of hci] at he
  obtain ⟨fs, rfl, -, -⟩ := he
  have hrec := va_recv hK hP (ci := ci) (q0 := q) (mj_cl ci hci) hE
  have hmok := mj_mk282 y hy
  have hm3 : Cond.instanceMethod (mj_nam y) ∈ lw_g ∧ Cond.selects (mj_nam y).cls (mj_nam y) (mj_nam y) ∈ lw_g := by
    have := hmok.2.2
    rw [hkd] at this
    exact this
  have htk : (Value.ref (ad q) :: vs').take k = Value.ref (ad q) :: vs' := by
    rw [List.take_of_length_le]
    rw [g5]; simp
  have hst : st' = vs'.reverse ++ Value.ref (ad q) :: r := by
    rw [g4, htk]; simp
  subst hst
  have hM' := (hM.weaken (K' := fun r n' σ' => K st2 r n' σ' ∧ n' = top') (fun r σ' hr => ⟨hr, rfl⟩)) l G ad (Value.ref (ad q) :: vs') g2 h4.2.2.2.1 h4.2.2.2.2
  refine mj_call_end h2 g3 h4 ht1 (va_runV (C := (mj_nam y).cls) (As := vs') (rest := r) ⟨hx, hb, hml, hown, hts⟩ hM' ⟨mj_callB hts hy (hl hy) hR1 hR2, hts _ hm3.1, hts _ hm3.2⟩ ⟨mj_pc_blind, ?_, mj_pc_at hK hX h4.1 h1⟩ rfl ?_ (by rw [← h2.1]) rfl ?_ hd ⟨?_, ?_⟩) (fun rv σ' hr => kk st2 rv top' σ' ht1 ht2 hr)
  · rw [hcn]; exact hrec
  · have := g5; simp at this; omega
  · refine lv_room ?_
    rw [g3.sum]; exact hsum
  · have := h4.2.1; omega
  · have := mj_SL_add h4.2.1 ht1
    have := mj_SL_mono ht2
    omega
/-- a call of a static method -/
theorem g_callS {d k idx y : Nat} {f : List mV → List mV → Prop} {K : List mV → mK} (hx : p.tables.exec = Jvm.exec) (hb : c.code = cc) (hml : c.maxLocals = lv.length) (hts : ∀ w ∈ lw_g, w.before args s = true) (hown : s.vm.findClass own = some m.cls) (hK : va_K G.1 vwCl (mj_tys G.2.1) s) (hX : mj_X G s)
    (hR1 : d + 9 ≤ R.frames) (hR2 : 40 * (d + 9) ≤ R.locals) (hR3 : top - n0 ≤ R.cells) (hR4 : mj_SL top - mj_SL n0 ≤ R.slots) (hkd : mj_kd y = 1) (hk : k = mj_par y)
    (hl : y < 282 → (Cond.methodLink own idx (mj_nam y)).before args s = true ∨ ∃ host, va_Nw (.methodLinkNest own idx (mj_nam y) host) s) (hd : decode cc pc = .ok (.invokestatic idx, 3))
    (h : mj_args k [] st f) (hf : ∀ as st2, f as st2 → mj_sum st2 ≤ 8 ∧ mj_cal d top y as n σ (K st2))
    (kk : ∀ (st2 : List mV) (rv : Option mV) (n' : Nat) (σ' : mM), n ≤ n' → n' ≤ top → K st2 rv n' σ' → mj_Go G p l e R s m args below meth c Q n0 ad0 (pc + 3) lv (rv.toList ++ st2) n' σ') : mj_Go G p l e R s m args below meth c Q n0 ad0 pc lv st n σ := by
  intro ad H locs ls st' hA
  obtain ⟨h1, h2, h3, h4⟩ := hA
  obtain ⟨as, st2, vs, r, hfa, g2, g3, g4, g5, g6⟩ := mj_args_iff k [] st [] st' h trivial h3
  obtain ⟨hsum, top', ht1, ht2, hy, hM⟩ := hf as st2 hfa
  have hmok := mj_mk282 y hy
  have hm3 : Cond.static (mj_nam y) ∈ lw_g := by
    have := hmok.2.2
    rw [hkd] at this
    exact this
  have htk : vs.take k = vs := by
    rw [List.take_of_length_le]
    rw [g5]; simp
  have hst : st' = vs.reverse ++ r := by
    rw [g4, htk]
  subst hst
  have hM' := (hM.weaken (K' := fun r n' σ' => K st2 r n' σ' ∧ n' = top') (fun r σ' hr => ⟨hr, rfl⟩)) l G ad vs g2 h4.2.2.2.1 h4.2.2.2.2
  have len : vs.length = mj_par y := by have := g5; simp at this; omega
  have rm : 2 * (F0 m pc ls (vs.reverse ++ r)).monitorRoom + (r.map fun v => v.category).sum ≤ 8 := lv_room (by rw [g3.sum]; exact hsum)
  have r1 : n - n0 + (top' - n) ≤ R.cells := by have := h4.2.1; omega
  have r2 : mj_SL n - mj_SL n0 + (mj_SL top' - mj_SL n) ≤ R.slots := by
    have := mj_SL_add h4.2.1 ht1
    have := mj_SL_mono ht2
    omega
  obtain ⟨b1, b2, b3, b4, b5⟩ := mj_moB_iff (mj_moB_all y hy)
  rcases hl hy with hl | ⟨host, hl⟩
  · exact mj_call_end h2 g3 h4 ht1 (va_runS (As := vs) (rest := r) ⟨hx, hb, hml, hown, hts⟩ hM' ⟨mj_callB hts hy hl hR1 hR2, hts _ hm3⟩ ⟨mj_pc_blind, mj_pc_at hK hX h4.1 h1⟩ rfl len (by rw [← h2.1]) rfl rm hd ⟨r1, r2⟩) (fun rv σ' hr => kk st2 rv top' σ' ht1 ht2 hr)
  · exact mj_call_end h2 g3 h4 ht1 (va_runSN (As := vs) (rest := r) (host := host) ⟨hx, hb, hml, hown, hts⟩ hM' ⟨va_cnB (mj_par y) hts (mj_good hy) rfl rfl rfl hl (hts _ hmok.2.1) ⟨b1.1, b1.2, b2⟩ (mj_rm_ok hR1 hR2 b4), hts _ hm3, trivial⟩ ⟨mj_pc_blind, mj_pc_at hK hX h4.1 h1⟩ rfl len (by rw [← h2.1]) rfl rm hd ⟨r1, r2⟩) (fun rv σ' hr => kk st2 rv top' σ' ht1 ht2 hr)
/-- a call of a maker -/
theorem g_callI {d k ci idx y : Nat} {f : List mV → List mV → Prop} {K : List mV → mK} (hx : p.tables.exec = Jvm.exec) (hb : c.code = cc) (hml : c.maxLocals = lv.length) (hts : ∀ w ∈ lw_g, w.before args s = true) (hown : s.vm.findClass own = some m.cls) (hK : va_K G.1 vwCl (mj_tys G.2.1) s) (hX : mj_X G s)
    (hR1 : d + 9 ≤ R.frames) (hR2 : 40 * (d + 9) ≤ R.locals) (hR3 : top - n0 ≤ R.cells) (hR4 : mj_SL top - mj_SL n0 ≤ R.slots) (hkd : mj_kd y = 2) (hk : k = mj_par y + 1)
    (hl : y < 282 → (Cond.methodLink own idx (mj_nam y)).before args s = true ∨ ∃ host, va_Nw (.methodLinkNest own idx (mj_nam y) host) s) (hd : decode cc pc = .ok (.invokespecial idx, 3))
    (h : mj_args k [] st f) (hf : ∀ as st2, f as st2 → mj_sum st2 ≤ 8 ∧ ∃ q as', as = .inr (.inr q) :: as' ∧ mj_is n q ci = true ∧ mj_cal d top y as n σ (K st2))
    (kk : ∀ (st2 : List mV) (rv : Option mV) (n' : Nat) (σ' : mM), n ≤ n' → n' ≤ top → K st2 rv n' σ' → mj_Go G p l e R s m args below meth c Q n0 ad0 (pc + 3) lv (rv.toList ++ st2) n' σ') : mj_Go G p l e R s m args below meth c Q n0 ad0 pc lv st n σ := by
  intro ad H locs ls st' hA
  obtain ⟨h1, h2, h3, h4⟩ := hA
  obtain ⟨as, st2, vs, r, hfa, g2, g3, g4, g5, g6⟩ := mj_args_iff k [] st [] st' h trivial h3
  obtain ⟨hsum, q, as', rfl, hq, top', ht1, ht2, hy, hM⟩ := hf as st2 hfa
  obtain ⟨w, vs', rfl, hw, g7⟩ := g2.r
  have hlt := (mj_is_iff hq).1
  have hle := h1.le
  have hw2 := hw.ref (by omega)
  subst hw2
  have hmok := mj_mk282 y hy
  have hm3 : Cond.instanceMethod (mj_nam y) ∈ lw_g ∧ (mj_nam y).name = "<init>" ∧ mj_ret y = none := by
    have := hmok.2.2
    rw [hkd] at this
    exact this
  have htk : (Value.ref (ad q) :: vs').take k = Value.ref (ad q) :: vs' := by
    rw [List.take_of_length_le]
    rw [g5]; simp
  have hst : st' = vs'.reverse ++ Value.ref (ad q) :: r := by
    rw [g4, htk]; simp
  subst hst
  have hM' := (hM.weaken (K' := fun r n' σ' => K st2 r n' σ' ∧ n' = top') (fun r σ' hr => ⟨hr, rfl⟩)) l G ad (Value.ref (ad q) :: vs') g2 h4.2.2.2.1 h4.2.2.2.2
  have len : vs'.length = mj_par y := by have := g5; simp at this; omega
  have rm : 2 * (F0 m pc ls (vs'.reverse ++ Value.ref (ad q) :: r)).monitorRoom + (r.map fun v => v.category).sum ≤ 8 := lv_room (by rw [g3.sum]; exact hsum)
  have r1 : n - n0 + (top' - n) ≤ R.cells := by have := h4.2.1; omega
  have r2 : mj_SL n - mj_SL n0 + (mj_SL top' - mj_SL n) ≤ R.slots := by
    have := mj_SL_add h4.2.1 ht1
    have := mj_SL_mono ht2
    omega
  obtain ⟨b1, b2, b3, b4, b5⟩ := mj_moB_iff (mj_moB_all y hy)
  have hB := hm3.2.2
  rcases hl hy with hl | ⟨host, hl⟩
  · have cb := mj_callB (n := n) (top' := top') (d := d) hts hy hl hR1 hR2
    rw [hB] at cb
    exact mj_call_end h2 g3 h4 ht1 (va_runI (As := vs') (rest := r) ⟨hx, hb, hml, hown, hts⟩ hM' ⟨cb, hm3.2.1, hts _ hm3.1⟩ ⟨mj_pc_blind, mj_pc_at hK hX h4.1 h1⟩ rfl len (by rw [← h2.1]) rfl rm hd ⟨r1, r2⟩) (fun rv σ' hr => kk st2 rv top' σ' ht1 ht2 hr)
  · have cb : va_CN R s args own idx (mj_nam y) host (mj_cod y) (mj_max y) (mj_ret y) (mj_ws y) (mj_rm d top' n) (top' - n) (mj_SL top' - mj_SL n) (mj_par y) := va_cnB (mj_par y) hts (mj_good hy) rfl rfl rfl hl (hts _ hmok.2.1) ⟨b1.1, b1.2, b2⟩ (mj_rm_ok hR1 hR2 b4)
    rw [hB] at cb
    exact mj_call_end h2 g3 h4 ht1 (va_runIN (As := vs') (rest := r) (host := host) ⟨hx, hb, hml, hown, hts⟩ hM' ⟨cb, hm3.2.1, hts _ hm3.1⟩ ⟨mj_pc_blind, mj_pc_at hK hX h4.1 h1⟩ rfl len (by rw [← h2.1]) rfl rm hd ⟨r1, r2⟩) (fun rv σ' hr => kk st2 rv top' σ' ht1 ht2 hr)
end
