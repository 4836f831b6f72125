/-! THE CLAIM OUT OF ONE WALK OF THE LAW'S BODY. Your part is whole_start (and what it stands on); all else here is the same for every law, but numbers. -/
def R_law : String := "NightForecastLaw"
def lw_P (b : Addr) (xs : List Int32) (args : Array Value) (s : State) : Prop := args = #[.ref b] ∧ s.IntsAt b xs ∧ xs.length ≤ 3072 ∧ (Jvm.Cond.and given_1 narrow_1).before args s = true
def lw_Q (_ : Array Value) (s : State) (o : Outcome) (t : State) : Prop := o = .returned (some (.int 1)) ∧ Framed s o t [] 600000 7302250
def lw_Z (below : List Frame) (a : Array Value) (s : State) : State → Prop := fun t => ∃ o, t.status = .running ∧ Ended t below o ∧ lw_Q a s o t
/-- the law's own end, with 1 on the stack, nothing written that was there before, its room as the claim has it -/
theorem lw_ret {p : Program} {l : Launch} {e : Env} {s : State} {m : MethodId} {below : List Frame} {meth : Method} {c : Code} {b : Nat} (hx : p.tables.exec = Jvm.exec) (hb : c.code = code) (hr : meth.sig.returnType = ret) (hlocks : meth.locks = false) {pc : Nat} {H : Heap} {ls : Array Slot} (hdg : decode code pc = .ok (.ireturn, 1)) : W p l e room_1 s m #[Value.ref b] below meth c H [] 600000 7302250 (lw_Z below #[Value.ref b] s) (F0 m pc ls [.int 1]) := by
  intro T hT X
  obtain ⟨fs, hret, hrun, hended, hW, hframe⟩ := X.leave (v := some (.int 1)) (hlocks := hlocks) (fun h => by rw [hr] at h; cases h)
  have hmeth' : T.vm.method? m = some meth := X.method'
  refine ⟨T.setFrames fs, ?_, .returned (some (.int 1)), hrun, hended, rfl, ⟨_, rfl⟩, hW, hframe⟩
  jvm_step X.here [X.here.top, hx, hb, hdg, hmeth', hr, ret, narrow_b1]
  (try refine ⟨rfl, ?_⟩); (try refine ⟨rfl, ?_⟩)
  first | (intro acts; rw [hret _ acts rfl rfl rfl]) | rw [hret _ _ rfl rfl rfl]
  exact Steps.refl _
/-- what holds at the law's entry: the machine, the code, the tables' words (any of lw_tbl by 'hts w (by decide +kernel)'), the script of L ints xs at the cell b, what the Statement gives of the start (any of its parts by flat_of_before) -/
def lw_At (p : Program) (s : State) (m : MethodId) (meth : Method) (c : Code) (b L : Nat) (xs : Nat → Int32) : Prop :=
  p.tables.exec = Jvm.exec ∧ c.code = code ∧ meth.sig.returnType = ret ∧ c.maxLocals = 4 ∧ s.vm.findClass R_law = some m.cls ∧ (∀ w ∈ lw_tbl, w.before #[Value.ref b] s = true) ∧ va_X b L xs s s.heap ∧ b < s.heap.size ∧ meth.locks = false ∧ (Jvm.Cond.and given_1 narrow_1).before #[Value.ref b] s = true
/-- THE LAW from its block b: it ends with 1, over the script xs of L ints -/
def LAt (L : Nat) (xs : Nat → Int32) : mJ := fun b lv st n σ => ∃ t, (mj_pcs 282)[b]? = some t ∧ lv.length = 4 ∧ ∀ (l : Launch) (G : mG) (p : Program) (e : Env) (s : State) (m : MethodId) (below : List Frame) (meth : Method) (c : Code) (ad0 : Nat → Nat), G.2.2.1.2 = (L, xs) → G.2.2.2.1 = s.heap.size →
  mj_Ctx G (mj_on 13) code 4 (some .boolean) false 1001 218 0 p room_1 s m #[Value.ref G.2.2.1.1] meth c → mj_Go G p l e room_1 s m #[Value.ref G.2.2.1.1] below meth c (lw_Z below #[Value.ref G.2.2.1.1] s) 0 ad0 t lv st n σ
theorem mj_SL218 : mj_SL 218 ≤ 30000 := by decide +kernel
theorem LAt.blk {L : Nat} {xs : Nat → Int32} {b n : Nat} {lv : mL} {st : List mV} {σ : mM} {is : List mI} (hb : (mj_code 282)[b]? = some is) (hl : lv.length = 4) (hn : n ≤ 218) (h : mj_den (L, xs) 218 (mj_cal 1000 218) (LAt L xs) (fun r _ _ => r = some (.inl 1)) (b + 1) is lv st n σ) : LAt L xs b lv st n σ := by
  obtain ⟨t, ht, hc⟩ := mj_chkF_iff (by decide) hb
  refine ⟨t, ht, hl, fun l G p e s m below meth c ad0 hG hz C => ?_⟩
  have hsx : mj_sx G = (L, xs) := hG
  refine mj_block (o := 13) (rt := some .boolean) (ini := false) (J := LAt L xs) (KR := fun r _ _ => r = some (.inl 1)) C (Nat.le_refl _) (fun b lv st n σ hj => by obtain ⟨t, ht, -⟩ := hj; exact ⟨t, ht⟩) (fun b' t' lv' st' n' σ' h1 h2 h3 h4 => ?_) ⟨?_, ?_, ?_, ?_⟩ is t lv st n σ hn hl hc (by rw [hsx]; exact h)
  · obtain ⟨t2, ht2, -, hgo⟩ := h4
    have h3 : (mj_pcs 282)[b']? = some t' := h3
    rw [h3] at ht2
    cases ht2
    exact hgo l G p e s m below meth c ad0 hG hz C
  · intro pc lv n σ x hn hd _ _ hk ad H locs ls st2 hA
    obtain ⟨h1, h2, h3, h4⟩ := hA
    cases hk
    obtain ⟨z, r, rfl, hz1, h3a⟩ := h3.i
    obtain rfl := h3a.nil
    have e1 : z = 1 := mj_inj hz1
    subst e1
    have hm := mj_SL_mono hn
    have h9 := mj_SL218
    obtain ⟨hx, hb1, hml, hown, hts, hrt, hlocks, -⟩ := C
    refine va_forget (fun q hq => by rw [← hz]; exact h4.1.2.2 q hq) ?_
    refine W.widen (k := 600000) (n := 7302250) (by omega) (by omega) ?_
    exact lw_ret hx hb1 hrt hlocks hd
  · intro pc lv n σ x hn hd hr; cases hr
  · intro pc lv n σ x hn hd hr; cases hr
  · intro pc lv n σ hn hd hr; cases hr
/-- the claim's own walk, out of the law's first block -/
theorem mj_whole {p : Program} {e : Env} {s : State} {m : MethodId} {below : List Frame} {meth : Method} {c : Code} (l : Launch) {b L : Nat} {xs : Nat → Int32} (hL : L ≤ 3072) (C0 : lw_At p s m meth c b L xs) (σ : mM) (h : LAt L xs 0 [some (.inr (.inr mj_SCR)), none, none, none] [] 0 σ) : W p l e room_1 s m #[Value.ref b] below meth c s.heap [] 0 0 (lw_Z below #[Value.ref b] s) (entryFrame m ([Value.ref b] : List Value).toArray 4) := by
  obtain ⟨hx, hb, hr, hml, hown, hts, hX, hbl, hlocks, hgv⟩ := id C0
  obtain ⟨a1, a2, hX2⟩ := mj_startX hts hX hbl hL hgv
  have htg : ∀ w ∈ lw_g, w.before #[Value.ref b] s = true := fun w hw => hts w (List.mem_filter.mp hw).1
  have hX3 := hX2 (fun _ => 0, fun _ _ => 0) (fun _ => 0)
  obtain ⟨D, t, hK⟩ := mj_startK htg hX3.2.2.2.2.2.2.2.2.1 hX3.2.2.2.2.2.2.2.2.2.1
  obtain ⟨t0, ht0, -, hgo⟩ := h
  have e0 : t0 = 0 := mj_pcs0 282 (by decide) t0 ht0
  subst e0
  have h9 := mj_SL218
  have hl := lv_entry ([.ref b]) (n := 4) (Nat.le_of_ble_eq_true rfl)
  rw [lg_entry_eq]
  have hW := hgo l (D, t, (b, L, xs), s.heap.size, (a1, a2)) p e s m below meth c (fun q => if q = mj_SCR then b else a1) rfl rfl ⟨hx, hb, hml, hown, htg, hr, hlocks, fun h => (by cases h), hK, hX2 D t, by decide, by decide, by decide, by show mj_SL 218 - mj_SL 0 ≤ 7302250; omega⟩ (fun q => if q = mj_SCR then b else a1) s.heap [] _ [] ⟨⟨[], fun k q h => (by simp at h), ⟨fun i j p q h => (by simp at h), fun k q h => (by simp at h)⟩, rfl, by decide, fun q h => absurd h (Nat.not_lt_zero _)⟩, ⟨hl.1, hl.2.1, fun i v hi => ?_⟩, trivial, va_S.rf, Nat.le_refl _, fun _ _ => rfl, rfl, rfl⟩
  · exact hW
  · match i, hi with
    | 0, hi =>
      cases hi
      exact ⟨.ref b, hl.2.2 (0, .ref b) List.mem_cons_self, Or.inr ⟨by decide, Or.inr (by decide), rfl⟩⟩
    | 1, hi => cases hi
    | 2, hi => cases hi
    | 3, hi => cases hi
    | i + 4, hi => simp at hi
