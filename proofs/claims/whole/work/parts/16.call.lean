/-! CALLS -/
def mj_ws (y : Nat) : List Cond := Cond.code (mj_nam y) (mj_cod y) (mj_max y) (mj_ret y) :: lw_g
def mj_rm (d top n : Nat) : Room := { frames := d + 8, cells := top - n, slots := mj_SL top - mj_SL n, locals := 40 * (d + 8) }
theorem mj_rm_ok {d top n k : Nat} {R : Room} (h1 : d + 9 ≤ R.frames) (h2 : 40 * (d + 9) ≤ R.locals) (h3 : k ≤ 20) : (mj_rm d top n).frames + 1 ≤ R.frames ∧ 8 + (k + 11) + (mj_rm d top n).locals ≤ R.locals := by
  unfold mj_rm
  dsimp only
  omega
def mj_ov (ad : Nat → Nat) (n : Nat) (r : Option mV) (v : Option Value) : Prop := match r, v with
  | none, none => True
  | some r, some v => mj_v ad n r v
  | _, _ => False
def mj_Qc (G : mG) (n : Nat) (ad : Nat → Nat) (top : Nat) (K : mK) : Array Value → State → Outcome → State → Prop := fun _ st oc t =>
  (∃ (r : Option mV) (σ' : mM) (ad' : Nat → Nat) (v : Option Value), oc = .returned v ∧ K r top σ' ∧ mj_mem G ad' top σ' t.heap ∧ (∀ q, q < n ∨ mj_SPEC ≤ q → ad' q = ad q) ∧ mj_ov ad' top r v) ∧ va_F (mj_A G) st t
/-- THE CONTRACT of a method: with room for d calls below it, from the places n up to the places top -/
def mj_M (d y : Nat) (as : List mV) (n top : Nat) (σ : mM) (K : mK) : Prop := ∀ (l : Launch) (G : mG) (ad : Nat → Nat) (vs : List Value), mj_ss ad n as vs → ad mj_SCR = G.2.2.1.1 → ad mj_STR = G.2.2.2.2.1 →
  Met l (mj_nam y) (mj_ws y) (mj_rm d top n) (va_Pc vs (fun U => mj_mem G ad n σ U.heap ∧ va_K G.1 vwCl (mj_tys G.2.1) U ∧ mj_X G U)) (mj_Qc G n ad top K) (top - n) (mj_SL top - mj_SL n) (mj_A G)
/-- what a call may ask of the methods below it -/
def mj_cal (d top : Nat) : mC := fun y as n σ K => ∃ top', n ≤ top' ∧ top' ≤ top ∧ y < 282 ∧ mj_M d y as n top' σ K
theorem mj_good {y : Nat} (h : y < 282) : GoodIn lw_g (mj_ws y) := by
  intro w hw
  rcases List.mem_cons.mp hw with rfl | hw
  · exact mj_goodG _ (mj_mk282 y h).1
  · exact mj_goodG _ hw
theorem mj_moB_iff {y : Nat} (h : mj_moB y = true) : ((mj_nam y).cls ≠ "java/lang/invoke/MethodHandle" ∧ (mj_nam y).cls ≠ "java/lang/invoke/VarHandle") ∧ (parseMethodDescriptor (mj_nam y).desc).map (fun d => d.parameters.length) = some (mj_par y) ∧ plainFor (mj_nam y) = true ∧ mj_max y ≤ 20 ∧ mj_own y = (mj_nam y).cls := by
  unfold mj_moB at h
  simp only [Bool.and_eq_true] at h
  obtain ⟨⟨⟨⟨h1, h2⟩, h3⟩, h4⟩, h5⟩ := h
  exact ⟨of_decide_eq_true h1, of_decide_eq_true h2, h3, Nat.le_of_ble_eq_true h4, of_decide_eq_true h5⟩
theorem mj_v.mono {ad ad' : Nat → Nat} {n n' : Nat} {v : mV} {w : Value} (h : mj_v ad n v w) (ha : ∀ q, q < n ∨ mj_SPEC ≤ q → ad' q = ad q) (hn : n ≤ n') : mj_v ad' n' v w := by
  match v, h with
  | .inl x, h => exact h
  | .inr (.inl x), h => exact h
  | .inr (.inr q), h =>
    rcases h with h | ⟨h1, h2, h3⟩
    · exact Or.inl h
    · exact Or.inr ⟨h1, by omega, by rw [ha q h2]; exact h3⟩
theorem mj_ss.mono {ad ad' : Nat → Nat} {n n' : Nat} (ha : ∀ q, q < n ∨ mj_SPEC ≤ q → ad' q = ad q) (hn : n ≤ n') : ∀ {st : List mV} {st2 : List Value}, mj_ss ad n st st2 → mj_ss ad' n' st st2
  | [], [], _ => trivial
  | _ :: _, _ :: _, h => ⟨h.1.mono ha hn, mj_ss.mono ha hn h.2⟩
theorem mj_lv.mono {ad ad' : Nat → Nat} {n n' : Nat} {lv : mL} {ls : Array Slot} (h : mj_lv ad n lv ls) (ha : ∀ q, q < n ∨ mj_SPEC ≤ q → ad' q = ad q) (hn : n ≤ n') : mj_lv ad' n' lv ls :=
  ⟨h.1, h.2.1, fun i v hv => by obtain ⟨w, h1, h2⟩ := h.2.2 i v hv; exact ⟨w, h1, h2.mono ha hn⟩⟩
theorem mj_ss.app {ad : Nat → Nat} {n : Nat} : ∀ {a b : List mV} {v w : List Value}, mj_ss ad n a v → mj_ss ad n b w → mj_ss ad n (a ++ b) (v ++ w)
  | [], _, [], _, _, h => h
  | _ :: _, _, _ :: _, _, h1, h2 => ⟨h1.1, mj_ss.app h1.2 h2⟩
theorem mj_ss.sum {ad : Nat → Nat} {n : Nat} : ∀ {st : List mV} {v : List Value}, mj_ss ad n st v → (v.map fun v => v.category).sum = mj_sum st
  | [], [], _ => rfl
  | x :: st, w :: v, h => by
    have h1 := mj_v_cat h.1
    have h2 := mj_ss.sum h.2
    simp [h1, h2, mj_sum]
theorem mj_ss.len {ad : Nat → Nat} {n : Nat} : ∀ {st : List mV} {v : List Value}, mj_ss ad n st v → v.length = st.length
  | [], [], _ => rfl
  | x :: st, w :: v, h => by simp [mj_ss.len h.2]
/-- the arguments and the rest of a stack -/
theorem mj_args_iff {ad : Nat → Nat} {n : Nat} {f : List mV → List mV → Prop} : ∀ (k : Nat) (acc st : List mV) (va vst : List Value), mj_args k acc st f → mj_ss ad n acc va → mj_ss ad n st vst →
    ∃ (as st2 : List mV) (vs r : List Value), f as st2 ∧ mj_ss ad n as vs ∧ mj_ss ad n st2 r ∧ vst = (vs.take k).reverse ++ r ∧ vs.length = k + va.length ∧ vs.drop k = va := by
  intro k
  induction k with
  | zero =>
    intro acc st va vst h h1 h2
    exact ⟨acc, st, va, vst, h, h1, h2, by simp, by simp, by simp⟩
  | succ k ih =>
    intro acc st va vst h h1 h2
    cases st with
    | nil => exact h.elim
    | cons v s =>
      obtain ⟨w, r, rfl, hw, h3⟩ := h2.one
      obtain ⟨as, st2, vs, r2, g1, g2, g3, g4, g5, g6⟩ := ih (v :: acc) s (w :: va) r h ⟨hw, h1⟩ h3
      refine ⟨as, st2, vs, r2, g1, g2, g3, ?_, by simp at g5; omega, ?_⟩
      · have hk : k < vs.length := by simp at g5; omega
        have e : vs[k] = w := by
          have h9 := (List.drop_eq_getElem_cons hk).symm.trans g6
          exact (List.cons.inj h9).1
        rw [List.take_succ, List.getElem?_eq_getElem hk, e, g4]
        simp
      · have := congrArg (List.drop 1) g6
        simpa [List.drop_drop, Nat.add_comm] using this
section
variable {G : mG} {p : Program} {l : Launch} {e : Env} {R : Room} {s : State} {m : MethodId} {args : Array Value} {below : List Frame} {meth : Method} {c : Code} {Q : State → Prop} {n0 : Nat} {ad0 : Nat → Nat} {cc : ByteArray} {pc : Nat} {lv : mL} {st : List mV} {n : Nat} {σ : mM} {own : String} {top : Nat}
/-- behind a call -/
theorem mj_after {ad : Nat → Nat} {H : Heap} {locs : List Loc} {cells slots : Nat} {ls : Array Slot} {st0 rest : List Value} {a : Array Value} {K : mK} {top' : Nat}
    (hr : va_Run p l e R s m args below meth c H locs cells slots (top' - n) (mj_SL top' - mj_SL n) (F0 m pc ls st0) rest (mj_Qc G n ad top' K a) (mj_A G)) (hS : va_S (mj_A G) s.heap H locs)
    (kk : ∀ (r : Option mV) (σ' : mM) (ad' : Nat → Nat) (v : Option Value) (H1 : Heap) (locs1 : List Loc), K r top' σ' → mj_mem G ad' top' σ' H1 → (∀ q, q < n ∨ mj_SPEC ≤ q → ad' q = ad q) → mj_ov ad' top' r v → va_S (mj_A G) s.heap H1 locs1 →
      W p l e R s m args below meth c H1 locs1 (cells + (top' - n)) (slots + (mj_SL top' - mj_SL n)) Q (F0 m (pc + 3) ls (v.toList ++ rest))) : W p l e R s m args below meth c H locs cells slots Q (F0 m pc ls st0) := by
  intro T hT X
  obtain ⟨v, st₀, t, T', L, h0, X', hL, e1, e2, ⟨⟨r, σ', ad', v', hv, hK, hm, ha, hov⟩, hz, hk⟩, st⟩ := hr T hT X
  cases hv
  rw [h0] at hz hk
  obtain ⟨t2, a1, b1⟩ := kk r σ' ad' v T'.heap (locs ++ L) hK (by rw [e1]; exact hm) ha hov
    ⟨Nat.le_trans hS.1 (by rw [e1]; exact hz), fun q h1 h2 => by rw [e1, hk q (Nat.lt_of_lt_of_le h1 hS.1) h2]; exact hS.2.1 q h1 h2, fun q hq => by
      rcases List.mem_append.mp hq with h | h
      · exact hS.2.2 q h
      · exact hL q h⟩ T' rfl X'
  exact ⟨t2, st t2 a1, b1⟩
theorem mj_pc_blind {vs : List Value} {ad : Nat → Nat} : FrameBlind (va_Pc vs (fun U => mj_mem G ad n σ U.heap ∧ va_K G.1 vwCl (mj_tys G.2.1) U ∧ mj_X G U)) := by
  intro a U g mk q
  obtain ⟨q0, q1, q2, q3⟩ := q
  exact ⟨q0, q1, va_K.moved (u := U) (U := U.calling g mk a) (Vm.Alike.refl U.vm) q2, q3.calling g mk a⟩
theorem mj_pc_at {vs : List Value} {ad : Nat → Nat} {H : Heap} {locs : List Loc} (hK : va_K G.1 vwCl (mj_tys G.2.1) s) (hX : mj_X G s) (hS : va_S (mj_A G) s.heap H locs) (hm : mj_mem G ad n σ H) : ∀ U : State, U.heap = H → s.WarmedH U.vm → va_Pc vs (fun U => mj_mem G ad n σ U.heap ∧ va_K G.1 vwCl (mj_tys G.2.1) U ∧ mj_X G U) vs.toArray U :=
  fun U hU hW => ⟨rfl, by rw [hU]; exact hm, va_K.moved hW.alike hK, hX.step hS hU hW⟩
/-- the frame is ready for a call -/
theorem mj_callB {d idx top' : Nat} {y : Nat} (hts : ∀ w ∈ lw_g, w.before args s = true) (hy : y < 282) (hl : (Cond.methodLink own idx (mj_nam y)).before args s = true) (hR1 : d + 9 ≤ R.frames) (hR2 : 40 * (d + 9) ≤ R.locals) :
    CallB R s args own idx (mj_nam y) (mj_cod y) (mj_max y) (mj_ret y) (mj_ws y) (mj_rm d top' n) (top' - n) (mj_SL top' - mj_SL n) (mj_par y) := by
  obtain ⟨b1, b2, b3, b4, b5⟩ := mj_moB_iff (mj_moB_all y hy)
  exact callB_of (mj_par y) hts (mj_good hy) rfl rfl rfl (hts _ (mj_mk282 y hy).2.1) hl ⟨b1.1, b1.2, b2⟩ (mj_rm_ok hR1 hR2 b4)
end
