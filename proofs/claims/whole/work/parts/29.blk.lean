section
variable {G : mG} {p : Program} {l : Launch} {e : Env} {R : Room} {s : State} {m : MethodId} {args : Array Value} {below : List Frame} {meth : Method} {c : Code} {Q : State → Prop} {n0 : Nat} {ad0 : Nat → Nat} {cc : ByteArray} {top : Nat}
/-- a block is right -/
theorem mj_block {o d nL nx : Nat} {ini : Bool} {rt : Option FieldType} {pcs : List Nat} {J : mJ} {KR : mK} (C : mj_Ctx G (mj_on o) cc nL rt ini (d + 1) top n0 p R s m args meth c) (htop : top ≤ 218) (hJ : ∀ b lv st n σ, J b lv st n σ → ∃ t, pcs[b]? = some t)
    (kJ : ∀ (b t : Nat) lv st n σ, lv.length = nL → n ≤ top → pcs[b]? = some t → J b lv st n σ → mj_Go G p l e R s m args below meth c Q n0 ad0 t lv st n σ) (kR : mj_RetOK G p l e R s m args below meth c Q n0 ad0 cc rt top KR) :
    ∀ (is : List mI) (pc : Nat) (lv : mL) (st : List mV) (n : Nat) (σ : mM), n ≤ top → lv.length = nL → mj_chkB o ini rt nL pcs cc nx pc is = true → mj_den (mj_sx G) top (mj_cal d top) J KR nx is lv st n σ → mj_Go G p l e R s m args below meth c Q n0 ad0 pc lv st n σ := by
  intro is
  induction is with
  | nil =>
    intro pc lv st n σ hn hl hc h
    obtain ⟨t, ht⟩ := hJ _ _ _ _ _ h
    unfold mj_chkB at hc
    rw [ht] at hc
    have hc : Nat.beq t pc = true := hc
    obtain rfl := Nat.eq_of_beq_eq_true hc
    exact kJ nx t lv st n σ hl hn ht h
  | cons i is ih =>
    intro pc lv st n σ hn hl hc h
    unfold mj_chkB at hc
    cases hd : decode cc pc with
    | error x => rw [hd] at hc; cases hc
    | ok q =>
      obtain ⟨i0, len⟩ := q
      rw [hd] at hc
      obtain ⟨c1, c2⟩ := mj_and hc
      exact mj_step C htop hn hl hd c1 h (fun lv' st' n' σ' h1 _ h3 hk => ih (pc + len) lv' st' n' σ' h3 h1 c2 hk) (fun b t lv' st' σ' h1 ht hj => kJ b t lv' st' n σ' h1 hn ht hj) kR
/-- the ends of a method whose end is K -/
theorem mj_retok {own : String} {d nL : Nat} {rt : Option FieldType} {ini : Bool} {K KR : mK} (C : mj_Ctx G own cc nL rt ini d top n0 p R s m args meth c) (hKR : ∀ r n σ, n0 ≤ n → n ≤ top → KR r n σ → n = top ∧ K r n σ) :
    mj_RetOK G p l e R s m args below meth c (MQ below (mj_Qc G n0 ad0 top K) args s (top - n0) (mj_SL top - mj_SL n0) (mj_A G)) n0 ad0 cc rt top KR := by
  obtain ⟨hx, hb, hml, hown, hts, hrt, hlocks, hini, hK, hX, hR1, hR2, hR3, hR4⟩ := C
  refine ⟨?_, ?_, ?_, ?_⟩
  · intro pc lv n σ x hn hd hr3 hrk hk ad H locs ls st' hA
    obtain ⟨h1, h2, h3, h4⟩ := hA
    obtain ⟨rfl, hk⟩ := hKR _ _ _ h4.2.1 hn hk
    obtain ⟨z, r, rfl, hz, h3a⟩ := h3.i
    obtain rfl := h3a.nil
    have hq : ∀ t : State, t.heap = H → s.WarmedH t.vm → mj_Qc G n0 ad0 n K args s (.returned (some (.int z))) t := fun t ht hW => ⟨⟨some (.inl x), σ, ad, some (.int z), rfl, hk, by rw [ht]; exact h1, h4.2.2.1, ⟨z, rfl, hz⟩⟩, h4.1.F ht⟩
    match rt, hrt, hr3, hrk with
    | some .int, hrt, _, _ => exact W.iret hx hb hrt hq h4.1.2.2 hd hlocks
    | some .boolean, hrt, _, hrk =>
      refine W.zret hx hb hrt ?_ hq h4.1.2.2 hd hlocks
      have e : z = 0 ∨ z = 1 := by
        rcases (show x = 0 ∨ x = 1 from hrk) with h | h <;> rw [h] at hz
        · exact Or.inl (mj_inj hz)
        · exact Or.inr (mj_inj hz)
      rcases e with rfl | rfl <;> rfl
    | some .char, hrt, _, hrk =>
      refine W.zret hx hb hrt ?_ hq h4.1.2.2 hd hlocks
      have hrk : 0 ≤ x ∧ x < 65536 := hrk
      have e : z = nI x.toNat := by apply mj_inj; rw [nI_toInt (by omega), hz]; omega
      rw [e]
      exact (pk_charN (by omega)).1
  · intro pc lv n σ x hn hd hr hk ad H locs ls st' hA
    obtain ⟨h1, h2, h3, h4⟩ := hA
    obtain ⟨rfl, hk⟩ := hKR _ _ _ h4.2.1 hn hk
    obtain ⟨z, r, rfl, hz, h3a⟩ := h3.l
    obtain rfl := h3a.nil
    exact W.lret hx hb (hrt.trans hr) (fun t ht hW => ⟨⟨some (.inr (.inl x)), σ, ad, some (.long z), rfl, hk, by rw [ht]; exact h1, h4.2.2.1, ⟨z, rfl, hz⟩⟩, h4.1.F ht⟩) h4.1.2.2 hd hlocks
  · intro pc lv n σ x hn hd hr hk ad H locs ls st' hA
    obtain ⟨h1, h2, h3, h4⟩ := hA
    obtain ⟨rfl, hk⟩ := hKR _ _ _ h4.2.1 hn hk
    obtain ⟨w, r, rfl, hw, h3a⟩ := h3.r
    obtain rfl := h3a.nil
    have hv : w = .null ∨ ∃ a, w = .ref a := by
      rcases id hw with ⟨_, rfl⟩ | ⟨_, _, rfl⟩
      · exact Or.inl rfl
      · exact Or.inr ⟨_, rfl⟩
    have hq : ∀ t : State, t.heap = H → s.WarmedH t.vm → mj_Qc G n0 ad0 n K args s (.returned (some w)) t := fun t ht hW => ⟨⟨some (.inr (.inr x)), σ, ad, some w, rfl, hk, by rw [ht]; exact h1, h4.2.2.1, hw⟩, h4.1.F ht⟩
    match rt, hrt, hr with
    | some (.object nm), hrt, _ => exact W.aret hx hb hrt (Or.inl ⟨nm, rfl⟩) hv hq h4.1.2.2 hd hlocks
    | some (.array nm), hrt, _ => exact W.aret hx hb hrt (Or.inr ⟨nm, rfl⟩) hv hq h4.1.2.2 hd hlocks
  · intro pc lv n σ hn hd hr hk ad H locs ls st' hA
    obtain ⟨h1, h2, h3, h4⟩ := hA
    obtain ⟨rfl, hk⟩ := hKR _ _ _ h4.2.1 hn hk
    obtain rfl := h3.nil
    exact W.vret hx hb (hrt.trans hr) (fun t ht hW => ⟨⟨none, σ, ad, none, rfl, hk, by rw [ht]; exact h1, h4.2.2.1, trivial⟩, h4.1.F ht⟩) h4.1.2.2 hd hlocks
end
/-- FROM BLOCK b OF METHOD y the method comes to its end K, at the places top -/
def mj_AtG (d y top n0 : Nat) (K : mK) : mJ := fun b lv st n σ => ∃ t, (mj_pcs y)[b]? = some t ∧ lv.length = mj_max y ∧ ∀ (l : Launch) (G : mG) (p : Program) (e : Env) (R : Room) (s : State) (m : MethodId) (args : Array Value) (below : List Frame) (meth : Method) (c : Code) (ad0 : Nat → Nat),
  mj_Ctx G (mj_on (mj_o y)) (mj_cod y) (mj_max y) (mj_ret y) (mj_ini y) (d + 1) top n0 p R s m args meth c → mj_Go G p l e R s m args below meth c (MQ below (mj_Qc G n0 ad0 top K) args s (top - n0) (mj_SL top - mj_SL n0) (mj_A G)) n0 ad0 t lv st n σ
theorem mj_chkF_iff {y b : Nat} (hy : y < 283) {is : List mI} (hb : (mj_code y)[b]? = some is) : ∃ t, (mj_pcs y)[b]? = some t ∧ mj_chkB (mj_o y) (mj_ini y) (mj_ret y) (mj_max y) (mj_pcs y) (mj_cod y) (b + 1) t is = true := by
  have h := mj_cks283 y hy b (List.getElem?_eq_some_iff.mp hb).1
  unfold mj_chkF at h
  rw [hb] at h
  cases hp : (mj_pcs y)[b]? with
  | none => rw [hp] at h; cases h
  | some t => rw [hp] at h; exact ⟨t, rfl, h⟩
theorem mj_AtG.blk {d y top n0 b : Nat} {K : mK} {lv : mL} {st : List mV} {n : Nat} {σ : mM} {is : List mI} (hy : y < 283) (hb : (mj_code y)[b]? = some is) (htop : top ≤ 218) (hl : lv.length = mj_max y) (hn : n ≤ top)
    {J : mJ} {KR : mK} (hJ : ∀ b lv st n σ, n0 ≤ n → n ≤ top → J b lv st n σ → mj_AtG d y top n0 K b lv st n σ) (hJt : ∀ b lv st n σ, J b lv st n σ → ∃ t, (mj_pcs y)[b]? = some t) (hKR : ∀ r n σ, n0 ≤ n → n ≤ top → KR r n σ → n = top ∧ K r n σ)
    (h : ∀ sx, mj_den sx top (mj_cal d top) J KR (b + 1) is lv st n σ) : mj_AtG d y top n0 K b lv st n σ := by
  obtain ⟨t, ht, hc⟩ := mj_chkF_iff hy hb
  refine ⟨t, ht, hl, fun l G p e R s m args below meth c ad0 C => ?_⟩
  refine mj_block C htop hJt (fun b' t' lv' st' n' σ' h1 h2 h3 h4 => ?_) (mj_retok C hKR) is t lv st n σ hn hl hc (h _)
  intro ad H locs ls st2 hA
  obtain ⟨t2, ht2, -, hgo⟩ := hJ b' lv' st' n' σ' hA.2.2.2.2.1 h2 h4
  rw [h3] at ht2
  cases ht2
  exact hgo l G p e R s m args below meth c ad0 C ad H locs ls st2 hA
/-- a contract from its first block -/
theorem mj_M.of {d y top n : Nat} {as : List mV} {K : mK} {σ : mM} (hy : y < 282) (hz : (mj_lv0 as).length ≤ mj_max y) (h : mj_AtG d y top n K 0 (mj_lv0 as ++ List.replicate (mj_max y - (mj_lv0 as).length) none) [] n σ) : mj_M (d + 1) y as n top σ K := by
  intro l G ad vs hvs hS1 hS2
  obtain ⟨b1, b2, b3, b4, b5⟩ := mj_moB_iff (mj_moB_all y hy)
  refine va_MetF (cc := mj_cod y) (maxL := mj_max y) (ret := mj_ret y) b3 rfl ?_
  intro p e s m args below meth c s₁ B hml hv
  obtain ⟨rfl, hm, hK, hX⟩ := hv
  have hts := atoms_spec (ws := mj_ws y) B.pre
  have hown : s.vm.findClass (mj_nam y).cls = some m.cls := findClass_of_methodNamed B.named
  obtain ⟨t, ht, hlen, hgo⟩ := h
  have ht0 : t = 0 := mj_pcs0 y (by omega) t ht
  subst ht0
  have hl := lv_entry vs (n := mj_max y) (by rw [mj_lv0_len hvs]; exact hz)
  rw [lg_entry_eq]
  have hW := hgo l G p e (mj_rm (d + 1) top n) s m vs.toArray below meth c ad ⟨B.exec, B.bytes, hml, by rw [mj_ons y (by omega), b5]; exact hown, fun w hw => hts w (List.mem_cons_of_mem _ hw), B.returns, B.notSynchronized, fun hi => by
    have hkd : mj_kd y = 2 := Nat.eq_of_beq_eq_true hi
    have h9 := (mj_mk282 y hy).2.2
    rw [hkd] at h9
    exact (name_of_methodNamed B.named B.method).1.trans h9.2.1, hK, hX, Nat.le_refl _, Nat.le_refl _, Nat.le_refl _, Nat.le_refl _⟩ ad s.heap [] ((lg_sl vs ++ List.replicate (mj_max y - (lg_sl vs).length) Slot.unset).toArray) [] ⟨hm, mj_lv0_rel hvs hl hz, trivial, va_S.rf, Nat.le_refl _, fun _ _ => rfl, hS1, hS2⟩
  rw [Nat.sub_self, Nat.sub_self] at hW
  exact hW
