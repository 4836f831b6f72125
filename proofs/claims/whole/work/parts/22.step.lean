section
variable {G : mG} {p : Program} {l : Launch} {e : Env} {R : Room} {s : State} {m : MethodId} {args : Array Value} {below : List Frame} {meth : Method} {c : Code} {Q : State → Prop} {n0 : Nat} {ad0 : Nat → Nat} {cc : ByteArray} {pc : Nat} {lv : mL} {st : List mV} {n : Nat} {σ : mM} {top : Nat}
/-- the ends of a method -/
def mj_RetOK (G : mG) (p : Program) (l : Launch) (e : Env) (R : Room) (s : State) (m : MethodId) (args : Array Value) (below : List Frame) (meth : Method) (c : Code) (Q : State → Prop) (n0 : Nat) (ad0 : Nat → Nat) (cc : ByteArray) (rt : Option FieldType) (top : Nat) (KR : mK) : Prop :=
  (∀ pc lv n σ x, n ≤ top → decode cc pc = .ok (.ireturn, 1) → mj_rk rt < 3 → mj_rkc (mj_rk rt) x → KR (some (.inl x)) n σ → mj_Go G p l e R s m args below meth c Q n0 ad0 pc lv [.inl x] n σ) ∧
  (∀ pc lv n σ x, n ≤ top → decode cc pc = .ok (.lreturn, 1) → rt = some .long → KR (some (.inr (.inl x))) n σ → mj_Go G p l e R s m args below meth c Q n0 ad0 pc lv [.inr (.inl x)] n σ) ∧
  (∀ pc lv n σ x, n ≤ top → decode cc pc = .ok (.areturn, 1) → mj_rro rt = true → KR (some (.inr (.inr x))) n σ → mj_Go G p l e R s m args below meth c Q n0 ad0 pc lv [.inr (.inr x)] n σ) ∧
  (∀ pc lv n σ, n ≤ top → decode cc pc = .ok (.return_, 1) → rt = none → KR none n σ → mj_Go G p l e R s m args below meth c Q n0 ad0 pc lv [] n σ)
set_option maxHeartbeats 4000000 in
theorem mj_step {o d nL len : Nat} {ini : Bool} {rt : Option FieldType} {pcs : List Nat} {i0 : Instr} {i : mI} {J : mJ} {KR : mK} {k : mL → List mV → Nat → mM → Prop} (C : mj_Ctx G (mj_on o) cc nL rt ini (d + 1) top n0 p R s m args meth c) (htop : top ≤ 218) (hnt : n ≤ top) (hnL : lv.length = nL) (hd : decode cc pc = .ok (i0, len)) (hc : mj_chk o ini rt nL pcs pc i0 len i = true)
    (h : mj_op (mj_sx G) top (mj_cal d top) J KR i lv st n σ k) (kk : ∀ lv' st' n' σ', lv'.length = nL → n ≤ n' → n' ≤ top → k lv' st' n' σ' → mj_Go G p l e R s m args below meth c Q n0 ad0 (pc + len) lv' st' n' σ')
    (kJ : ∀ (b t : Nat) lv' st' σ', lv'.length = nL → pcs[b]? = some t → J b lv' st' n σ' → mj_Go G p l e R s m args below meth c Q n0 ad0 t lv' st' n σ') (kR : mj_RetOK G p l e R s m args below meth c Q n0 ad0 cc rt top KR) : mj_Go G p l e R s m args below meth c Q n0 ad0 pc lv st n σ := by
  obtain ⟨hx, hb, hml, hown, hts, hrt, hlocks, hini, hK, hX, hR1, hR2, hR3, hR4⟩ := C
  cases i0 with
  | iadd =>
    obtain ⟨hl, hi⟩ := mj_and hc
    obtain rfl := Nat.eq_of_beq_eq_true hl
    obtain ⟨i1, a, b, z⟩ := i
    obtain rfl := of_decide_eq_true hi
    have h : mj_pi st fun y st => mj_pi st fun x st => k lv (.inl (w32 (x + y)) :: st) n σ := h
    obtain ⟨y, s0, rfl, h0⟩ := mj_pi_iff h
    obtain ⟨x, s1, rfl, h1⟩ := mj_pi_iff h0
    exact g_iadd hx hb hd (kk _ _ _ _ hnL (Nat.le_refl n) hnt h1)
  | isub =>
    obtain ⟨hl, hi⟩ := mj_and hc
    obtain rfl := Nat.eq_of_beq_eq_true hl
    obtain ⟨i1, a, b, z⟩ := i
    obtain rfl := of_decide_eq_true hi
    have h : mj_pi st fun y st => mj_pi st fun x st => k lv (.inl (w32 (x - y)) :: st) n σ := h
    obtain ⟨y, s0, rfl, h0⟩ := mj_pi_iff h
    obtain ⟨x, s1, rfl, h1⟩ := mj_pi_iff h0
    exact g_isub hx hb hd (kk _ _ _ _ hnL (Nat.le_refl n) hnt h1)
  | imul =>
    obtain ⟨hl, hi⟩ := mj_and hc
    obtain rfl := Nat.eq_of_beq_eq_true hl
    obtain ⟨i1, a, b, z⟩ := i
    obtain rfl := of_decide_eq_true hi
    have h : mj_pi st fun y st => mj_pi st fun x st => k lv (.inl (w32 (x * y)) :: st) n σ := h
    obtain ⟨y, s0, rfl, h0⟩ := mj_pi_iff h
    obtain ⟨x, s1, rfl, h1⟩ := mj_pi_iff h0
    exact g_imul hx hb hd (kk _ _ _ _ hnL (Nat.le_refl n) hnt h1)
  | idiv =>
    obtain ⟨hl, hi⟩ := mj_and hc
    obtain rfl := Nat.eq_of_beq_eq_true hl
    obtain ⟨i1, a, b, z⟩ := i
    obtain rfl := of_decide_eq_true hi
    have h : mj_pi st fun y st => mj_pi st fun x st => y ≠ 0 ∧ k lv (.inl (w32 (x.tdiv y)) :: st) n σ := h
    obtain ⟨y, s0, rfl, h0⟩ := mj_pi_iff h
    obtain ⟨x, s1, rfl, h1⟩ := mj_pi_iff h0
    exact g_idiv hx hb h1.1 hd (kk _ _ _ _ hnL (Nat.le_refl n) hnt h1.2)
  | irem =>
    obtain ⟨hl, hi⟩ := mj_and hc
    obtain rfl := Nat.eq_of_beq_eq_true hl
    obtain ⟨i1, a, b, z⟩ := i
    obtain rfl := of_decide_eq_true hi
    have h : mj_pi st fun y st => mj_pi st fun x st => y ≠ 0 ∧ k lv (.inl (x.tmod y) :: st) n σ := h
    obtain ⟨y, s0, rfl, h0⟩ := mj_pi_iff h
    obtain ⟨x, s1, rfl, h1⟩ := mj_pi_iff h0
    exact g_irem hx hb h1.1 hd (kk _ _ _ _ hnL (Nat.le_refl n) hnt h1.2)
  | iand =>
    obtain ⟨hl, hi⟩ := mj_and hc
    obtain rfl := Nat.eq_of_beq_eq_true hl
    obtain ⟨i1, a, b, z⟩ := i
    obtain rfl := of_decide_eq_true hi
    have h : mj_pi st fun y st => mj_pi st fun x st => k lv (.inl (i_and x y) :: st) n σ := h
    obtain ⟨y, s0, rfl, h0⟩ := mj_pi_iff h
    obtain ⟨x, s1, rfl, h1⟩ := mj_pi_iff h0
    exact g_iand hx hb hd (kk _ _ _ _ hnL (Nat.le_refl n) hnt h1)
  | ior =>
    obtain ⟨hl, hi⟩ := mj_and hc
    obtain rfl := Nat.eq_of_beq_eq_true hl
    obtain ⟨i1, a, b, z⟩ := i
    obtain rfl := of_decide_eq_true hi
    have h : mj_pi st fun y st => mj_pi st fun x st => k lv (.inl (i_or x y) :: st) n σ := h
    obtain ⟨y, s0, rfl, h0⟩ := mj_pi_iff h
    obtain ⟨x, s1, rfl, h1⟩ := mj_pi_iff h0
    exact g_ior hx hb hd (kk _ _ _ _ hnL (Nat.le_refl n) hnt h1)
  | ixor =>
    obtain ⟨hl, hi⟩ := mj_and hc
    obtain rfl := Nat.eq_of_beq_eq_true hl
    obtain ⟨i1, a, b, z⟩ := i
    obtain rfl := of_decide_eq_true hi
    have h : mj_pi st fun y st => mj_pi st fun x st => k lv (.inl (i_xor x y) :: st) n σ := h
    obtain ⟨y, s0, rfl, h0⟩ := mj_pi_iff h
    obtain ⟨x, s1, rfl, h1⟩ := mj_pi_iff h0
    exact g_ixor hx hb hd (kk _ _ _ _ hnL (Nat.le_refl n) hnt h1)
  | ishl =>
    obtain ⟨hl, hi⟩ := mj_and hc
    obtain rfl := Nat.eq_of_beq_eq_true hl
    obtain ⟨i1, a, b, z⟩ := i
    obtain rfl := of_decide_eq_true hi
    have h : mj_pi st fun y st => mj_pi st fun x st => k lv (.inl (i_shl x y) :: st) n σ := h
    obtain ⟨y, s0, rfl, h0⟩ := mj_pi_iff h
    obtain ⟨x, s1, rfl, h1⟩ := mj_pi_iff h0
    exact g_ishl hx hb hd (kk _ _ _ _ hnL (Nat.le_refl n) hnt h1)
  | ishr =>
    obtain ⟨hl, hi⟩ := mj_and hc
    obtain rfl := Nat.eq_of_beq_eq_true hl
    obtain ⟨i1, a, b, z⟩ := i
    obtain rfl := of_decide_eq_true hi
    have h : mj_pi st fun y st => mj_pi st fun x st => k lv (.inl (i_shr x y) :: st) n σ := h
    obtain ⟨y, s0, rfl, h0⟩ := mj_pi_iff h
    obtain ⟨x, s1, rfl, h1⟩ := mj_pi_iff h0
    exact g_ishr hx hb hd (kk _ _ _ _ hnL (Nat.le_refl n) hnt h1)
  | iushr =>
    obtain ⟨hl, hi⟩ := mj_and hc
    obtain rfl := Nat.eq_of_beq_eq_true hl
    obtain ⟨i1, a, b, z⟩ := i
    obtain rfl := of_decide_eq_true hi
    have h : mj_pi st fun y st => mj_pi st fun x st => k lv (.inl (i_ushr x y) :: st) n σ := h
    obtain ⟨y, s0, rfl, h0⟩ := mj_pi_iff h
    obtain ⟨x, s1, rfl, h1⟩ := mj_pi_iff h0
    exact g_iushr hx hb hd (kk _ _ _ _ hnL (Nat.le_refl n) hnt h1)
  | ladd =>
    obtain ⟨hl, hi⟩ := mj_and hc
    obtain rfl := Nat.eq_of_beq_eq_true hl
    obtain ⟨i1, a, b, z⟩ := i
    obtain rfl := of_decide_eq_true hi
    have h : mj_pl st fun y st => mj_pl st fun x st => k lv (.inr (.inl (w64 (x + y))) :: st) n σ := h
    obtain ⟨y, s0, rfl, h0⟩ := mj_pl_iff h
    obtain ⟨x, s1, rfl, h1⟩ := mj_pl_iff h0
    exact g_ladd hx hb hd (kk _ _ _ _ hnL (Nat.le_refl n) hnt h1)
  | lsub =>
    obtain ⟨hl, hi⟩ := mj_and hc
    obtain rfl := Nat.eq_of_beq_eq_true hl
    obtain ⟨i1, a, b, z⟩ := i
    obtain rfl := of_decide_eq_true hi
    have h : mj_pl st fun y st => mj_pl st fun x st => k lv (.inr (.inl (w64 (x - y))) :: st) n σ := h
    obtain ⟨y, s0, rfl, h0⟩ := mj_pl_iff h
    obtain ⟨x, s1, rfl, h1⟩ := mj_pl_iff h0
    exact g_lsub hx hb hd (kk _ _ _ _ hnL (Nat.le_refl n) hnt h1)
  | lmul =>
    obtain ⟨hl, hi⟩ := mj_and hc
    obtain rfl := Nat.eq_of_beq_eq_true hl
    obtain ⟨i1, a, b, z⟩ := i
    obtain rfl := of_decide_eq_true hi
    have h : mj_pl st fun y st => mj_pl st fun x st => k lv (.inr (.inl (w64 (x * y))) :: st) n σ := h
    obtain ⟨y, s0, rfl, h0⟩ := mj_pl_iff h
    obtain ⟨x, s1, rfl, h1⟩ := mj_pl_iff h0
    exact g_lmul hx hb hd (kk _ _ _ _ hnL (Nat.le_refl n) hnt h1)
  | ldiv =>
    obtain ⟨hl, hi⟩ := mj_and hc
    obtain rfl := Nat.eq_of_beq_eq_true hl
    obtain ⟨i1, a, b, z⟩ := i
    obtain rfl := of_decide_eq_true hi
    have h : mj_pl st fun y st => mj_pl st fun x st => y ≠ 0 ∧ k lv (.inr (.inl (w64 (x.tdiv y))) :: st) n σ := h
    obtain ⟨y, s0, rfl, h0⟩ := mj_pl_iff h
    obtain ⟨x, s1, rfl, h1⟩ := mj_pl_iff h0
    exact g_ldiv hx hb h1.1 hd (kk _ _ _ _ hnL (Nat.le_refl n) hnt h1.2)
  | lrem =>
    obtain ⟨hl, hi⟩ := mj_and hc
    obtain rfl := Nat.eq_of_beq_eq_true hl
    obtain ⟨i1, a, b, z⟩ := i
    obtain rfl := of_decide_eq_true hi
    have h : mj_pl st fun y st => mj_pl st fun x st => y ≠ 0 ∧ k lv (.inr (.inl (x.tmod y)) :: st) n σ := h
    obtain ⟨y, s0, rfl, h0⟩ := mj_pl_iff h
    obtain ⟨x, s1, rfl, h1⟩ := mj_pl_iff h0
    exact g_lrem hx hb h1.1 hd (kk _ _ _ _ hnL (Nat.le_refl n) hnt h1.2)
  | land =>
    obtain ⟨hl, hi⟩ := mj_and hc
    obtain rfl := Nat.eq_of_beq_eq_true hl
    obtain ⟨i1, a, b, z⟩ := i
    obtain rfl := of_decide_eq_true hi
    have h : mj_pl st fun y st => mj_pl st fun x st => k lv (.inr (.inl (l_and x y)) :: st) n σ := h
    obtain ⟨y, s0, rfl, h0⟩ := mj_pl_iff h
    obtain ⟨x, s1, rfl, h1⟩ := mj_pl_iff h0
    exact g_land hx hb hd (kk _ _ _ _ hnL (Nat.le_refl n) hnt h1)
  | lor =>
    obtain ⟨hl, hi⟩ := mj_and hc
    obtain rfl := Nat.eq_of_beq_eq_true hl
    obtain ⟨i1, a, b, z⟩ := i
    obtain rfl := of_decide_eq_true hi
    have h : mj_pl st fun y st => mj_pl st fun x st => k lv (.inr (.inl (l_or x y)) :: st) n σ := h
    obtain ⟨y, s0, rfl, h0⟩ := mj_pl_iff h
    obtain ⟨x, s1, rfl, h1⟩ := mj_pl_iff h0
    exact g_lor hx hb hd (kk _ _ _ _ hnL (Nat.le_refl n) hnt h1)
  | lshl =>
    obtain ⟨hl, hi⟩ := mj_and hc
    obtain rfl := Nat.eq_of_beq_eq_true hl
    obtain ⟨i1, a, b, z⟩ := i
    obtain rfl := of_decide_eq_true hi
    have h : mj_pi st fun y st => mj_pl st fun x st => k lv (.inr (.inl (l_shl x y)) :: st) n σ := h
    obtain ⟨y, s0, rfl, h0⟩ := mj_pi_iff h
    obtain ⟨x, s1, rfl, h1⟩ := mj_pl_iff h0
    exact g_lshl hx hb hd (kk _ _ _ _ hnL (Nat.le_refl n) hnt h1)
  | lshr =>
    obtain ⟨hl, hi⟩ := mj_and hc
    obtain rfl := Nat.eq_of_beq_eq_true hl
    obtain ⟨i1, a, b, z⟩ := i
    obtain rfl := of_decide_eq_true hi
    have h : mj_pi st fun y st => mj_pl st fun x st => k lv (.inr (.inl (l_shr x y)) :: st) n σ := h
    obtain ⟨y, s0, rfl, h0⟩ := mj_pi_iff h
    obtain ⟨x, s1, rfl, h1⟩ := mj_pl_iff h0
    exact g_lshr hx hb hd (kk _ _ _ _ hnL (Nat.le_refl n) hnt h1)
  | lcmp =>
    obtain ⟨hl, hi⟩ := mj_and hc
    obtain rfl := Nat.eq_of_beq_eq_true hl
    obtain ⟨i1, a, b, z⟩ := i
    obtain rfl := of_decide_eq_true hi
    have h : mj_pl st fun y st => mj_pl st fun x st => k lv (.inl (l_cmp x y) :: st) n σ := h
    obtain ⟨y, s0, rfl, h0⟩ := mj_pl_iff h
    obtain ⟨x, s1, rfl, h1⟩ := mj_pl_iff h0
    exact g_lcmp hx hb hd (kk _ _ _ _ hnL (Nat.le_refl n) hnt h1)
  | i2l =>
    obtain ⟨hl, hi⟩ := mj_and hc
    obtain rfl := Nat.eq_of_beq_eq_true hl
    obtain ⟨i1, a, b, z⟩ := i
    obtain rfl := of_decide_eq_true hi
    have h : mj_pi st fun x st => k lv (.inr (.inl x) :: st) n σ := h
    obtain ⟨x, s0, rfl, h0⟩ := mj_pi_iff h
    exact g_i2l hx hb hd (kk _ _ _ _ hnL (Nat.le_refl n) hnt h0)
  | l2i =>
    obtain ⟨hl, hi⟩ := mj_and hc
    obtain rfl := Nat.eq_of_beq_eq_true hl
    obtain ⟨i1, a, b, z⟩ := i
    obtain rfl := of_decide_eq_true hi
    have h : mj_pl st fun x st => k lv (.inl (w32 x) :: st) n σ := h
    obtain ⟨x, s0, rfl, h0⟩ := mj_pl_iff h
    exact g_l2i hx hb hd (kk _ _ _ _ hnL (Nat.le_refl n) hnt h0)
  | dup =>
    obtain ⟨hl, hi⟩ := mj_and hc
    obtain rfl := Nat.eq_of_beq_eq_true hl
    obtain ⟨i1, a, b, z⟩ := i
    obtain rfl := of_decide_eq_true hi
    cases st with
    | nil => exact (show False from h).elim
    | cons v s =>
      cases v with
      | inl x => exact g_dup hx hb rfl hd (kk _ _ _ _ hnL (Nat.le_refl n) hnt h)
      | inr v =>
        cases v with
        | inl x => exact (show False from h).elim
        | inr x => exact g_dup hx hb rfl hd (kk _ _ _ _ hnL (Nat.le_refl n) hnt h)
  | dup2 =>
    obtain ⟨hl, hi⟩ := mj_and hc
    obtain rfl := Nat.eq_of_beq_eq_true hl
    obtain ⟨i1, a, b, z⟩ := i
    obtain rfl := of_decide_eq_true hi
    cases st with
    | nil => exact (show False from h).elim
    | cons v s =>
      cases v with
      | inl x =>
        cases s with
        | nil => exact (show False from h).elim
        | cons u s =>
          cases u with
          | inl y => exact g_dup2 hx hb rfl rfl hd (kk _ _ _ _ hnL (Nat.le_refl n) hnt h)
          | inr u =>
            cases u with
            | inl y => exact (show False from h).elim
            | inr y => exact g_dup2 hx hb rfl rfl hd (kk _ _ _ _ hnL (Nat.le_refl n) hnt h)
      | inr v =>
        cases v with
        | inl x => exact g_dup22 hx hb rfl hd (kk _ _ _ _ hnL (Nat.le_refl n) hnt h)
        | inr x => exact (show False from h).elim
  | pop =>
    obtain ⟨hl, hi⟩ := mj_and hc
    obtain rfl := Nat.eq_of_beq_eq_true hl
    obtain ⟨i1, a, b, z⟩ := i
    obtain rfl := of_decide_eq_true hi
    cases st with
    | nil => exact (show False from h).elim
    | cons v s =>
      cases v with
      | inl x => exact g_pop hx hb rfl hd (kk _ _ _ _ hnL (Nat.le_refl n) hnt h)
      | inr v => exact (show False from h).elim
  | iconst v =>
    obtain ⟨hl9, hr⟩ := mj_and hc
    obtain ⟨hl, hi⟩ := mj_and hl9
    obtain rfl := Nat.eq_of_beq_eq_true hl
    obtain ⟨i1, a, b, z⟩ := i
    obtain rfl := of_decide_eq_true hi
    exact g_iconst hx hb hd (of_decide_eq_true hr) (kk _ _ _ _ hnL (Nat.le_refl n) hnt h)
  | bipush v =>
    obtain ⟨hl9, hr⟩ := mj_and hc
    obtain ⟨hl, hi⟩ := mj_and hl9
    obtain rfl := Nat.eq_of_beq_eq_true hl
    obtain ⟨i1, a, b, z⟩ := i
    obtain rfl := of_decide_eq_true hi
    exact g_bipush hx hb hd (of_decide_eq_true hr) (kk _ _ _ _ hnL (Nat.le_refl n) hnt h)
  | sipush v =>
    obtain ⟨hl9, hr⟩ := mj_and hc
    obtain ⟨hl, hi⟩ := mj_and hl9
    obtain rfl := Nat.eq_of_beq_eq_true hl
    obtain ⟨i1, a, b, z⟩ := i
    obtain rfl := of_decide_eq_true hi
    exact g_sipush hx hb hd (of_decide_eq_true hr) (kk _ _ _ _ hnL (Nat.le_refl n) hnt h)
  | lconst v =>
    obtain ⟨hl, hi⟩ := mj_and hc
    obtain rfl := Nat.eq_of_beq_eq_true hl
    obtain ⟨i1, a, b, z⟩ := i
    obtain rfl := of_decide_eq_true hi
    exact g_lconst hx hb hd rfl (kk _ _ _ _ hnL (Nat.le_refl n) hnt h)
  | ldc_w j =>
    obtain ⟨hl, hi⟩ := mj_and hc
    obtain rfl := Nat.eq_of_beq_eq_true hl
    obtain ⟨i1, a, b, z⟩ := i
    match i1, hi, h with
    | .sipush v, hi, h =>
      obtain ⟨x, hw, hv⟩ := mj_ki _ (List.contains_iff_mem.mp hi)
      exact g_ldcw hx hb hown (hts _ hw) hd hv (kk _ _ _ _ hnL (Nat.le_refl n) hnt h)
  | ldc j =>
    obtain ⟨hl, hi⟩ := mj_and hc
    obtain rfl := Nat.eq_of_beq_eq_true hl
    obtain ⟨i1, a, b, z⟩ := i
    match i1, hi, h with
    | .sipush v, hi, h =>
      obtain ⟨x, hw, hv⟩ := mj_ki _ (List.contains_iff_mem.mp hi)
      exact g_ldc hx hb hown (hts _ hw) hd hv (kk _ _ _ _ hnL (Nat.le_refl n) hnt h)
    | .ldc w, hi, h =>
      obtain ⟨e1, e2⟩ := mj_and hi
      obtain rfl := Nat.eq_of_beq_eq_true e1
      obtain rfl := Nat.eq_of_beq_eq_true e2
      exact g_ldcs hx hb hown hX hd (kk _ _ _ _ hnL (Nat.le_refl n) hnt h)
  | ldc2_w j =>
    obtain ⟨hl, hi⟩ := mj_and hc
    obtain rfl := Nat.eq_of_beq_eq_true hl
    obtain ⟨i1, a, b, z⟩ := i
    match i1, hi, h with
    | .jsr v, hi, h =>
      obtain ⟨x, hw, hv⟩ := mj_kl _ (List.contains_iff_mem.mp hi)
      exact g_ldc2 hx hb hown (hts _ hw) hd hv (kk _ _ _ _ hnL (Nat.le_refl n) hnt h)
  | iload j =>
    obtain ⟨hl, hi⟩ := mj_and hc
    obtain rfl := Nat.eq_of_beq_eq_true hl
    obtain ⟨i1, a, b, z⟩ := i
    obtain rfl := of_decide_eq_true hi
    have h : (match lv.getD j none with
      | some (.inl x) => k lv (.inl x :: st) n σ
      | _ => False) := h
    split at h
    · rename_i x hx9
      exact g_iload hx hb hx9 hd (kk _ _ _ _ hnL (Nat.le_refl n) hnt h)
    · exact h.elim
  | iload_n f =>
    obtain ⟨hl, hi⟩ := mj_and hc
    obtain rfl := Nat.eq_of_beq_eq_true hl
    obtain ⟨i1, a, b, z⟩ := i
    obtain rfl := of_decide_eq_true hi
    have h : (match lv.getD (f : Nat) none with
      | some (.inl x) => k lv (.inl x :: st) n σ
      | _ => False) := h
    split at h
    · rename_i x hx9
      exact g_iloadn hx hb rfl hx9 hd (kk _ _ _ _ hnL (Nat.le_refl n) hnt h)
    · exact h.elim
  | istore j =>
    obtain ⟨hl9, hn9⟩ := mj_and hc
    obtain ⟨hl, hi⟩ := mj_and hl9
    obtain rfl := Nat.eq_of_beq_eq_true hl
    obtain ⟨i1, a, b, z⟩ := i
    obtain rfl := of_decide_eq_true hi
    have h : mj_pi st fun x st => k (mj_st1 lv j (.inl x)) st n σ := h
    obtain ⟨x, s0, rfl, h0⟩ := mj_pi_iff h
    exact g_istore hx hb (by rw [hnL]; exact Nat.blt_eq.mp hn9) hd (kk _ _ _ _ (by rw [← hnL]; simp [mj_st1, mj_clr_len]) (Nat.le_refl n) hnt h0)
  | istore_n f =>
    obtain ⟨hl9, hn9⟩ := mj_and hc
    obtain ⟨hl, hi⟩ := mj_and hl9
    obtain rfl := Nat.eq_of_beq_eq_true hl
    obtain ⟨i1, a, b, z⟩ := i
    obtain rfl := of_decide_eq_true hi
    have h : mj_pi st fun x st => k (mj_st1 lv (f : Nat) (.inl x)) st n σ := h
    obtain ⟨x, s0, rfl, h0⟩ := mj_pi_iff h
    exact g_istoren hx hb rfl (by rw [hnL]; exact Nat.blt_eq.mp hn9) hd (kk _ _ _ _ (by rw [← hnL]; simp [mj_st1, mj_clr_len]) (Nat.le_refl n) hnt h0)
  | lload j =>
    obtain ⟨hl, hi⟩ := mj_and hc
    obtain rfl := Nat.eq_of_beq_eq_true hl
    obtain ⟨i1, a, b, z⟩ := i
    obtain rfl := of_decide_eq_true hi
    have h : (match lv.getD j none with
      | some (.inr (.inl x)) => k lv (.inr (.inl x) :: st) n σ
      | _ => False) := h
    split at h
    · rename_i x hx9
      exact g_lload hx hb hx9 hd (kk _ _ _ _ hnL (Nat.le_refl n) hnt h)
    · exact h.elim
  | lload_n f =>
    obtain ⟨hl, hi⟩ := mj_and hc
    obtain rfl := Nat.eq_of_beq_eq_true hl
    obtain ⟨i1, a, b, z⟩ := i
    obtain rfl := of_decide_eq_true hi
    have h : (match lv.getD (f : Nat) none with
      | some (.inr (.inl x)) => k lv (.inr (.inl x) :: st) n σ
      | _ => False) := h
    split at h
    · rename_i x hx9
      exact g_lloadn hx hb rfl hx9 hd (kk _ _ _ _ hnL (Nat.le_refl n) hnt h)
    · exact h.elim
  | lstore j =>
    obtain ⟨hl9, hn9⟩ := mj_and hc
    obtain ⟨hl, hi⟩ := mj_and hl9
    obtain rfl := Nat.eq_of_beq_eq_true hl
    obtain ⟨i1, a, b, z⟩ := i
    obtain rfl := of_decide_eq_true hi
    have h : mj_pl st fun x st => k (mj_st2 lv j (.inr (.inl x))) st n σ := h
    obtain ⟨x, s0, rfl, h0⟩ := mj_pl_iff h
    exact g_lstore hx hb (by rw [hnL]; exact Nat.blt_eq.mp hn9) hd (kk _ _ _ _ (by rw [← hnL]; simp [mj_st2, mj_clr_len]) (Nat.le_refl n) hnt h0)
  | lstore_n f =>
    obtain ⟨hl9, hn9⟩ := mj_and hc
    obtain ⟨hl, hi⟩ := mj_and hl9
    obtain rfl := Nat.eq_of_beq_eq_true hl
    obtain ⟨i1, a, b, z⟩ := i
    obtain rfl := of_decide_eq_true hi
    have h : mj_pl st fun x st => k (mj_st2 lv (f : Nat) (.inr (.inl x))) st n σ := h
    obtain ⟨x, s0, rfl, h0⟩ := mj_pl_iff h
    exact g_lstoren hx hb rfl (by rw [hnL]; exact Nat.blt_eq.mp hn9) hd (kk _ _ _ _ (by rw [← hnL]; simp [mj_st2, mj_clr_len]) (Nat.le_refl n) hnt h0)
  | aload j =>
    obtain ⟨hl, hi⟩ := mj_and hc
    obtain rfl := Nat.eq_of_beq_eq_true hl
    obtain ⟨i1, a, b, z⟩ := i
    obtain rfl := of_decide_eq_true hi
    have h : (match lv.getD j none with
      | some (.inr (.inr x)) => k lv (.inr (.inr x) :: st) n σ
      | _ => False) := h
    split at h
    · rename_i x hx9
      exact g_aload hx hb hx9 hd (kk _ _ _ _ hnL (Nat.le_refl n) hnt h)
    · exact h.elim
  | aload_n f =>
    obtain ⟨hl, hi⟩ := mj_and hc
    obtain rfl := Nat.eq_of_beq_eq_true hl
    obtain ⟨i1, a, b, z⟩ := i
    obtain rfl := of_decide_eq_true hi
    have h : (match lv.getD (f : Nat) none with
      | some (.inr (.inr x)) => k lv (.inr (.inr x) :: st) n σ
      | _ => False) := h
    split at h
    · rename_i x hx9
      exact g_aloadn hx hb rfl hx9 hd (kk _ _ _ _ hnL (Nat.le_refl n) hnt h)
    · exact h.elim
  | astore j =>
    obtain ⟨hl9, hn9⟩ := mj_and hc
    obtain ⟨hl, hi⟩ := mj_and hl9
    obtain rfl := Nat.eq_of_beq_eq_true hl
    obtain ⟨i1, a, b, z⟩ := i
    obtain rfl := of_decide_eq_true hi
    have h : mj_pr st fun x st => k (mj_st1 lv j (.inr (.inr x))) st n σ := h
    obtain ⟨x, s0, rfl, h0⟩ := mj_pr_iff h
    exact g_astore hx hb (by rw [hnL]; exact Nat.blt_eq.mp hn9) hd (kk _ _ _ _ (by rw [← hnL]; simp [mj_st1, mj_clr_len]) (Nat.le_refl n) hnt h0)
  | astore_n f =>
    obtain ⟨hl9, hn9⟩ := mj_and hc
    obtain ⟨hl, hi⟩ := mj_and hl9
    obtain rfl := Nat.eq_of_beq_eq_true hl
    obtain ⟨i1, a, b, z⟩ := i
    obtain rfl := of_decide_eq_true hi
    have h : mj_pr st fun x st => k (mj_st1 lv (f : Nat) (.inr (.inr x))) st n σ := h
    obtain ⟨x, s0, rfl, h0⟩ := mj_pr_iff h
    exact g_astoren hx hb rfl (by rw [hnL]; exact Nat.blt_eq.mp hn9) hd (kk _ _ _ _ (by rw [← hnL]; simp [mj_st1, mj_clr_len]) (Nat.le_refl n) hnt h0)
  | iinc j v =>
    obtain ⟨hl9, hr⟩ := mj_and hc
    obtain ⟨hl, hi⟩ := mj_and hl9
    obtain rfl := Nat.eq_of_beq_eq_true hl
    obtain ⟨i1, a, b, z⟩ := i
    obtain rfl := of_decide_eq_true hi
    have h : (match lv.getD j none with
      | some (.inl x) => k (mj_st1 lv j (.inl (w32 (x + v)))) st n σ
      | _ => False) := h
    split at h
    · rename_i x hx9
      exact g_iinc hx hb hx9 (of_decide_eq_true hr) hd (kk _ _ _ _ (by rw [← hnL]; simp [mj_st1, mj_clr_len]) (Nat.le_refl n) hnt h)
    · exact h.elim
  | getfield j =>
    obtain ⟨hl, hi⟩ := mj_and hc
    obtain rfl := Nat.eq_of_beq_eq_true hl
    obtain ⟨i1, a, b, z⟩ := i
    match i1, hi, h with
    | .getfield t, hi, h =>
      obtain ⟨hi, c4⟩ := mj_and hi
      obtain ⟨hi, c3⟩ := mj_and hi
      obtain ⟨c1, c2⟩ := mj_and hi
      have h : mj_pr st fun q st => bif mj_is n q a then k lv (mj_tg t (σ q b) :: st) n σ else False := h
      obtain ⟨q, s0, rfl, h0⟩ := mj_pr_iff h
      obtain ⟨hq, h1⟩ := mj_bif h0
      refine g_get hx hb hts hown hK (Nat.blt_eq.mp c1) (Nat.blt_eq.mp c2) (Nat.eq_of_beq_eq_true c3) hq ?_ hd (kk _ _ _ _ hnL (Nat.le_refl n) hnt h1)
      rcases Bool.or_eq_true_iff.mp c4 with c4 | c4
      · exact Or.inl (hts _ (mj_lk o _ (List.contains_iff_mem.mp c4)))
      · obtain ⟨ho, hw⟩ := mj_lk o _ (List.contains_iff_mem.mp c4)
        exact Or.inr ⟨ho, va_Nw.use (mj_lwn_on _ hw) (hX.2.2.2.2.1 _ hw)⟩
  | putfield j =>
    obtain ⟨hl, hi⟩ := mj_and hc
    obtain rfl := Nat.eq_of_beq_eq_true hl
    obtain ⟨i1, a, b, z⟩ := i
    match i1, hi, h with
    | .putfield t, hi, h =>
      obtain ⟨hi, c5⟩ := mj_and hi
      obtain ⟨hi, c4⟩ := mj_and hi
      obtain ⟨hi, c6⟩ := mj_and hi
      obtain ⟨hi, c3⟩ := mj_and hi
      obtain ⟨c1, c2⟩ := mj_and hi
      have c1 := Nat.blt_eq.mp c1
      have c2 := Nat.blt_eq.mp c2
      have c3 := Nat.eq_of_beq_eq_true c3
      have c6 := Nat.le_of_ble_eq_true c6
      have hfin : (mj_T a b).2.2.2 = false ∨ ((mj_T a b).2.2.2 = true ∧ meth.name = "<init>" ∧ (mj_T a b).1 = mj_on o) := by
        rcases Bool.or_eq_true_iff.mp c5 with c5 | c5
        · exact Or.inl (by simpa using c5)
        · obtain ⟨d1, d2⟩ := mj_and c5
          cases hf : (mj_T a b).2.2.2 with
          | false => exact Or.inl rfl
          | true => exact Or.inr ⟨rfl, hini d1, of_decide_eq_true d2⟩
      have hlk := hts _ (mj_lk o _ (List.contains_iff_mem.mp c4))
      match t, c3, c6, h with
      | 0, c3, _, h =>
        have h : mj_pi st fun x st => mj_pr st fun q st => bif mj_is n q a then k lv st n (mj_set σ q b x) else False := h
        obtain ⟨x, s0, rfl, h0⟩ := mj_pi_iff h
        obtain ⟨q, s1, rfl, h1⟩ := mj_pr_iff h0
        obtain ⟨hq, h2⟩ := mj_bif h1
        exact g_put hx hb hts hown hK c1 c2 hfin hq hlk (mj_pt0 c3 x) (fun ad w hw => mj_pf0 c3 hw) hd (kk _ _ _ _ hnL (Nat.le_refl n) hnt h2)
      | 1, c3, _, h =>
        have h : mj_pl st fun x st => mj_pr st fun q st => bif mj_is n q a then k lv st n (mj_set σ q b x) else False := h
        obtain ⟨x, s0, rfl, h0⟩ := mj_pl_iff h
        obtain ⟨q, s1, rfl, h1⟩ := mj_pr_iff h0
        obtain ⟨hq, h2⟩ := mj_bif h1
        exact g_put hx hb hts hown hK c1 c2 hfin hq hlk (mj_pt1 c3 x) (fun ad w hw => mj_pf1 c3 hw) hd (kk _ _ _ _ hnL (Nat.le_refl n) hnt h2)
      | 2, c3, _, h =>
        have h : mj_pr st fun x st => mj_pr st fun q st => bif mj_is n q a then k lv st n (mj_set σ q b (x : Int)) else False := h
        obtain ⟨x, s0, rfl, h0⟩ := mj_pr_iff h
        obtain ⟨q, s1, rfl, h1⟩ := mj_pr_iff h0
        obtain ⟨hq, h2⟩ := mj_bif h1
        exact g_put hx hb hts hown hK c1 c2 hfin hq hlk (mj_pt2 c3 x) (fun ad w hw => mj_pf2 c3 hw) hd (kk _ _ _ _ hnL (Nat.le_refl n) hnt h2)
      | t + 3, c3, c6, h =>
        have h : mj_pi st fun x st => mj_pr st fun q st => bif mj_is n q a then (x = 0 ∨ x = 1) ∧ k lv st n (mj_set σ q b x) else False := h
        obtain ⟨x, s0, rfl, h0⟩ := mj_pi_iff h
        obtain ⟨q, s1, rfl, h1⟩ := mj_pr_iff h0
        obtain ⟨hq, h2, h3⟩ := mj_bif h1
        exact g_put hx hb hts hown hK c1 c2 hfin hq hlk (mj_pt3 c3 x) (fun ad w hw => mj_pf3 c6 c3 h2 hw) hd (kk _ _ _ _ hnL (Nat.le_refl n) hnt h3)
  | iaload =>
    obtain ⟨hl, hi⟩ := mj_and hc
    obtain rfl := Nat.eq_of_beq_eq_true hl
    obtain ⟨i1, a, b, z⟩ := i
    obtain rfl := of_decide_eq_true hi
    have h : mj_pi st fun j st => mj_pr st fun q st => bif Nat.beq q mj_SCR then (0 ≤ j ∧ j < (mj_sx G).1) ∧ k lv (.inl ((mj_sx G).2 j.toNat).toInt :: st) n σ else bif mj_is n q 20 then (0 ≤ j ∧ j < (mj_shp q).2) ∧ k lv (.inl (σ q j.toNat) :: st) n σ else False := h
    obtain ⟨j, s0, rfl, h0⟩ := mj_pi_iff h
    obtain ⟨q, s1, rfl, h1⟩ := mj_pr_iff h0
    cases hS : Nat.beq q mj_SCR with
    | true =>
      rw [hS] at h1
      obtain ⟨h2, h3⟩ := h1
      obtain rfl := Nat.eq_of_beq_eq_true hS
      exact g_sld hx hb hX h2 hd (kk _ _ _ _ hnL (Nat.le_refl n) hnt h3)
    | false =>
      rw [hS] at h1
      obtain ⟨hq, h2, h3⟩ := mj_bif h1
      exact g_iald hx hb hK hq h2 hd (kk _ _ _ _ hnL (Nat.le_refl n) hnt h3)
  | caload =>
    obtain ⟨hl, hi⟩ := mj_and hc
    obtain rfl := Nat.eq_of_beq_eq_true hl
    obtain ⟨i1, a, b, z⟩ := i
    obtain rfl := of_decide_eq_true hi
    have h : mj_pi st fun j st => mj_pr st fun q st => bif mj_is n q 22 then (0 ≤ j ∧ j < (mj_shp q).2) ∧ k lv (.inl (σ q j.toNat) :: st) n σ else False := h
    obtain ⟨j, s0, rfl, h0⟩ := mj_pi_iff h
    obtain ⟨q, s1, rfl, h1⟩ := mj_pr_iff h0
    obtain ⟨hq, h2, h3⟩ := mj_bif h1
    exact g_cald hx hb hK hq h2 hd (kk _ _ _ _ hnL (Nat.le_refl n) hnt h3)
  | baload =>
    obtain ⟨hl, hi⟩ := mj_and hc
    obtain rfl := Nat.eq_of_beq_eq_true hl
    obtain ⟨i1, a, b, z⟩ := i
    obtain rfl := of_decide_eq_true hi
    have h : mj_pi st fun j st => mj_pr st fun q st => bif mj_is n q 23 then (0 ≤ j ∧ j < (mj_shp q).2) ∧ k lv (.inl (σ q j.toNat) :: st) n σ else False := h
    obtain ⟨j, s0, rfl, h0⟩ := mj_pi_iff h
    obtain ⟨q, s1, rfl, h1⟩ := mj_pr_iff h0
    obtain ⟨hq, h2, h3⟩ := mj_bif h1
    exact g_zald hx hb hK hq h2 hd (kk _ _ _ _ hnL (Nat.le_refl n) hnt h3)
  | laload =>
    obtain ⟨hl, hi⟩ := mj_and hc
    obtain rfl := Nat.eq_of_beq_eq_true hl
    obtain ⟨i1, a, b, z⟩ := i
    obtain rfl := of_decide_eq_true hi
    have h : mj_pi st fun j st => mj_pr st fun q st => bif mj_is n q 21 then (0 ≤ j ∧ j < (mj_shp q).2) ∧ k lv (.inr (.inl (σ q j.toNat)) :: st) n σ else False := h
    obtain ⟨j, s0, rfl, h0⟩ := mj_pi_iff h
    obtain ⟨q, s1, rfl, h1⟩ := mj_pr_iff h0
    obtain ⟨hq, h2, h3⟩ := mj_bif h1
    exact g_lald hx hb hK hq h2 hd (kk _ _ _ _ hnL (Nat.le_refl n) hnt h3)
  | aaload =>
    obtain ⟨hl, hi⟩ := mj_and hc
    obtain rfl := Nat.eq_of_beq_eq_true hl
    obtain ⟨i1, a, b, z⟩ := i
    obtain rfl := of_decide_eq_true hi
    have h : mj_pi st fun j st => mj_pr st fun q st => bif mj_is n q 24 || mj_is n q 25 then (0 ≤ j ∧ j < (mj_shp q).2) ∧ k lv (.inr (.inr (σ q j.toNat).toNat) :: st) n σ else False := h
    obtain ⟨j, s0, rfl, h0⟩ := mj_pi_iff h
    obtain ⟨q, s1, rfl, h1⟩ := mj_pr_iff h0
    obtain ⟨hq, h2, h3⟩ := mj_bif h1
    rcases Bool.or_eq_true_iff.mp hq with hq | hq
    · exact g_aald24 hx hb hK hq h2 hd (kk _ _ _ _ hnL (Nat.le_refl n) hnt h3)
    · exact g_aald25 hx hb hK hq h2 hd (kk _ _ _ _ hnL (Nat.le_refl n) hnt h3)
  | iastore =>
    obtain ⟨hl, hi⟩ := mj_and hc
    obtain rfl := Nat.eq_of_beq_eq_true hl
    obtain ⟨i1, a, b, z⟩ := i
    obtain rfl := of_decide_eq_true hi
    have h : mj_pi st fun x st => mj_pi st fun j st => mj_pr st fun q st => bif mj_is n q 20 then (0 ≤ j ∧ j < (mj_shp q).2) ∧ k lv st n (mj_set σ q j.toNat x) else False := h
    obtain ⟨x, s0, rfl, h0⟩ := mj_pi_iff h
    obtain ⟨j, s1, rfl, h1⟩ := mj_pi_iff h0
    obtain ⟨q, s2, rfl, h2⟩ := mj_pr_iff h1
    obtain ⟨hq, h3, h4⟩ := mj_bif h2
    exact g_iast hx hb hK hq h3 hd (kk _ _ _ _ hnL (Nat.le_refl n) hnt h4)
  | castore =>
    obtain ⟨hl, hi⟩ := mj_and hc
    obtain rfl := Nat.eq_of_beq_eq_true hl
    obtain ⟨i1, a, b, z⟩ := i
    obtain rfl := of_decide_eq_true hi
    have h : mj_pi st fun x st => mj_pi st fun j st => mj_pr st fun q st => bif mj_is n q 22 then (0 ≤ j ∧ j < (mj_shp q).2) ∧ (0 ≤ x ∧ x < 65536) ∧ k lv st n (mj_set σ q j.toNat x) else False := h
    obtain ⟨x, s0, rfl, h0⟩ := mj_pi_iff h
    obtain ⟨j, s1, rfl, h1⟩ := mj_pi_iff h0
    obtain ⟨q, s2, rfl, h2⟩ := mj_pr_iff h1
    obtain ⟨hq, h3, h5, h4⟩ := mj_bif h2
    exact g_cast hx hb hK hq h3 h5 hd (kk _ _ _ _ hnL (Nat.le_refl n) hnt h4)
  | bastore =>
    obtain ⟨hl, hi⟩ := mj_and hc
    obtain rfl := Nat.eq_of_beq_eq_true hl
    obtain ⟨i1, a, b, z⟩ := i
    obtain rfl := of_decide_eq_true hi
    have h : mj_pi st fun x st => mj_pi st fun j st => mj_pr st fun q st => bif mj_is n q 23 then (0 ≤ j ∧ j < (mj_shp q).2) ∧ (x = 0 ∨ x = 1) ∧ k lv st n (mj_set σ q j.toNat x) else False := h
    obtain ⟨x, s0, rfl, h0⟩ := mj_pi_iff h
    obtain ⟨j, s1, rfl, h1⟩ := mj_pi_iff h0
    obtain ⟨q, s2, rfl, h2⟩ := mj_pr_iff h1
    obtain ⟨hq, h3, h5, h4⟩ := mj_bif h2
    exact g_zast hx hb hK hq h3 h5 hd (kk _ _ _ _ hnL (Nat.le_refl n) hnt h4)
  | lastore =>
    obtain ⟨hl, hi⟩ := mj_and hc
    obtain rfl := Nat.eq_of_beq_eq_true hl
    obtain ⟨i1, a, b, z⟩ := i
    obtain rfl := of_decide_eq_true hi
    have h : mj_pl st fun x st => mj_pi st fun j st => mj_pr st fun q st => bif mj_is n q 21 then (0 ≤ j ∧ j < (mj_shp q).2) ∧ k lv st n (mj_set σ q j.toNat x) else False := h
    obtain ⟨x, s0, rfl, h0⟩ := mj_pl_iff h
    obtain ⟨j, s1, rfl, h1⟩ := mj_pi_iff h0
    obtain ⟨q, s2, rfl, h2⟩ := mj_pr_iff h1
    obtain ⟨hq, h3, h4⟩ := mj_bif h2
    exact g_last hx hb hK hq h3 hd (kk _ _ _ _ hnL (Nat.le_refl n) hnt h4)
  | aastore =>
    obtain ⟨hl, hi⟩ := mj_and hc
    obtain rfl := Nat.eq_of_beq_eq_true hl
    obtain ⟨i1, a, b, z⟩ := i
    obtain rfl := of_decide_eq_true hi
    have h : mj_pr st fun x st => mj_pi st fun j st => mj_pr st fun q st => bif mj_is n x 7 && mj_is n q 24 || mj_is n x 2 && mj_is n q 25 then (0 ≤ j ∧ j < (mj_shp q).2) ∧ k lv st n (mj_set σ q j.toNat (x : Int)) else False := h
    obtain ⟨x, s0, rfl, h0⟩ := mj_pr_iff h
    obtain ⟨j, s1, rfl, h1⟩ := mj_pi_iff h0
    obtain ⟨q, s2, rfl, h2⟩ := mj_pr_iff h1
    obtain ⟨hq, h3, h4⟩ := mj_bif h2
    rcases Bool.or_eq_true_iff.mp hq with hq | hq
    · obtain ⟨e1, e2⟩ := mj_and hq
      exact g_aast24 hx hb hK e1 e2 h3 hd (kk _ _ _ _ hnL (Nat.le_refl n) hnt h4)
    · obtain ⟨e1, e2⟩ := mj_and hq
      exact g_aast25 hx hb hK e1 e2 h3 hd (kk _ _ _ _ hnL (Nat.le_refl n) hnt h4)
  | arraylength =>
    obtain ⟨hl, hi⟩ := mj_and hc
    obtain rfl := Nat.eq_of_beq_eq_true hl
    obtain ⟨i1, a, b, z⟩ := i
    obtain rfl := of_decide_eq_true hi
    have h : mj_pr st fun q st => bif Nat.beq q mj_SCR then k lv (.inl ((mj_sx G).1 : Int) :: st) n σ else bif Nat.blt q n && Nat.ble 20 (mj_shp q).1 then k lv (.inl ((mj_shp q).2 : Int) :: st) n σ else False := h
    obtain ⟨q, s1, rfl, h1⟩ := mj_pr_iff h
    cases hS : Nat.beq q mj_SCR with
    | true =>
      rw [hS] at h1
      obtain rfl := Nat.eq_of_beq_eq_true hS
      exact g_slen hx hb hX hd (kk _ _ _ _ hnL (Nat.le_refl n) hnt h1)
    | false =>
      rw [hS] at h1
      obtain ⟨hq, h3⟩ := mj_bif h1
      obtain ⟨e1, e2⟩ := mj_and hq
      exact g_alen hx hb hK (Nat.blt_eq.mp e1) (Nat.le_of_ble_eq_true e2) hd (kk _ _ _ _ hnL (Nat.le_refl n) hnt h3)
  | new j =>
    obtain ⟨hl, hi⟩ := mj_and hc
    obtain rfl := Nat.eq_of_beq_eq_true hl
    obtain ⟨i1, a, b, z⟩ := i
    match i1, hi, h with
    | .new ci, hi, h =>
      obtain ⟨c1, c2⟩ := mj_and hi
      have c1 := Nat.blt_eq.mp c1
      have h : bif Nat.blt n top && Nat.beq (mj_shp n).1 ci then k lv (.inr (.inr n) :: st) (n + 1) (mj_new σ n (mj_dfl ci)) else False := h
      obtain ⟨hq, h1⟩ := mj_bif h
      obtain ⟨e1, e2⟩ := mj_and hq
      exact g_new hx hb hts hown hK hX c1 (Nat.blt_eq.mp e1) (Nat.eq_of_beq_eq_true e2) htop hR3 hR4 (hts _ (mj_lk o _ (List.contains_iff_mem.mp c2))) (hts _ (mj_ins ci c1).1) (hts _ (mj_ins ci c1).2) hd (kk _ _ _ _ hnL (Nat.le_succ n) (Nat.blt_eq.mp e1) h1)
  | newarray t =>
    obtain ⟨hl9, hk9⟩ := mj_and hc
    obtain ⟨hl, hi⟩ := mj_and hl9
    obtain rfl := Nat.eq_of_beq_eq_true hl
    obtain ⟨i1, a, b, z⟩ := i
    obtain rfl := of_decide_eq_true hi
    have h : mj_pi st fun x st => bif Nat.blt n top && Nat.beq (mj_shp n).1 a then x = ((mj_shp n).2 : Int) ∧ k lv (.inr (.inr n) :: st) (n + 1) (mj_new σ n (fun _ => 0)) else False := h
    obtain ⟨x, s1, rfl, h0⟩ := mj_pi_iff h
    obtain ⟨hq, h1, h2⟩ := mj_bif h0
    obtain ⟨e1, e2⟩ := mj_and hq
    exact g_newa hx hb hts hK hX hk9 (Nat.blt_eq.mp e1) (Nat.eq_of_beq_eq_true e2) htop hR3 hR4 h1 hd (kk _ _ _ _ hnL (Nat.le_succ n) (Nat.blt_eq.mp e1) h2)
  | anewarray j =>
    obtain ⟨hl, hi⟩ := mj_and hc
    obtain rfl := Nat.eq_of_beq_eq_true hl
    obtain ⟨i1, a, b, z⟩ := i
    match i1, hi, h with
    | .anewarray kd, hi, h =>
      have h : mj_pi st fun x st => bif Nat.blt n top && Nat.beq (mj_shp n).1 kd then x = ((mj_shp n).2 : Int) ∧ k lv (.inr (.inr n) :: st) (n + 1) (mj_new σ n (fun _ => 999999)) else False := h
      obtain ⟨x, s1, rfl, h0⟩ := mj_pi_iff h
      obtain ⟨hq, h1, h2⟩ := mj_bif h0
      obtain ⟨e1, e2⟩ := mj_and hq
      obtain ⟨w1, w2⟩ := mj_lk o _ (List.contains_iff_mem.mp hi)
      refine g_newq (C := if kd = 24 then "NightForecast$Sky" else "NightForecast$Kept") hx hb hown hK hX ?_ (Nat.blt_eq.mp e1) (Nat.eq_of_beq_eq_true e2) htop hR3 hR4 h1 (hts _ w1) hd (kk _ _ _ _ hnL (Nat.le_succ n) (Nat.blt_eq.mp e1) h2)
      rcases w2 with w2 | w2
      · have w2 : kd = 24 := w2
        exact Or.inl ⟨w2, by rw [if_pos w2]⟩
      · have w2 : kd = 25 := w2
        exact Or.inr ⟨w2, by rw [if_neg (by omega)]⟩
  | invokevirtual j =>
    obtain ⟨hl, hi⟩ := mj_and hc
    obtain rfl := Nat.eq_of_beq_eq_true hl
    obtain ⟨i1, a, b, z⟩ := i
    match i1, hi, h with
    | .invokevirtual y, hi, h =>
      obtain ⟨hi, c5⟩ := mj_and hi
      obtain ⟨hi, c4⟩ := mj_and hi
      obtain ⟨hi, c3⟩ := mj_and hi
      obtain ⟨c1, c2⟩ := mj_and hi
      refine g_callV (f := fun as st => Nat.ble (mj_sum st) 8 = true ∧ (match as with
        | .inr (.inr q) :: _ => bif mj_is n q b then mj_cal d top y as n σ (fun r n' σ' => k lv (r.toList ++ st) n' σ') else False
        | _ => False)) (K := fun st r n' σ' => k lv (r.toList ++ st) n' σ') hx hb (hml.trans hnL.symm) hts hown hK hX hR1 hR2 hR3 hR4 (Nat.eq_of_beq_eq_true c2) (Nat.eq_of_beq_eq_true c3) (Nat.blt_eq.mp c4) (of_decide_eq_true c5) (fun _ => hts _ (mj_lk o _ (List.contains_iff_mem.mp c1))) hd h ?_ (fun st2 rv n' σ' q1 q2 hr => kk _ _ _ _ hnL q1 q2 hr)
      intro as st2 hf
      obtain ⟨f1, f2⟩ := hf
      match as, f2 with
      | .inr (.inr q) :: as', f2 =>
        obtain ⟨g1, g2⟩ := mj_bif f2
        exact ⟨Nat.le_of_ble_eq_true f1, q, as', rfl, g1, g2⟩
    | .invokedynamic w, hi, h =>
      obtain ⟨c1, c2⟩ := mj_and hi
      obtain rfl := Nat.eq_of_beq_eq_true c1
      have h : mj_pi st fun j st => mj_pr st fun q st => bif Nat.beq q mj_STR then (0 ≤ j ∧ j < 162) ∧ Nat.ble (mj_sum st) 8 = true ∧ k lv (.inl (mj_txt.getD j.toNat 0 : Nat) :: st) n σ else False := h
      obtain ⟨x, s0, rfl, h0⟩ := mj_pi_iff h
      obtain ⟨q, s1, rfl, h1⟩ := mj_pr_iff h0
      obtain ⟨hq, h2, h3, h4⟩ := mj_bif h1
      obtain rfl := Nat.eq_of_beq_eq_true hq
      exact g_charAt hx hb (hml.trans hnL.symm) hts hown hX hR1 hR2 hnt hR3 hR4 h2 (Nat.le_of_ble_eq_true h3) (hts _ (mj_lk o _ (List.contains_iff_mem.mp c2))) hd (kk _ _ _ _ hnL (Nat.le_refl n) hnt h4)
  | invokestatic j =>
    obtain ⟨hl, hi⟩ := mj_and hc
    obtain rfl := Nat.eq_of_beq_eq_true hl
    obtain ⟨i1, a, b, z⟩ := i
    match i1, hi, h with
    | .invokestatic y, hi, h =>
      obtain ⟨hi, c3⟩ := mj_and hi
      obtain ⟨c1, c2⟩ := mj_and hi
      refine g_callS (f := fun as st => Nat.ble (mj_sum st) 8 = true ∧ mj_cal d top y as n σ (fun r n' σ' => k lv (r.toList ++ st) n' σ')) (K := fun st r n' σ' => k lv (r.toList ++ st) n' σ') hx hb (hml.trans hnL.symm) hts hown hK hX hR1 hR2 hR3 hR4 (Nat.eq_of_beq_eq_true c2) (Nat.eq_of_beq_eq_true c3) (fun _ => ?_) hd h (fun as st2 hf => ⟨Nat.le_of_ble_eq_true hf.1, hf.2⟩) (fun st2 rv n' σ' q1 q2 hr => kk _ _ _ _ hnL q1 q2 hr)
      rcases Bool.or_eq_true_iff.mp c1 with c1 | c1
      · exact Or.inl (hts _ (mj_lk o _ (List.contains_iff_mem.mp c1)))
      · obtain ⟨ho, hw⟩ := mj_lk o _ (List.contains_iff_mem.mp c1)
        exact Or.inr ⟨ho, hX.2.2.2.2.1 _ hw⟩
    | .invokedynamic w, hi, h =>
      obtain ⟨c1, c2⟩ := mj_and hi
      obtain rfl := Nat.eq_of_beq_eq_true c1
      have h : mj_pi st fun c st => mj_pi st fun dp st => mj_pr st fun q1 st => mj_pi st fun sp st => mj_pr st fun q0 st =>
        bif mj_is n q0 20 && mj_is n q1 20 then (0 ≤ sp ∧ 0 ≤ dp ∧ 0 ≤ c ∧ sp + c ≤ (mj_shp q0).2 ∧ dp + c ≤ (mj_shp q1).2) ∧ Nat.ble (mj_sum st) 8 = true ∧ k lv st n (mj_cpy σ q0 sp.toNat q1 dp.toNat c.toNat) else False := h
      obtain ⟨x, s0, rfl, h0⟩ := mj_pi_iff h
      obtain ⟨dp, s1, rfl, h1⟩ := mj_pi_iff h0
      obtain ⟨q1, s2, rfl, h2⟩ := mj_pr_iff h1
      obtain ⟨sp, s3, rfl, h3⟩ := mj_pi_iff h2
      obtain ⟨q0, s4, rfl, h4⟩ := mj_pr_iff h3
      obtain ⟨hq, h5, h6, h7⟩ := mj_bif h4
      obtain ⟨e1, e2⟩ := mj_and hq
      exact g_copy hx hb (hml.trans hnL.symm) hts hown hK e1 e2 (by omega) (by omega) (hts _ (mj_lk o _ (List.contains_iff_mem.mp c2))) h5 (Nat.le_of_ble_eq_true h6) hd (kk _ _ _ _ hnL (Nat.le_refl n) hnt h7)
  | invokespecial j =>
    obtain ⟨hl, hi⟩ := mj_and hc
    obtain rfl := Nat.eq_of_beq_eq_true hl
    obtain ⟨i1, a, b, z⟩ := i
    match i1, hi, h with
    | .invokespecial y, hi, h =>
      obtain ⟨hi, c3⟩ := mj_and hi
      obtain ⟨c1, c2⟩ := mj_and hi
      refine g_callI (ci := b) (f := fun as st => Nat.ble (mj_sum st) 8 = true ∧ (match as with
        | .inr (.inr q) :: _ => bif mj_is n q b then mj_cal d top y as n σ (fun r n' σ' => k lv (r.toList ++ st) n' σ') else False
        | _ => False)) (K := fun st r n' σ' => k lv (r.toList ++ st) n' σ') hx hb (hml.trans hnL.symm) hts hown hK hX hR1 hR2 hR3 hR4 (Nat.eq_of_beq_eq_true c2) (Nat.eq_of_beq_eq_true c3) (fun _ => ?_) hd h ?_ (fun st2 rv n' σ' q1 q2 hr => kk _ _ _ _ hnL q1 q2 hr)
      · rcases Bool.or_eq_true_iff.mp c1 with c1 | c1
        · exact Or.inl (hts _ (mj_lk o _ (List.contains_iff_mem.mp c1)))
        · obtain ⟨ho, hw⟩ := mj_lk o _ (List.contains_iff_mem.mp c1)
          exact Or.inr ⟨ho, hX.2.2.2.2.1 _ hw⟩
      · intro as st2 hf
        obtain ⟨f1, f2⟩ := hf
        match as, f2 with
        | .inr (.inr q) :: as', f2 =>
          obtain ⟨g1, g2⟩ := mj_bif f2
          exact ⟨Nat.le_of_ble_eq_true f1, q, as', rfl, g1, g2⟩
    | .monitorexit, hi, h =>
      have h : mj_pr st fun q st => Nat.blt q 900000 = true ∧ Nat.ble (mj_sum st) 8 = true ∧ k lv st n σ := h
      obtain ⟨q, s0, rfl, h0, h1, h2⟩ := mj_pr_iff h
      have hq := Nat.blt_eq.mp h0
      exact g_obj hx hb (hml.trans hnL.symm) hts hown (by omega) (by omega) (by omega) (hts _ (mj_lk o _ (List.contains_iff_mem.mp hi))) (Nat.le_of_ble_eq_true h1) hd (kk _ _ _ _ hnL (Nat.le_refl n) hnt h2)
  | goto off =>
    obtain ⟨hl9, hj⟩ := mj_and hc
    obtain ⟨hl, hi⟩ := mj_and hl9
    obtain rfl := Nat.eq_of_beq_eq_true hl
    obtain ⟨i1, a, b, z⟩ := i
    obtain rfl := of_decide_eq_true hi
    obtain ⟨t, ht, e1⟩ := mj_jok_iff hj
    exact g_goto hx hb e1 hd (kJ _ t _ _ _ hnL ht h)
  | ifCond cd off =>
    obtain ⟨hl9, hj⟩ := mj_and hc
    obtain ⟨hl, hi⟩ := mj_and hl9
    obtain rfl := Nat.eq_of_beq_eq_true hl
    obtain ⟨i1, a, b, z⟩ := i
    obtain rfl := of_decide_eq_true hi
    obtain ⟨t, ht, e1⟩ := mj_jok_iff hj
    have h : mj_pi st fun x st => mj_br cd x 0 (J a lv st n σ) (k lv st n σ) := h
    obtain ⟨x, s0, rfl, h0⟩ := mj_pi_iff h
    exact g_if hx hb e1 hd h0 (fun q => kJ _ t _ _ _ hnL ht q) (fun q => kk _ _ _ _ hnL (Nat.le_refl n) hnt q)
  | if_icmp cd off =>
    obtain ⟨hl9, hj⟩ := mj_and hc
    obtain ⟨hl, hi⟩ := mj_and hl9
    obtain rfl := Nat.eq_of_beq_eq_true hl
    obtain ⟨i1, a, b, z⟩ := i
    obtain rfl := of_decide_eq_true hi
    obtain ⟨t, ht, e1⟩ := mj_jok_iff hj
    have h : mj_pi st fun y st => mj_pi st fun x st => mj_br cd x y (J a lv st n σ) (k lv st n σ) := h
    obtain ⟨y, s0, rfl, h0⟩ := mj_pi_iff h
    obtain ⟨x, s1, rfl, h1⟩ := mj_pi_iff h0
    exact g_icmp hx hb e1 hd h1 (fun q => kJ _ t _ _ _ hnL ht q) (fun q => kk _ _ _ _ hnL (Nat.le_refl n) hnt q)
  | tableswitch df lo hi offs =>
    obtain ⟨i1, a, b, z⟩ := i
    match i1, hc, h with
    | .tableswitch d2 lo2 hi2 os, hc, h =>
      obtain ⟨hc, c5⟩ := mj_and hc
      obtain ⟨hc, c4⟩ := mj_and hc
      obtain ⟨hc, c3⟩ := mj_and hc
      obtain ⟨c1, c2⟩ := mj_and hc
      obtain rfl := of_decide_eq_true c1
      have h : mj_pi st fun x st => mj_tab x (fun b => J b lv st n σ) d2.toNat lo2 os.toList := h
      obtain ⟨x, s0, rfl, h0⟩ := mj_pi_iff h
      refine g_tab hx hb hd (Nat.eq_of_beq_eq_true c2) (of_decide_eq_true c3) c4 (fun j o1 o2 e1 e2 => ?_) h0 (fun b t ht q => kJ _ t _ _ _ hnL ht q)
      have hj : j < offs.toList.length := (List.getElem?_eq_some_iff.mp e1).1
      have := List.all_eq_true.mp c5 j (List.mem_range.mpr hj)
      rw [List.getD_eq_getElem?_getD, List.getD_eq_getElem?_getD, e1, e2] at this
      exact this
  | lookupswitch df ps =>
    obtain ⟨i1, a, b, z⟩ := i
    match i1, hc, h with
    | .lookupswitch d2 os, hc, h =>
      obtain ⟨hc, c4⟩ := mj_and hc
      obtain ⟨hc, c3⟩ := mj_and hc
      obtain ⟨c1, c2⟩ := mj_and hc
      have h : mj_pi st fun x st => mj_look x (fun b => J b lv st n σ) d2.toNat os.toList := h
      obtain ⟨x, s0, rfl, h0⟩ := mj_pi_iff h
      obtain ⟨b, t, ht, hb9, e9⟩ := mj_look_at c3 ps.toList os.toList (Nat.eq_of_beq_eq_true c2) (fun j o1 o2 e1 e2 => by
        have hj : j < ps.toList.length := (List.getElem?_eq_some_iff.mp e1).1
        have := List.all_eq_true.mp c4 j (List.mem_range.mpr hj)
        rw [List.getD_eq_getElem?_getD, List.getD_eq_getElem?_getD, e1, e2] at this
        obtain ⟨i1, i2⟩ := mj_and this
        exact ⟨of_decide_eq_true i1, i2⟩) h0
      intro ad H locs ls st2 hA
      obtain ⟨h1, h2, h3, h4⟩ := hA
      obtain ⟨v, r2, rfl, rfl, h3b⟩ := h3.i
      exact lv_lookup hx hb hd c1 rfl e9 (kJ _ t _ _ _ hnL ht hb9 ad H locs ls _ ⟨h1, h2, h3b, h4⟩)
  | ireturn =>
    obtain ⟨hc, hr3⟩ := mj_and hc
    obtain ⟨hl9, hj⟩ := mj_and hc
    obtain ⟨hl, hi⟩ := mj_and hl9
    obtain rfl := Nat.eq_of_beq_eq_true hl
    obtain ⟨i1, a, b, z⟩ := i
    obtain rfl := of_decide_eq_true hi
    have hj : mj_rk rt = a := Nat.eq_of_beq_eq_true hj
    cases st with
    | nil => exact (show False from h).elim
    | cons v s =>
      cases v with
      | inl x =>
        cases s with
        | nil =>
          have h : mj_rkc a x ∧ KR (some (.inl x)) n σ := h
          exact kR.1 pc lv n σ x hnt hd (Nat.blt_eq.mp hr3) (by rw [hj]; exact h.1) h.2
        | cons u s => exact (show False from h).elim
      | inr v => exact (show False from h).elim
  | lreturn =>
    obtain ⟨hc, hr9⟩ := mj_and hc
    obtain ⟨hl, hi⟩ := mj_and hc
    obtain rfl := Nat.eq_of_beq_eq_true hl
    obtain ⟨i1, a, b, z⟩ := i
    obtain rfl := of_decide_eq_true hi
    cases st with
    | nil => exact (show False from h).elim
    | cons v s =>
      cases v with
      | inl x => exact (show False from h).elim
      | inr v =>
        cases v with
        | inl x =>
          cases s with
          | nil => exact kR.2.1 pc lv n σ x hnt hd (of_decide_eq_true hr9) h
          | cons u s => exact (show False from h).elim
        | inr x => exact (show False from h).elim
  | areturn =>
    obtain ⟨hc, hr9⟩ := mj_and hc
    obtain ⟨hl, hi⟩ := mj_and hc
    obtain rfl := Nat.eq_of_beq_eq_true hl
    obtain ⟨i1, a, b, z⟩ := i
    obtain rfl := of_decide_eq_true hi
    cases st with
    | nil => exact (show False from h).elim
    | cons v s =>
      cases v with
      | inl x => exact (show False from h).elim
      | inr v =>
        cases v with
        | inr x =>
          cases s with
          | nil => exact kR.2.2.1 pc lv n σ x hnt hd hr9 h
          | cons u s => exact (show False from h).elim
        | inl x => exact (show False from h).elim
  | return_ =>
    obtain ⟨hc, hr9⟩ := mj_and hc
    obtain ⟨hl, hi⟩ := mj_and hc
    obtain rfl := Nat.eq_of_beq_eq_true hl
    obtain ⟨i1, a, b, z⟩ := i
    obtain rfl := of_decide_eq_true hi
    cases st with
    | nil => exact kR.2.2.2 pc lv n σ hnt hd (of_decide_eq_true hr9) h
    | cons u s => exact (show False from h).elim
  | _ => exact absurd (show false = true from hc) (by decide)
end
