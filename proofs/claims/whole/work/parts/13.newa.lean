theorem mj_inA_int : Cond.arrayClass .int ∈ lw_g := mj_inG (i := 49) (by decide +kernel) rfl
theorem mj_inA_long : Cond.arrayClass .long ∈ lw_g := mj_inG (i := 343) (by decide +kernel) rfl
theorem mj_inA_char : Cond.arrayClass .char ∈ lw_g := mj_inG (i := 1376) (by decide +kernel) rfl
theorem mj_inA_boolean : Cond.arrayClass .boolean ∈ lw_g := mj_inG (i := 1377) (by decide +kernel) rfl
section
variable {G : mG} {p : Program} {l : Launch} {e : Env} {R : Room} {s : State} {m : MethodId} {args : Array Value} {below : List Frame} {meth : Method} {c : Code} {Q : State → Prop} {n0 : Nat} {ad0 : Nat → Nat} {cc : ByteArray} {pc : Nat} {lv : mL} {st : List mV} {n : Nat} {σ : mM} {own : String} {top : Nat}
/-- kinds of rows of numbers -/
def mj_at (kd : Nat) (at0 : ArrayType) : Bool := match kd, at0 with
  | 20, .int => true
  | 21, .long => true
  | 22, .char => true
  | 23, .boolean => true
  | _, _ => false
theorem g_newa (hx : p.tables.exec = Jvm.exec) (hb : c.code = cc) (hts : ∀ w ∈ lw_g, w.before args s = true) (hK : va_K G.1 vwCl (mj_tys G.2.1) s) (hX : mj_X G s) {kd : Nat} {at0 : ArrayType} {x : Int} (hk : mj_at kd at0 = true) (hn : n < top) (hs : (mj_shp n).1 = kd) (htop : top ≤ 218)
    (hr1 : top - n0 ≤ R.cells) (hr2 : mj_SL top - mj_SL n0 ≤ R.slots) (hsz : x = ((mj_shp n).2 : Int)) (hd : decode cc pc = .ok (.newarray at0, 2))
    (kk : mj_Go G p l e R s m args below meth c Q n0 ad0 (pc + 2) lv (.inr (.inr n) :: st) (n + 1) (mj_new σ n (fun _ => 0))) : mj_Go G p l e R s m args below meth c Q n0 ad0 pc lv (.inl x :: st) n σ := by
  intro ad H locs ls st2 hA
  obtain ⟨h1, h2, h3, h4⟩ := hA
  obtain ⟨z, r, rfl, hz, h3a⟩ := h3.i
  obtain ⟨ws, hP, hD, hl, hle, ha⟩ := h1
  have hAq : ∀ q, s.heap.size ≤ q → mj_A G q := fun q hq => Nat.le_trans hX.2.2.2.1 hq
  have hsl := mj_SL_succ (n0 := n0) (n := n) h4.2.1
  have hm2 := mj_SL_mono (a := n + 1) (b := top) (by omega)
  have hm3 := mj_SL_mono h4.2.1
  have hsm : (mj_shp n).2 ≤ 3200 := (show ∀ q, q < 218 → (mj_shp q).2 ≤ 3200 by decide +kernel) n (by omega)
  have hz0 : ¬ z < 0 := fun q => by have := mj_lt.mp q; rw [hz, hsz] at this; exact absurd this (by show ¬ ((mj_shp n).2 : Int) < 0; omega)
  have hzN : z.toNatClampNeg = (mj_shp n).2 := by rw [mj_clamp hz, hsz]; rfl
  have e1 : n + 1 - n0 = n - n0 + 1 := by have := h4.2.1; omega
  have fin : ∀ (E : ClassId → va_E) (cA : ClassId) (i : Nat) (ty : FieldType), (mj_tys G.2.1)[i]? = some (G.2.1 i, ty) → (∀ a b : ClassId, va_RA s a ty → va_RA s b ty → a = b) → mj_e G.2.1 (mj_ad ad n (0 : Nat)) (n + 1) (mj_shp n).1 (mj_shp n).2 (fun _ => 0) (E (G.2.1 i)) → (∀ a, mj_e G.2.1 (mj_ad ad n 0) (n + 1) (mj_shp n).1 (mj_shp n).2 (fun _ => 0) (E (G.2.1 i)) → mj_e G.2.1 (mj_ad ad n a) (n + 1) (mj_shp n).1 (mj_shp n).2 (fun _ => 0) (E (G.2.1 i))) →
      ∀ (a : Nat) (H1 : Heap), va_K G.1 vwCl (mj_tys G.2.1 ++ [(cA, ty)]) s → va_P G.1 vwCl (ws ++ [(a, E cA)]) H1 → va_D (mj_A G) (ws ++ [(a, E cA)]) → va_S (mj_A G) s.heap H1 locs → W p l e R s m args below meth c H1 locs (n - n0 + 1) (mj_SL n - mj_SL n0 + (mj_shp n).2) Q (F0 m (pc + 2) ls (.ref a :: r)) := by
    intro E cA i ty hi hinj hE hE2 a H1 hK1 hP1 hD1 hS1
    have hc : cA = G.2.1 i := hinj _ _ (hK1.2 6 (cA, ty) rfl).2 (hK.2 i _ hi).2
    rw [hc] at hP1 hD1
    have hk := kk (mj_ad ad n a) H1 locs ls (.ref a :: r) (mj_At.new (by omega) (mj_mem.push hl (by omega) ha hP1 hD1 (hE2 a hE)) h2 h3a hS1 h4.2)
    rw [hsl, e1] at hk
    exact hk
  have good : ∀ (ty : FieldType), (Cond.arrayClass ty) ∈ lw_g → (Cond.arrayClass ty).before args s = true := fun ty h => hts _ h
  match kd, at0, hk with
  | 20, .int, _ =>
    exact va_newa (atype := .int) (ty := .int) (a0 := ((mj_shp n).2, .inl (fun _ => 0))) hx hb (good .int mj_inA_int) rfl hK hP hD h4.1 hAq (fun cA => rfl) hz0 hzN (by show _ * 4 ≤ _; omega) (by omega) (by omega) hd (fun a cA H1 hK1 hP1 hD1 hS1 =>
      fin (fun cA => .inl (cA, (mj_shp n).2, .inl (fun _ => 0))) cA 0 .int rfl (fun a b h1 h2 => Option.some.inj (h1.symm.trans h2)) (by rw [hs, mj_e20]; exact ⟨_, rfl, fun _ _ => rfl⟩) (fun a h => by rw [hs, mj_e20] at h ⊢; exact h) a H1 hK1 hP1 hD1 hS1)
  | 21, .long, _ =>
    exact va_newa (atype := .long) (ty := .long) (a0 := ((mj_shp n).2, .inr (.inl (fun _ => 0)))) hx hb (good .long mj_inA_long) rfl hK hP hD h4.1 hAq (fun cA => rfl) hz0 hzN (by show _ * 8 ≤ _; omega) (by omega) (by omega) hd (fun a cA H1 hK1 hP1 hD1 hS1 =>
      fin (fun cA => .inl (cA, (mj_shp n).2, .inr (.inl (fun _ => 0)))) cA 1 .long rfl (fun a b h1 h2 => Option.some.inj (h1.symm.trans h2)) (by rw [hs, mj_e21]; exact ⟨_, rfl, fun _ _ => rfl⟩) (fun a h => by rw [hs, mj_e21] at h ⊢; exact h) a H1 hK1 hP1 hD1 hS1)
  | 22, .char, _ =>
    exact va_newa (atype := .char) (ty := .char) (a0 := ((mj_shp n).2, .inl (fun _ => 0))) hx hb (good .char mj_inA_char) rfl hK hP hD h4.1 hAq (fun cA => rfl) hz0 hzN (by show _ * 2 ≤ _; omega) (by omega) (by omega) hd (fun a cA H1 hK1 hP1 hD1 hS1 =>
      fin (fun cA => .inl (cA, (mj_shp n).2, .inl (fun _ => 0))) cA 2 .char rfl (fun a b h1 h2 => Option.some.inj (h1.symm.trans h2)) (by rw [hs, mj_e22]; exact ⟨_, rfl, fun _ _ => rfl⟩) (fun a h => by rw [hs, mj_e22] at h ⊢; exact h) a H1 hK1 hP1 hD1 hS1)
  | 23, .boolean, _ =>
    exact va_newa (atype := .boolean) (ty := .boolean) (a0 := ((mj_shp n).2, .inl (fun _ => 0))) hx hb (good .boolean mj_inA_boolean) rfl hK hP hD h4.1 hAq (fun cA => rfl) hz0 hzN (by show _ * 1 ≤ _; omega) (by omega) (by omega) hd (fun a cA H1 hK1 hP1 hD1 hS1 =>
      fin (fun cA => .inl (cA, (mj_shp n).2, .inl (fun _ => 0))) cA 3 .boolean rfl (fun a b h1 h2 => Option.some.inj (h1.symm.trans h2)) (by rw [hs, mj_e23]; exact ⟨_, rfl, fun _ _ => rfl⟩) (fun a h => by rw [hs, mj_e23] at h ⊢; exact h) a H1 hK1 hP1 hD1 hS1)
/-- a row of places -/
theorem g_newq (hx : p.tables.exec = Jvm.exec) (hb : c.code = cc) (hown : s.vm.findClass own = some m.cls) (hK : va_K G.1 vwCl (mj_tys G.2.1) s) (hX : mj_X G s) {kd idx : Nat} {C : String} {x : Int} (hk : (kd = 24 ∧ C = "NightForecast$Sky") ∨ (kd = 25 ∧ C = "NightForecast$Kept")) (hn : n < top) (hs : (mj_shp n).1 = kd) (htop : top ≤ 218)
    (hr1 : top - n0 ≤ R.cells) (hr2 : mj_SL top - mj_SL n0 ≤ R.slots) (hsz : x = ((mj_shp n).2 : Int)) (hcl : (Cond.classLink own idx C).before args s = true) (hd : decode cc pc = .ok (.anewarray idx, 3))
    (kk : mj_Go G p l e R s m args below meth c Q n0 ad0 (pc + 3) lv (.inr (.inr n) :: st) (n + 1) (mj_new σ n (fun _ => 999999))) : mj_Go G p l e R s m args below meth c Q n0 ad0 pc lv (.inl x :: st) n σ := by
  intro ad H locs ls st2 hA
  obtain ⟨h1, h2, h3, h4⟩ := hA
  obtain ⟨z, r, rfl, hz, h3a⟩ := h3.i
  obtain ⟨ws, hP, hD, hl, hle, ha⟩ := h1
  have hAq : ∀ q, s.heap.size ≤ q → mj_A G q := fun q hq => Nat.le_trans hX.2.2.2.1 hq
  have hsl := mj_SL_succ (n0 := n0) (n := n) h4.2.1
  have hm2 := mj_SL_mono (a := n + 1) (b := top) (by omega)
  have hm3 := mj_SL_mono h4.2.1
  have hsm : (mj_shp n).2 ≤ 3200 := (show ∀ q, q < 218 → (mj_shp q).2 ≤ 3200 by decide +kernel) n (by omega)
  have hz0 : ¬ z < 0 := fun q => by have := mj_lt.mp q; rw [hz, hsz] at this; exact absurd this (by show ¬ ((mj_shp n).2 : Int) < 0; omega)
  have hzN : z.toNatClampNeg = (mj_shp n).2 := by rw [mj_clamp hz, hsz]; rfl
  have e1 : n + 1 - n0 = n - n0 + 1 := by have := h4.2.1; omega
  have hao : va_AO C s := by
    rcases hk with ⟨-, rfl⟩ | ⟨-, rfl⟩
    · exact hX.2.2.2.2.2.2.2.2.1
    · exact hX.2.2.2.2.2.2.2.2.2.1
  refine va_newq hx hb hown hcl hao hK hP hD h4.1 hAq hz0 hzN (by omega) (by omega) (by omega) hd (fun a cA H1 hK1 hP1 hD1 hS1 => ?_)
  have hRA : ∀ a b : ClassId, va_RA s a (.object C) → va_RA s b (.object C) → a = b := fun a b i1 i2 => by
    obtain ⟨_, _, -, -, -, f1⟩ := i1
    obtain ⟨_, _, -, -, -, f2⟩ := i2
    exact Option.some.inj (f1.symm.trans f2)
  have hE : mj_e G.2.1 (mj_ad ad n a) (n + 1) (mj_shp n).1 (mj_shp n).2 (fun _ => 999999) (.inl (cA, (mj_shp n).2, .inr (.inr (.inr (.inr (fun _ => none)))))) := by
    rcases hk with ⟨rfl, rfl⟩ | ⟨rfl, rfl⟩
    · have hc : cA = G.2.1 4 := hRA _ _ (hK1.2 6 (cA, _) rfl).2 (hK.2 4 _ rfl).2
      rw [hs, mj_e24, hc]
      exact ⟨_, rfl, fun _ _ => Or.inl ⟨rfl, rfl⟩⟩
    · have hc : cA = G.2.1 5 := hRA _ _ (hK1.2 6 (cA, _) rfl).2 (hK.2 5 _ rfl).2
      rw [hs, mj_e25, hc]
      exact ⟨_, rfl, fun _ _ => Or.inl ⟨rfl, rfl⟩⟩
  have hk := kk (mj_ad ad n a) H1 locs ls (.ref a :: r) (mj_At.new (by omega) (mj_mem.push hl (by omega) ha hP1 hD1 hE) h2 h3a hS1 h4.2)
  rw [hsl, e1] at hk
  exact hk
end
