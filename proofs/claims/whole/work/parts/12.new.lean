theorem mj_lwn_on : ∀ w ∈ lw_n, w.onTables = true := by decide +kernel
theorem mj_X.step {G : mG} {s U : State} {H : Heap} {locs : List Loc} (h : mj_X G s) (hS : va_S (mj_A G) s.heap H locs) (hU : U.heap = H) (hW : s.WarmedH U.vm) : mj_X G U := by
  obtain ⟨x1, x2, x3, x4, x5, x6, x7, x8, x9, x10, v, x11, x12⟩ := h
  subst hU
  refine ⟨(x1.moved hW.alike).kept (hS.2.1 _ (by omega) (by show ¬ _ ≤ _; omega)), x2, x3, Nat.le_trans x4 hS.1, fun w hw => ?_, x6.warm hW, (x7.moved hW.alike).kept hS.2.1, (x8.moved hW.alike).kept hS.2.1, x9.moved hW.alike, x10.moved hW.alike, v, x11, (x12.moved hW.alike).kept hS.2.1⟩
  have h1 := x5 w hw
  have h2 := (List.mem_filter.mp hw).2
  cases w with
  | fieldLinkNest a i b n d ho => exact h1.warmF hW
  | methodLinkNest a i x ho => exact h1.warmM hW
  | _ => cases h2
theorem mj_X.calling {G : mG} {U : State} (g : JFrame) (mk : MethodId) (a : Array Value) (h : mj_X G U) : mj_X G (U.calling g mk a) := by
  obtain ⟨x1, x2, x3, x4, x5, x6, x7, x8, x9, x10, v, x11, x12⟩ := h
  have hA : U.vm.Alike (U.calling g mk a).vm := Vm.Alike.refl U.vm
  exact ⟨x1.moved hA, x2, x3, x4, fun w hw => va_Nw.same (u := U) (U := U.calling g mk a) (mj_lwn_on w hw) rfl (x5 w hw), x6.same rfl, x7.moved hA, x8.moved hA, x9.moved hA, x10.moved hA, v, x11, x12.moved hA⟩
theorem mj_v.grow {ad ad' : Nat → Nat} {n : Nat} {v : mV} {w : Value} (h : mj_v ad n v w) (ha : ∀ q, q < n ∨ mj_SPEC ≤ q → ad' q = ad q) : mj_v ad' (n + 1) v w := by
  match v, h with
  | .inl x, h => exact h
  | .inr (.inl x), h => exact h
  | .inr (.inr q), h =>
    rcases h with h | ⟨h1, h2, h3⟩
    · exact Or.inl h
    · exact Or.inr ⟨h1, by omega, by rw [ha q h2]; exact h3⟩
theorem mj_r.grow {ad ad' : Nat → Nat} {n q : Nat} {w : Value} (h : mj_r ad n q w) (ha : ∀ q, q < n ∨ mj_SPEC ≤ q → ad' q = ad q) : mj_r ad' (n + 1) q w := mj_v.grow (v := .inr (.inr q)) h ha
theorem mj_ss.grow {ad ad' : Nat → Nat} {n : Nat} (ha : ∀ q, q < n ∨ mj_SPEC ≤ q → ad' q = ad q) : ∀ {st : List mV} {st2 : List Value}, mj_ss ad n st st2 → mj_ss ad' (n + 1) st st2
  | [], [], _ => trivial
  | _ :: _, _ :: _, h => ⟨h.1.grow ha, mj_ss.grow ha h.2⟩
theorem mj_lv.grow {ad ad' : Nat → Nat} {n : Nat} {lv : mL} {ls : Array Slot} (h : mj_lv ad n lv ls) (ha : ∀ q, q < n ∨ mj_SPEC ≤ q → ad' q = ad q) : mj_lv ad' (n + 1) lv ls :=
  ⟨h.1, h.2.1, fun i v hv => by obtain ⟨w, h1, h2⟩ := h.2.2 i v hv; exact ⟨w, h1, h2.grow ha⟩⟩
theorem mj_e.grow {t : Nat → ClassId} {ad ad' : Nat → Nat} {n kd N : Nat} {f : Nat → Int} {E : va_E} (h : mj_e t ad n kd N f E) (ha : ∀ q, q < n ∨ mj_SPEC ≤ q → ad' q = ad q) : mj_e t ad' (n + 1) kd N f E := by
  unfold mj_e at h ⊢
  split
  · rename_i h0
    rw [if_pos h0] at h
    obtain ⟨fs, h1, h2, h3⟩ := h
    exact ⟨fs, h1, h2, fun k hk => by obtain ⟨w, i1, i2⟩ := h3 k hk; exact ⟨w, i1, i2.grow ha⟩⟩
  · rename_i h0
    rw [if_neg h0] at h
    split
    · rename_i h1; rw [if_pos h1] at h; exact h
    · rename_i h1
      rw [if_neg h1] at h
      split
      · rename_i h2; rw [if_pos h2] at h; exact h
      · rename_i h2
        rw [if_neg h2] at h
        split
        · rename_i h3; rw [if_pos h3] at h; exact h
        · rename_i h3
          rw [if_neg h3] at h
          split
          · rename_i h4; rw [if_pos h4] at h; exact h
          · rename_i h4
            rw [if_neg h4] at h
            split
            · rename_i h5
              rw [if_pos h5] at h
              obtain ⟨g, i1, i2⟩ := h
              exact ⟨g, i1, fun k hk => (i2 k hk).grow ha⟩
            · rename_i h5
              rw [if_neg h5] at h
              split
              · rename_i h6
                rw [if_pos h6] at h
                obtain ⟨g, i1, i2⟩ := h
                exact ⟨g, i1, fun k hk => (i2 k hk).grow ha⟩
              · rename_i h6
                rw [if_neg h6] at h
                exact h
def mj_ad (ad : Nat → Nat) (n a : Nat) : Nat → Nat := fun q => if q = n then a else ad q
theorem mj_ad_old {ad : Nat → Nat} {n a : Nat} (hn : n < 900000) (q : Nat) (h : q < n ∨ mj_SPEC ≤ q) : mj_ad ad n a q = ad q := by
  have h9 : mj_SPEC = 900000 := rfl
  unfold mj_ad
  rw [if_neg (by omega)]
/-- a new cell -/
theorem mj_mem.push {G : mG} {ad : Nat → Nat} {n a : Nat} {σ : mM} {H1 : Heap} {ws : va_W} {E : va_E} {f : Nat → Int} (hl : ws.length = n) (hn : n < 218) (ha : ∀ q, q < n → ∃ E, ws[q]? = some (ad q, E) ∧ mj_e G.2.1 ad n (mj_shp q).1 (mj_shp q).2 (σ q) E)
    (hP : va_P G.1 vwCl (ws ++ [(a, E)]) H1) (hD : va_D (mj_A G) (ws ++ [(a, E)])) (hE : mj_e G.2.1 (mj_ad ad n a) (n + 1) (mj_shp n).1 (mj_shp n).2 f E) : mj_mem G (mj_ad ad n a) (n + 1) (mj_new σ n f) H1 := by
  refine ⟨_, hP, hD, by simp [hl], by omega, fun q hq => ?_⟩
  by_cases e : q = n
  · subst e
    refine ⟨E, ?_, ?_⟩
    · rw [List.getElem?_append_right (by omega), hl, Nat.sub_self]
      simp [mj_ad]
    · have : mj_new σ q f q = f := by funext k; simp [mj_new]
      rw [this]; exact hE
  · obtain ⟨E2, h1, h2⟩ := ha q (by omega)
    refine ⟨E2, ?_, ?_⟩
    · rw [List.getElem?_append_left (by omega), h1]
      simp [mj_ad, e]
    · have : mj_new σ n f q = σ q := by funext k; simp [mj_new, e]
      rw [this]
      exact h2.grow (mj_ad_old (by omega))
theorem mj_SL_mono {a b : Nat} (h : a ≤ b) : mj_SL a ≤ mj_SL b := by
  induction h with
  | refl => exact Nat.le_refl _
  | step h ih => exact Nat.le_trans ih (Nat.le_add_right _ _)
theorem mj_SL_succ {n0 n : Nat} (h : n0 ≤ n) : mj_SL (n + 1) - mj_SL n0 = (mj_SL n - mj_SL n0) + (mj_shp n).2 := by
  have := mj_SL_mono h
  show mj_SL n + (mj_shp n).2 - mj_SL n0 = _
  omega
def mj_okty (ty : FieldType) : Bool := match ty with
  | .int => true
  | .boolean => true
  | .long => true
  | .object _ => true
  | .array _ => true
  | _ => false
theorem mj_okty_all : (List.range 13).all (fun ci => (List.range (mj_N ci)).all (fun k => mj_okty (mj_ty ci k))) = true := by decide +kernel
theorem mj_dfl_v {ad : Nat → Nat} {n ci k : Nat} (h : mj_okty (mj_ty ci k) = true) : mj_v ad n (mj_ft ci k (mj_dfl ci k)) (defaultValue (mj_ty ci k)) := by
  unfold mj_ft mj_dfl
  cases hq : mj_ty ci k <;> rw [hq] at h <;> first | (exact ⟨_, rfl, rfl⟩) | (exact Or.inl ⟨rfl, rfl⟩) | (cases h)
section
variable {G : mG} {p : Program} {l : Launch} {e : Env} {R : Room} {s : State} {m : MethodId} {args : Array Value} {below : List Frame} {meth : Method} {c : Code} {Q : State → Prop} {n0 : Nat} {ad0 : Nat → Nat} {cc : ByteArray} {pc : Nat} {lv : mL} {st : List mV} {n : Nat} {σ : mM} {own : String} {top : Nat}
theorem mj_At.new {ad : Nat → Nat} {a : Nat} {H1 : Heap} {locs : List Loc} {ls : Array Slot} {st2 : List Value} {f : Nat → Int} (hn : n < 218) (hm : mj_mem G (mj_ad ad n a) (n + 1) (mj_new σ n f) H1) (h2 : mj_lv ad n lv ls) (h3 : mj_ss ad n st st2) (hS : va_S (mj_A G) s.heap H1 locs) (h4 : n0 ≤ n ∧ (∀ q, q < n0 ∨ mj_SPEC ≤ q → ad q = ad0 q) ∧ ad mj_SCR = G.2.2.1.1 ∧ ad mj_STR = G.2.2.2.2.1) :
    mj_At G s n0 ad0 lv (.inr (.inr n) :: st) (n + 1) (mj_new σ n f) (mj_ad ad n a) H1 locs ls (.ref a :: st2) := by
  have ha : ∀ q, q < n ∨ mj_SPEC ≤ q → mj_ad ad n a q = ad q := mj_ad_old (by omega)
  have h9 : mj_SPEC = 900000 := rfl
  refine ⟨hm, h2.grow ha, ⟨Or.inr ⟨?_, by omega, by simp [mj_ad]⟩, h3.grow ha⟩, hS, by omega, fun q hq => ?_, ?_, ?_⟩
  · show n ≠ 999999; omega
  · rw [ha q (by omega)]; exact h4.2.1 q hq
  · rw [ha _ (Or.inr (by decide))]; exact h4.2.2.1
  · rw [ha _ (Or.inr (by decide))]; exact h4.2.2.2
theorem g_new (hx : p.tables.exec = Jvm.exec) (hb : c.code = cc) (hts : ∀ w ∈ lw_g, w.before args s = true) (hown : s.vm.findClass own = some m.cls) (hK : va_K G.1 vwCl (mj_tys G.2.1) s) (hX : mj_X G s) {ci idx : Nat} (hci : ci < 13) (hn : n < top) (hs : (mj_shp n).1 = ci) (htop : top ≤ 218)
    (hr1 : top - n0 ≤ R.cells) (hr2 : mj_SL top - mj_SL n0 ≤ R.slots) (hcl : (Cond.classLink own idx (mj_R ci)).before args s = true) (hin : (Cond.instantiable (mj_R ci) (mj_N ci)).before args s = true) (hini : (Cond.initialized (mj_R ci)).before args s = true) (hd : decode cc pc = .ok (.new idx, 3))
    (kk : mj_Go G p l e R s m args below meth c Q n0 ad0 (pc + 3) lv (.inr (.inr n) :: st) (n + 1) (mj_new σ n (mj_dfl ci))) : mj_Go G p l e R s m args below meth c Q n0 ad0 pc lv st n σ := by
  intro ad H locs ls st2 hA
  obtain ⟨h1, h2, h3, h4⟩ := hA
  obtain ⟨ws, hP, hD, hl, hle, ha⟩ := h1
  have hN : (mj_shp n).2 = mj_N ci := by
    have := mj_shpN n (by omega) (by rw [hs]; exact hci)
    rw [hs] at this; exact this
  have hAq : ∀ q, s.heap.size ≤ q → mj_A G q := fun q hq => Nat.le_trans hX.2.2.2.1 hq
  have hsl := mj_SL_succ (n0 := n0) (n := n) h4.2.1
  have hm2 := mj_SL_mono (a := n + 1) (b := top) (by omega)
  have hm3 := mj_SL_mono h4.2.1
  refine va_new (ci := ci) (fs := (List.range (mj_N ci)).map (fun j => defaultValue (mj_ty ci j))) (C := mj_R ci) (T := mj_T ci) (N := mj_N ci) hx hb hts (mj_uws hci) (mj_ty ci) (mj_tyok ci hci) hown hcl hin hini hK hP hD h4.1 hAq (mj_cl ci hci) (fun j hj => by simp [vp_V, List.getD_eq_getElem?_getD, hj]) (by omega) (by omega) hd (fun a H1 hP1 hD1 hS1 => ?_)
  have hk := kk (mj_ad ad n a) H1 locs ls (.ref a :: st2) (mj_At.new (by omega) (mj_mem.push hl (by omega) ha hP1 hD1 (by
    rw [hs, mj_eO_of hci]
    refine ⟨_, rfl, by simp [hN], fun k hk => ⟨defaultValue (mj_ty ci k), by rw [hN] at hk; simp [hk], mj_dfl_v ?_⟩⟩
    rw [hN] at hk
    exact List.all_eq_true.mp (List.all_eq_true.mp mj_okty_all ci (List.mem_range.mpr hci)) k (List.mem_range.mpr hk))) h2 h3 hS1 h4.2)
  rw [hsl, hN] at hk
  have e1 : n + 1 - n0 = n - n0 + 1 := by have := h4.2.1; omega
  rw [e1] at hk
  exact hk
end
