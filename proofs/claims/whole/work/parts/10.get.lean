section
variable {G : mG} {p : Program} {l : Launch} {e : Env} {R : Room} {s : State} {m : MethodId} {args : Array Value} {below : List Frame} {meth : Method} {c : Code} {Q : State → Prop} {n0 : Nat} {ad0 : Nat → Nat} {cc : ByteArray} {pc : Nat} {lv : mL} {st : List mV} {n : Nat} {σ : mM} {own : String}
theorem mj_tys0 (t : Nat → ClassId) : (mj_tys t)[0]? = some (t 0, .int) := rfl
theorem g_get (hx : p.tables.exec = Jvm.exec) (hb : c.code = cc) (hts : ∀ w ∈ lw_g, w.before args s = true) (hown : s.vm.findClass own = some m.cls) (hK : va_K G.1 vwCl (mj_tys G.2.1) s) {ci k q idx t : Nat} (hci : ci < 13) (hk : k < mj_N ci) (ht : mj_tag (mj_ty ci k) = t)
    (hq : mj_is n q ci = true) (hl : (Cond.fieldLink own idx (mj_T ci k).1 (mj_T ci k).2.1 (mj_T ci k).2.2.1).before args s = true ∨ ∃ host, (Cond.fieldLinkNest own idx (mj_T ci k).1 (mj_T ci k).2.1 (mj_T ci k).2.2.1 host).before args s = true) (hd : decode cc pc = .ok (.getfield idx, 3))
    (kk : mj_Go G p l e R s m args below meth c Q n0 ad0 (pc + 3) lv (mj_tg t (σ q k) :: st) n σ) : mj_Go G p l e R s m args below meth c Q n0 ad0 pc lv (.inr (.inr q) :: st) n σ := by
  intro ad H locs ls st2 hA
  obtain ⟨h1, h2, h3, h4⟩ := hA
  obtain ⟨w, r, rfl, hw, h3a⟩ := h3.r
  obtain ⟨ws, E, hP, hD, hE, he, hset⟩ := h1.at hq
  have hlt := (mj_is_iff hq).1
  have hle := h1.le
  have hw2 := hw.ref (by omega)
  subst hw2
  rw [mj_eO_of hci] at he
  obtain ⟨fs, rfl, hfl, hf⟩ := he
  have hN : (mj_shp q).2 = mj_N ci := by
    have := mj_shpN q (by omega) (by rw [(mj_is_iff hq).2]; exact hci)
    rw [(mj_is_iff hq).2] at this; exact this
  rw [hN] at hfl hf
  obtain ⟨v, hv1, hv2⟩ := hf k hk
  rw [mj_ft_tg, ht] at hv2
  have kW := kk ad H locs ls (v :: r) ⟨h1, h2, ⟨hv2, h3a⟩, h4⟩
  rcases hl with hl | ⟨host, hl⟩
  · exact va_get (C := mj_R ci) (T := mj_T ci) (N := mj_N ci) hx hb hts (mj_uws hci) hown hK hP q hE (mj_cl ci hci) k hk hl (fun _ h9 => h9) hv1 hd kW
  · exact va_getN (C := mj_R ci) (T := mj_T ci) (N := mj_N ci) hx hb hts (mj_uws hci) hown hK hP q hE (mj_cl ci hci) k hk hl (fun _ h9 => h9) hv1 hd kW
/-- a value into a field -/
theorem g_put (hx : p.tables.exec = Jvm.exec) (hb : c.code = cc) (hts : ∀ w ∈ lw_g, w.before args s = true) (hown : s.vm.findClass own = some m.cls) (hK : va_K G.1 vwCl (mj_tys G.2.1) s) {ci k q idx : Nat} {v : mV} {x : Int} (hci : ci < 13) (hk : k < mj_N ci)
    (hfin : (mj_T ci k).2.2.2 = false ∨ ((mj_T ci k).2.2.2 = true ∧ meth.name = "<init>" ∧ (mj_T ci k).1 = own)) (hq : mj_is n q ci = true) (hl : (Cond.fieldLink own idx (mj_T ci k).1 (mj_T ci k).2.1 (mj_T ci k).2.2.1).before args s = true)
    (hvx : mj_ft ci k x = v) (hty : ∀ (ad : Nat → Nat) (w : Value), mj_v ad n v w → narrow (mj_ty ci k) w = w ∧ fits (mj_ty ci k) w = true) (hd : decode cc pc = .ok (.putfield idx, 3))
    (kk : mj_Go G p l e R s m args below meth c Q n0 ad0 (pc + 3) lv st n (mj_set σ q k x)) : mj_Go G p l e R s m args below meth c Q n0 ad0 pc lv (v :: .inr (.inr q) :: st) n σ := by
  intro ad H locs ls st2 hA
  obtain ⟨h1, h2, h3, h4⟩ := hA
  obtain ⟨u, r1, rfl, hu, h3b⟩ := h3.one
  obtain ⟨w, r, rfl, hw, h3a⟩ := h3b.r
  obtain ⟨ws, E, hP, hD, hE, he, hset⟩ := h1.at hq
  have hlt := (mj_is_iff hq).1
  have hle := h1.le
  have hw2 := hw.ref (by omega)
  subst hw2
  rw [mj_eO_of hci] at he
  obtain ⟨fs, rfl, hfl, hf⟩ := he
  have hN : (mj_shp q).2 = mj_N ci := by
    have := mj_shpN q (by omega) (by rw [(mj_is_iff hq).2]; exact hci)
    rw [(mj_is_iff hq).2] at this; exact this
  have hfl2 := hfl
  rw [hN] at hfl2
  obtain ⟨n1, n2⟩ := hty ad u hu
  have kW : ∀ (H1 : Heap) (locs1 : List Loc), va_P G.1 vwCl (ws.set q (ad q, .inr (ci, fs.set k u))) H1 → va_D (mj_A G) (ws.set q (ad q, .inr (ci, fs.set k u))) → va_S (mj_A G) s.heap H1 locs1 → W p l e R s m args below meth c H1 locs1 (n - n0) (mj_SL n - mj_SL n0) Q (F0 m (pc + 3) ls r) := fun H1 locs1 hP1 hD1 hS1 =>
    kk ad H1 locs1 ls r ⟨hset H1 _ _ hP1 hD1 (by rw [mj_eO_of hci, mj_set_q]; exact mj_eO.set hfl hf (by rw [hvx]; exact hu)) (mj_set_ne σ q k x), h2, h3a, hS1, h4.2⟩
  rcases hfin with hfin | ⟨hfin, hini, hdc⟩
  · exact va_put (C := mj_R ci) (T := mj_T ci) (N := mj_N ci) hx hb hts (mj_uws hci) (mj_ty ci) (mj_tyok ci hci) (mj_nm ci hci) hown hK hP hD h4.1 q hE (mj_cl ci hci) k hk hl (fun _ h9 => h9) hfin (mj_tyok ci hci k hk) n1 n2 (by omega) hd kW
  · exact va_putF (C := mj_R ci) (T := mj_T ci) (N := mj_N ci) hx hb hts (mj_uws hci) (mj_ty ci) (mj_tyok ci hci) (mj_nm ci hci) hown hK hP hD h4.1 q hE (mj_cl ci hci) k hk hl (fun _ h9 => h9) hfin hini hdc (mj_tyok ci hci k hk) n1 n2 (by omega) hd kW
end
