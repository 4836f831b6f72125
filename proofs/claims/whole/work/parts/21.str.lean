def ks_ca : List Cond := Cond.code yJ0_charAt_5068e cJ0_charAt_5068e 2 (some .char) :: lw_g
theorem kc_ca : Cond.code yJ0_charAt_5068e cJ0_charAt_5068e 2 (some .char) ∈ lw_g := mj_in3 (i := 5) rfl rfl
theorem kg_ca : GoodIn lw_g ks_ca := by
  intro w hw
  rcases List.mem_cons.mp hw with rfl | hw
  · exact mj_goodG _ kc_ca
  · exact mj_goodG _ hw
theorem ki_ca : Cond.initialized yJ0_charAt_5068e.cls ∈ lw_g := mj_in1 (i := 16) rfl rfl
theorem kn_ca : Cond.instanceMethod yJ0_charAt_5068e ∈ lw_g := mj_in3 (i := 3) rfl rfl
theorem ke_ca : Cond.selects yJ0_charAt_5068e.cls yJ0_charAt_5068e yJ0_charAt_5068e ∈ lw_g := mj_in3 (i := 4) rfl rfl
def ks_il : List Cond := Cond.code yJ0_isLatin1_aae02 cJ0_isLatin1_aae02 1 (some .boolean) :: lw_g
theorem kc_il : Cond.code yJ0_isLatin1_aae02 cJ0_isLatin1_aae02 1 (some .boolean) ∈ lw_g := mj_in3 (i := 9) rfl rfl
theorem kg_il : GoodIn lw_g ks_il := by
  intro w hw
  rcases List.mem_cons.mp hw with rfl | hw
  · exact mj_goodG _ kc_il
  · exact mj_goodG _ hw
theorem ki_il : Cond.initialized yJ0_isLatin1_aae02.cls ∈ lw_g := mj_in1 (i := 16) rfl rfl
theorem kn_il : Cond.instanceMethod yJ0_isLatin1_aae02 ∈ lw_g := mj_in3 (i := 7) rfl rfl
theorem ke_il : Cond.selects yJ0_isLatin1_aae02.cls yJ0_isLatin1_aae02 yJ0_isLatin1_aae02 ∈ lw_g := mj_in3 (i := 8) rfl rfl
def ks_ci : List Cond := Cond.code yJ0_checkIndex_df160 cJ0_checkIndex_df160 2 none :: lw_g
theorem kc_ci : Cond.code yJ0_checkIndex_df160 cJ0_checkIndex_df160 2 none ∈ lw_g := mj_in3 (i := 17) rfl rfl
theorem kg_ci : GoodIn lw_g ks_ci := by
  intro w hw
  rcases List.mem_cons.mp hw with rfl | hw
  · exact mj_goodG _ kc_ci
  · exact mj_goodG _ hw
theorem ki_ci : Cond.initialized yJ0_checkIndex_df160.cls ∈ lw_g := mj_in1 (i := 16) rfl rfl
theorem kt_ci : Cond.static yJ0_checkIndex_df160 ∈ lw_g := mj_in3 (i := 16) rfl rfl
def ks_cb : List Cond := Cond.code yJ1_charAt_3b067 cJ1_charAt_3b067 2 (some .char) :: lw_g
theorem kc_cb : Cond.code yJ1_charAt_3b067 cJ1_charAt_3b067 2 (some .char) ∈ lw_g := mj_in3 (i := 14) rfl rfl
theorem kg_cb : GoodIn lw_g ks_cb := by
  intro w hw
  rcases List.mem_cons.mp hw with rfl | hw
  · exact mj_goodG _ kc_cb
  · exact mj_goodG _ hw
theorem ki_cb : Cond.initialized yJ1_charAt_3b067.cls ∈ lw_g := mj_in1 (i := 17) rfl rfl
theorem kt_cb : Cond.static yJ1_charAt_3b067 ∈ lw_g := mj_in3 (i := 13) rfl rfl
def ks_cp : List Cond := Cond.code yJ3_checkIndex_8e157 cJ3_checkIndex_8e157 3 (some .int) :: lw_g
theorem kc_cp : Cond.code yJ3_checkIndex_8e157 cJ3_checkIndex_8e157 3 (some .int) ∈ lw_g := mj_in3 (i := 22) rfl rfl
theorem kg_cp : GoodIn lw_g ks_cp := by
  intro w hw
  rcases List.mem_cons.mp hw with rfl | hw
  · exact mj_goodG _ kc_cp
  · exact mj_goodG _ hw
theorem ki_cp : Cond.initialized yJ3_checkIndex_8e157.cls ∈ lw_g := mj_in1 (i := 18) rfl rfl
theorem kt_cp : Cond.static yJ3_checkIndex_8e157 ∈ lw_g := mj_in3 (i := 21) rfl rfl
theorem kl_a : Cond.methodLink RJ0 492 yJ0_isLatin1_aae02 ∈ lw_g := mj_in3 (i := 6) rfl rfl
theorem kl_b : Cond.methodLink RJ0 495 yJ1_charAt_3b067 ∈ lw_g := mj_in3 (i := 12) rfl rfl
theorem kl_c : Cond.methodLink RJ0 1059 yJ3_checkIndex_8e157 ∈ lw_g := mj_in3 (i := 20) rfl rfl
theorem kl_d : Cond.methodLink RJ1 9 yJ0_checkIndex_df160 ∈ lw_g := mj_in3 (i := 15) rfl rfl
theorem kl_e : Cond.fieldLink RJ0 38 "java/lang/String" "COMPACT_STRINGS" "Z" ∈ lw_g := mj_in3 (i := 10) rfl rfl
theorem kl_f : Cond.fieldLink RJ0 15 "java/lang/String" "coder" "B" ∈ lw_g := mj_in8 (i := 186) rfl rfl
theorem kl_g : Cond.fieldLink RJ0 9 "java/lang/String" "value" "[B" ∈ lw_g := mj_in8 (i := 187) rfl rfl
theorem kl_h : Cond.fieldLink RJ0 1053 "jdk/internal/util/Preconditions" "SIOOBE_FORMATTER" "Ljava/util/function/BiFunction;" ∈ lw_g := mj_in3 (i := 18) rfl rfl
theorem ddJ0_charAt_5068e_0 : decode cJ0_charAt_5068e 0 = .ok (.aload_n 0, 1) := by decide +kernel
theorem ddJ0_charAt_5068e_1 : decode cJ0_charAt_5068e 1 = .ok (.invokevirtual 492, 3) := by decide +kernel
theorem ddJ0_charAt_5068e_4 : decode cJ0_charAt_5068e 4 = .ok (.ifCond .eq 12, 3) := by decide +kernel
theorem ddJ0_charAt_5068e_7 : decode cJ0_charAt_5068e 7 = .ok (.aload_n 0, 1) := by decide +kernel
theorem ddJ0_charAt_5068e_8 : decode cJ0_charAt_5068e 8 = .ok (.getfield 9, 3) := by decide +kernel
theorem ddJ0_charAt_5068e_11 : decode cJ0_charAt_5068e 11 = .ok (.iload_n 1, 1) := by decide +kernel
theorem ddJ0_charAt_5068e_12 : decode cJ0_charAt_5068e 12 = .ok (.invokestatic 495, 3) := by decide +kernel
theorem ddJ0_charAt_5068e_15 : decode cJ0_charAt_5068e 15 = .ok (.ireturn, 1) := by decide +kernel
theorem ddJ0_charAt_5068e_16 : decode cJ0_charAt_5068e 16 = .ok (.aload_n 0, 1) := by decide +kernel
theorem ddJ0_charAt_5068e_17 : decode cJ0_charAt_5068e 17 = .ok (.getfield 9, 3) := by decide +kernel
theorem ddJ0_charAt_5068e_20 : decode cJ0_charAt_5068e 20 = .ok (.iload_n 1, 1) := by decide +kernel
theorem ddJ0_charAt_5068e_21 : decode cJ0_charAt_5068e 21 = .ok (.invokestatic 498, 3) := by decide +kernel
theorem ddJ0_charAt_5068e_24 : decode cJ0_charAt_5068e 24 = .ok (.ireturn, 1) := by decide +kernel
theorem ddJ0_isLatin1_aae02_0 : decode cJ0_isLatin1_aae02 0 = .ok (.getstatic 38, 3) := by decide +kernel
theorem ddJ0_isLatin1_aae02_3 : decode cJ0_isLatin1_aae02 3 = .ok (.ifCond .eq 14, 3) := by decide +kernel
theorem ddJ0_isLatin1_aae02_6 : decode cJ0_isLatin1_aae02 6 = .ok (.aload_n 0, 1) := by decide +kernel
theorem ddJ0_isLatin1_aae02_7 : decode cJ0_isLatin1_aae02 7 = .ok (.getfield 15, 3) := by decide +kernel
theorem ddJ0_isLatin1_aae02_10 : decode cJ0_isLatin1_aae02 10 = .ok (.ifCond .ne 7, 3) := by decide +kernel
theorem ddJ0_isLatin1_aae02_13 : decode cJ0_isLatin1_aae02 13 = .ok (.iconst 1, 1) := by decide +kernel
theorem ddJ0_isLatin1_aae02_14 : decode cJ0_isLatin1_aae02 14 = .ok (.goto 4, 3) := by decide +kernel
theorem ddJ0_isLatin1_aae02_17 : decode cJ0_isLatin1_aae02 17 = .ok (.iconst 0, 1) := by decide +kernel
theorem ddJ0_isLatin1_aae02_18 : decode cJ0_isLatin1_aae02 18 = .ok (.ireturn, 1) := by decide +kernel
theorem ddJ0_checkIndex_df160_0 : decode cJ0_checkIndex_df160 0 = .ok (.iload_n 0, 1) := by decide +kernel
theorem ddJ0_checkIndex_df160_1 : decode cJ0_checkIndex_df160 1 = .ok (.iload_n 1, 1) := by decide +kernel
theorem ddJ0_checkIndex_df160_2 : decode cJ0_checkIndex_df160 2 = .ok (.getstatic 1053, 3) := by decide +kernel
theorem ddJ0_checkIndex_df160_5 : decode cJ0_checkIndex_df160 5 = .ok (.invokestatic 1059, 3) := by decide +kernel
theorem ddJ0_checkIndex_df160_8 : decode cJ0_checkIndex_df160 8 = .ok (.pop, 1) := by decide +kernel
theorem ddJ0_checkIndex_df160_9 : decode cJ0_checkIndex_df160 9 = .ok (.return_, 1) := by decide +kernel
theorem ddJ1_charAt_3b067_0 : decode cJ1_charAt_3b067 0 = .ok (.iload_n 1, 1) := by decide +kernel
theorem ddJ1_charAt_3b067_1 : decode cJ1_charAt_3b067 1 = .ok (.aload_n 0, 1) := by decide +kernel
theorem ddJ1_charAt_3b067_2 : decode cJ1_charAt_3b067 2 = .ok (.arraylength, 1) := by decide +kernel
theorem ddJ1_charAt_3b067_3 : decode cJ1_charAt_3b067 3 = .ok (.invokestatic 9, 3) := by decide +kernel
theorem ddJ1_charAt_3b067_6 : decode cJ1_charAt_3b067 6 = .ok (.aload_n 0, 1) := by decide +kernel
theorem ddJ1_charAt_3b067_7 : decode cJ1_charAt_3b067 7 = .ok (.iload_n 1, 1) := by decide +kernel
theorem ddJ1_charAt_3b067_8 : decode cJ1_charAt_3b067 8 = .ok (.baload, 1) := by decide +kernel
theorem ddJ1_charAt_3b067_9 : decode cJ1_charAt_3b067 9 = .ok (.sipush 255, 3) := by decide +kernel
theorem ddJ1_charAt_3b067_12 : decode cJ1_charAt_3b067 12 = .ok (.iand, 1) := by decide +kernel
theorem ddJ1_charAt_3b067_13 : decode cJ1_charAt_3b067 13 = .ok (.i2c, 1) := by decide +kernel
theorem ddJ1_charAt_3b067_14 : decode cJ1_charAt_3b067 14 = .ok (.ireturn, 1) := by decide +kernel
theorem ddJ3_checkIndex_8e157_0 : decode cJ3_checkIndex_8e157 0 = .ok (.iload_n 0, 1) := by decide +kernel
theorem ddJ3_checkIndex_8e157_1 : decode cJ3_checkIndex_8e157 1 = .ok (.ifCond .lt 8, 3) := by decide +kernel
theorem ddJ3_checkIndex_8e157_4 : decode cJ3_checkIndex_8e157 4 = .ok (.iload_n 0, 1) := by decide +kernel
theorem ddJ3_checkIndex_8e157_5 : decode cJ3_checkIndex_8e157 5 = .ok (.iload_n 1, 1) := by decide +kernel
theorem ddJ3_checkIndex_8e157_6 : decode cJ3_checkIndex_8e157 6 = .ok (.if_icmp .lt 10, 3) := by decide +kernel
theorem ddJ3_checkIndex_8e157_9 : decode cJ3_checkIndex_8e157 9 = .ok (.aload_n 2, 1) := by decide +kernel
theorem ddJ3_checkIndex_8e157_10 : decode cJ3_checkIndex_8e157 10 = .ok (.iload_n 0, 1) := by decide +kernel
theorem ddJ3_checkIndex_8e157_11 : decode cJ3_checkIndex_8e157 11 = .ok (.iload_n 1, 1) := by decide +kernel
theorem ddJ3_checkIndex_8e157_12 : decode cJ3_checkIndex_8e157 12 = .ok (.invokestatic 95, 3) := by decide +kernel
theorem ddJ3_checkIndex_8e157_15 : decode cJ3_checkIndex_8e157 15 = .ok (.athrow, 1) := by decide +kernel
theorem ddJ3_checkIndex_8e157_16 : decode cJ3_checkIndex_8e157 16 = .ok (.iload_n 0, 1) := by decide +kernel
theorem ddJ3_checkIndex_8e157_17 : decode cJ3_checkIndex_8e157 17 = .ok (.ireturn, 1) := by decide +kernel
/-- behind a call that answers nothing and leaves all as it was -/
theorem ks_void {p : Program} {l : Launch} {e : Env} {R : Room} {s : State} {m : MethodId} {args : Array Value} {below : List Frame} {meth : Method} {c : Code} {H : Heap} {locs : List Loc} {cells slots : Nat} {Q : State → Prop} {g : JFrame} {rest : List Value} {a : Array Value}
    (hr : CallRun p l e R s m args below meth c H locs cells slots 0 0 g rest ((fun _ st o t => o = .returned none ∧ t.heap = st.heap : Array Value → State → Outcome → State → Prop) a) (fun _ => False)) (kk : W p l e R s m args below meth c H locs cells slots Q { g with pc := g.pc + 3, stack := rest }) : W p l e R s m args below meth c H locs cells slots Q g := by
  intro T hT X
  obtain ⟨v, st₀, t, T', L, h0, X', hL, e1, ⟨hv, hh⟩, st⟩ := hr T hT X
  cases hv
  obtain ⟨t2, a1, b1⟩ := kk T' (by rw [e1, hh, h0]) (Stand.forget X' (fun q h => (hL q h).elim))
  exact ⟨t2, st t2 a1, b1⟩
/-- Preconditions.checkIndex of a place within -/
theorem kk_cp (l : Launch) (i n : Int32) (v : Value) (hi : ¬ i < 0) (hn : i < n) (hc : v = .null ∨ ∃ a, v = .ref a) : Met l yJ3_checkIndex_8e157 ks_cp (k2_rm 0 0) (va_Pc [.int i, .int n, v] (fun _ => True)) (k2_QcV (.int i)) 0 0 (fun _ => False) := by
  refine va_MetF (cc := cJ3_checkIndex_8e157) (maxL := 3) (ret := some .int) (by decide) rfl ?_
  intro p e s m args below meth c s₁ B hml hv
  obtain ⟨rfl, -⟩ := hv
  have hx := B.exec
  have hb := B.bytes
  have hr := B.returns
  have hlocks := B.notSynchronized
  have hl : lv_has ((lg_sl [.int i, .int n, v] ++ List.replicate (3 - (lg_sl [.int i, .int n, v]).length) Slot.unset).toArray) 3 (lv_args 0 [.int i, .int n, v]) := by
    rcases hc with rfl | ⟨a, rfl⟩ <;> exact lv_entry _ (Nat.le_of_ble_eq_true rfl)
  rw [lg_entry_eq]
  generalize (lg_sl ([.int i, .int n, v]) ++ List.replicate (3 - (lg_sl ([.int i, .int n, v])).length) Slot.unset).toArray = ls at hl ⊢
  refine lv_iload_n hx hb ddJ3_checkIndex_8e157_0 rfl (lv_at hl 0 rfl) ?_
  refine lv_if_lt (tgt := 9) hx hb ddJ3_checkIndex_8e157_1 (by decide) (fun q => absurd q hi) (fun _ => ?_)
  refine lv_iload_n hx hb ddJ3_checkIndex_8e157_4 rfl (lv_at hl 0 rfl) ?_
  refine lv_iload_n hx hb ddJ3_checkIndex_8e157_5 rfl (lv_at hl 1 rfl) ?_
  refine lv_icmp_lt (tgt := 16) hx hb ddJ3_checkIndex_8e157_6 (by decide) (fun _ => ?_) (fun q => absurd hn q)
  refine lv_iload_n hx hb ddJ3_checkIndex_8e157_16 rfl (lv_at hl 0 rfl) ?_
  exact W.iret hx hb hr (fun t ht _ => ⟨rfl, ht⟩) (fun q h => by cases h) ddJ3_checkIndex_8e157_17
/-- String.checkIndex of a place within -/
theorem kk_ci (l : Launch) (G : mG) (i n : Int32) (hi : ¬ i < 0) (hn : i < n) : Met l yJ0_checkIndex_df160 ks_ci (k2_rm 1 40) (va_Pc [.int i, .int n] (fun U => mj_X G U)) (fun _ st o t => o = .returned none ∧ t.heap = st.heap) 0 0 (fun _ => False) := by
  refine va_MetF (cc := cJ0_checkIndex_df160) (maxL := 2) (ret := none) (by decide) rfl ?_
  intro p e s m args below meth c s₁ B hml hv
  obtain ⟨rfl, hX⟩ := hv
  have hx := B.exec
  have hb := B.bytes
  have hr := B.returns
  have hlocks := B.notSynchronized
  have hts : ∀ w ∈ lw_g, w.before _ s = true := fun w hw => atoms_spec (ws := ks_ci) B.pre w (List.mem_cons_of_mem _ hw)
  have hown : s.vm.findClass RJ0 = some m.cls := findClass_of_methodNamed B.named
  obtain ⟨v, hv1, hv2⟩ := hX.2.2.2.2.2.2.2.2.2.2
  have hl := lv_entry ([.int i, .int n]) (n := 2) (Nat.le_of_ble_eq_true rfl)
  rw [lg_entry_eq]
  generalize (lg_sl ([.int i, .int n]) ++ List.replicate (2 - (lg_sl ([.int i, .int n])).length) Slot.unset).toArray = ls at hl ⊢
  refine lv_iload_n hx hb ddJ0_checkIndex_df160_0 rfl (lv_at hl 0 rfl) ?_
  refine lv_iload_n hx hb ddJ0_checkIndex_df160_1 rfl (lv_at hl 1 rfl) ?_
  refine va_gets hx hb hv2 va_S.rf hown (hts _ kl_h) (fun _ h => h) ddJ0_checkIndex_df160_2 ?_
  refine W.callV (r := .int i) (W.runS (As := [.int i, .int n, v]) (rest := []) ⟨hx, hb, hml, hown, hts⟩ (kk_cp l i n v hi hn hv1) ⟨callB_of 3 hts kg_cp rfl rfl rfl (hts _ ki_cp) (hts _ kl_c) (by decide +kernel) ⟨Nat.le_of_ble_eq_true rfl, Nat.le_of_ble_eq_true rfl⟩, hts _ kt_cp⟩ ⟨fun a U g mk q => q, fun U hU hW => ⟨rfl, trivial⟩⟩ rfl rfl hl.1 rfl (lv_room (Nat.le_of_ble_eq_true rfl)) ddJ0_checkIndex_df160_5 ⟨Nat.le_refl _, Nat.le_refl _⟩) ?_
  refine W.eq (g2 := F0 m 8 ls [.int i]) rfl ?_
  refine lv_pop hx hb ddJ0_checkIndex_df160_8 rfl ?_
  exact W.vret hx hb hr (fun t ht _ => ⟨rfl, ht⟩) (fun q h => by cases h) ddJ0_checkIndex_df160_9
/-- String.isLatin1 of the text -/
theorem kk_il (l : Launch) (G : mG) : Met l yJ0_isLatin1_aae02 ks_il (k2_rm 0 0) (va_Pc [.ref G.2.2.2.2.1] (fun U => mj_X G U)) (k2_QcV (.int 1)) 0 0 (fun _ => False) := by
  refine va_MetF (cc := cJ0_isLatin1_aae02) (maxL := 1) (ret := some .boolean) (by decide) rfl ?_
  intro p e s m args below meth c s₁ B hml hv
  obtain ⟨rfl, hX⟩ := hv
  have hx := B.exec
  have hb := B.bytes
  have hr := B.returns
  have hlocks := B.notSynchronized
  have hts : ∀ w ∈ lw_g, w.before _ s = true := fun w hw => atoms_spec (ws := ks_il) B.pre w (List.mem_cons_of_mem _ hw)
  have hown : s.vm.findClass RJ0 = some m.cls := findClass_of_methodNamed B.named
  have hZ := hX.2.2.2.2.2.2.2.1
  have hS := (hX.2.2.2.2.2.2.1).1 0 (by decide)
  have hl := lv_entry ([.ref G.2.2.2.2.1]) (n := 1) (Nat.le_of_ble_eq_true rfl)
  rw [lg_entry_eq]
  generalize (lg_sl ([.ref G.2.2.2.2.1]) ++ List.replicate (1 - (lg_sl ([.ref G.2.2.2.2.1])).length) Slot.unset).toArray = ls at hl ⊢
  refine va_gets hx hb hZ va_S.rf hown (hts _ kl_e) (fun _ h => h) ddJ0_isLatin1_aae02_0 ?_
  refine lv_if_eq (tgt := 17) hx hb ddJ0_isLatin1_aae02_3 (by decide) (fun q => absurd q (by decide)) (fun _ => ?_)
  refine lv_aload_n hx hb ddJ0_isLatin1_aae02_6 rfl (lv_at hl 0 rfl) ?_
  refine vk_getf hx hb hS.2.1 va_S.rf hown (hts _ kl_f) (fun _ h => h) ddJ0_isLatin1_aae02_7 ?_
  refine lv_if_ne (tgt := 17) hx hb ddJ0_isLatin1_aae02_10 (by decide) (fun q => absurd rfl q) (fun _ => ?_)
  refine lv_iconst (v := 1) hx hb ddJ0_isLatin1_aae02_13 (by decide) ?_
  refine lv_goto (tgt := 18) hx hb ddJ0_isLatin1_aae02_14 (by decide) ?_
  exact W.zret hx hb hr rfl (fun t ht _ => ⟨rfl, ht⟩) (fun q h => by cases h) ddJ0_isLatin1_aae02_18
theorem mj_byt_ok : ∀ j, j < 162 → (((mj_byt.getD j 0) &&& 255).toUInt32 % 65536).toInt32 = Int32.ofNat (mj_txt.getD j 0) ∧ narrow .char (.int (Int32.ofNat (mj_txt.getD j 0))) = .int (Int32.ofNat (mj_txt.getD j 0)) ∧ (Int32.ofNat (mj_txt.getD j 0)).toInt = (mj_txt.getD j 0 : Nat) := by decide +kernel
/-- StringLatin1.charAt of the text's bytes -/
theorem kk_cb (l : Launch) (G : mG) (i : Int32) (x : Nat) (hx0 : x < 162) (hi : i = nI x) : Met l yJ1_charAt_3b067 ks_cb (k2_rm 2 80) (va_Pc [.ref G.2.2.2.2.2, .int i] (fun U => mj_X G U)) (k2_QcV (.int (Int32.ofNat (mj_txt.getD x 0)))) 0 0 (fun _ => False) := by
  refine va_MetF (cc := cJ1_charAt_3b067) (maxL := 2) (ret := some .char) (by decide) rfl ?_
  intro p e s m args below meth c s₁ B hml hv
  obtain ⟨rfl, hX⟩ := hv
  have hx := B.exec
  have hb := B.bytes
  have hr := B.returns
  have hlocks := B.notSynchronized
  have hts : ∀ w ∈ lw_g, w.before _ s = true := fun w hw => atoms_spec (ws := ks_cb) B.pre w (List.mem_cons_of_mem _ hw)
  have hown : s.vm.findClass RJ1 = some m.cls := findClass_of_methodNamed B.named
  have hS := (hX.2.2.2.2.2.2.1).1 0 (by decide)
  have hT := hS.2.2.2
  have hi0 : ¬ i < 0 := by rw [hi]; exact nI_pos (by omega)
  have hin : i < 162 := by rw [hi]; exact nI_lt (b := 162) hx0 (by decide)
  have hcl : i.toNatClampNeg = x := by rw [hi]; exact nI_clamp (by omega)
  obtain ⟨b1, b2, b3⟩ := mj_byt_ok x hx0
  have hl := lv_entry ([.ref G.2.2.2.2.2, .int i]) (n := 2) (Nat.le_of_ble_eq_true rfl)
  rw [lg_entry_eq]
  generalize (lg_sl ([.ref G.2.2.2.2.2, .int i]) ++ List.replicate (2 - (lg_sl ([.ref G.2.2.2.2.2, .int i])).length) Slot.unset).toArray = ls at hl ⊢
  refine lv_iload_n hx hb ddJ1_charAt_3b067_0 rfl (lv_at hl 1 rfl) ?_
  refine lv_aload_n hx hb ddJ1_charAt_3b067_1 rfl (lv_at hl 0 rfl) ?_
  refine va_tlen (v := 162) hx hb hT va_S.rf rfl ddJ1_charAt_3b067_2 ?_
  refine ks_void (a := [Value.int i, .int 162].toArray) (W.runS (As := [.int i, .int 162]) (rest := []) ⟨hx, hb, hml, hown, hts⟩ (kk_ci l G i 162 hi0 hin) ⟨callB_of 2 hts kg_ci rfl rfl rfl (hts _ ki_ci) (hts _ kl_d) (by decide +kernel) ⟨Nat.le_of_ble_eq_true rfl, Nat.le_of_ble_eq_true rfl⟩, hts _ kt_ci⟩ ⟨fun a U g mk q => ⟨q.1, q.2.calling g mk a⟩, fun U hU hW => ⟨rfl, hX.step va_S.rf hU hW⟩⟩ rfl rfl hl.1 rfl (lv_room (Nat.le_of_ble_eq_true rfl)) ddJ1_charAt_3b067_3 ⟨Nat.le_refl _, Nat.le_refl _⟩) ?_
  refine W.eq (g2 := F0 m 6 ls []) rfl ?_
  refine lv_aload_n hx hb ddJ1_charAt_3b067_6 rfl (lv_at hl 0 rfl) ?_
  refine lv_iload_n hx hb ddJ1_charAt_3b067_7 rfl (lv_at hl 1 rfl) ?_
  refine va_tb (v := .int (mj_byt.getD x 0)) hx hb hT va_S.rf (by rw [hi]; exact vp_in_nI hx0 (by decide)) (by rw [hcl]; rfl) ddJ1_charAt_3b067_8 ?_
  refine lv_sipush (v := 255) hx hb ddJ1_charAt_3b067_9 (by decide) ?_
  refine lv_iand hx hb ddJ1_charAt_3b067_12 ?_
  refine lv_i2c hx hb ddJ1_charAt_3b067_13 b1 ?_
  exact W.zret hx hb hr b2 (fun t ht _ => ⟨rfl, ht⟩) (fun q h => by cases h) ddJ1_charAt_3b067_14
/-- String.charAt of the text -/
theorem kk_ca (l : Launch) (G : mG) (i : Int32) (x : Nat) (hx0 : x < 162) (hi : i = nI x) : Met l yJ0_charAt_5068e ks_ca (k2_rm 3 120) (va_Pc [.ref G.2.2.2.2.1, .int i] (fun U => mj_X G U)) (k2_QcV (.int (Int32.ofNat (mj_txt.getD x 0)))) 0 0 (fun _ => False) := by
  refine va_MetF (cc := cJ0_charAt_5068e) (maxL := 2) (ret := some .char) (by decide) rfl ?_
  intro p e s m args below meth c s₁ B hml hv
  obtain ⟨rfl, hX⟩ := hv
  have hx := B.exec
  have hb := B.bytes
  have hr := B.returns
  have hlocks := B.notSynchronized
  have hts : ∀ w ∈ lw_g, w.before _ s = true := fun w hw => atoms_spec (ws := ks_ca) B.pre w (List.mem_cons_of_mem _ hw)
  have hown : s.vm.findClass RJ0 = some m.cls := findClass_of_methodNamed B.named
  have hS := (hX.2.2.2.2.2.2.1).1 0 (by decide)
  obtain ⟨b1, b2, b3⟩ := mj_byt_ok x hx0
  have hl := lv_entry ([.ref G.2.2.2.2.1, .int i]) (n := 2) (Nat.le_of_ble_eq_true rfl)
  rw [lg_entry_eq]
  generalize (lg_sl ([.ref G.2.2.2.2.1, .int i]) ++ List.replicate (2 - (lg_sl ([.ref G.2.2.2.2.1, .int i])).length) Slot.unset).toArray = ls at hl ⊢
  refine lv_aload_n hx hb ddJ0_charAt_5068e_0 rfl (lv_at hl 0 rfl) ?_
  refine W.callV (r := .int 1) (W.runV (C := RJ0) (As := []) (rest := []) ⟨hx, hb, hml, hown, hts⟩ (kk_il l G) ⟨callB_of 0 hts kg_il rfl rfl rfl (hts _ ki_il) (hts _ kl_a) (by decide +kernel) ⟨Nat.le_of_ble_eq_true rfl, Nat.le_of_ble_eq_true rfl⟩, hts _ kn_il, hts _ ke_il⟩ ⟨fun a U g mk q => ⟨q.1, q.2.calling g mk a⟩, vk_recv hX.2.2.2.2.2.2.1 (i := 0) (by decide) va_S.rf, fun U hU hW => ⟨rfl, hX.step va_S.rf hU hW⟩⟩ rfl rfl hl.1 rfl (lv_room (Nat.le_of_ble_eq_true rfl)) ddJ0_charAt_5068e_1 ⟨Nat.zero_le _, Nat.zero_le _⟩) ?_
  refine W.eq (g2 := F0 m 4 ls [.int 1]) rfl ?_
  refine lv_if_eq (tgt := 16) hx hb ddJ0_charAt_5068e_4 (by decide) (fun q => absurd q (by decide)) (fun _ => ?_)
  refine lv_aload_n hx hb ddJ0_charAt_5068e_7 rfl (lv_at hl 0 rfl) ?_
  refine vk_getf hx hb hS.2.2.1 va_S.rf hown (hts _ kl_g) (fun _ h => h) ddJ0_charAt_5068e_8 ?_
  refine lv_iload_n hx hb ddJ0_charAt_5068e_11 rfl (lv_at hl 1 rfl) ?_
  refine W.callV (r := .int (Int32.ofNat (mj_txt.getD x 0))) (W.runS (As := [.ref G.2.2.2.2.2, .int i]) (rest := []) ⟨hx, hb, hml, hown, hts⟩ (kk_cb l G i x hx0 hi) ⟨callB_of 2 hts kg_cb rfl rfl rfl (hts _ ki_cb) (hts _ kl_b) (by decide +kernel) ⟨Nat.le_of_ble_eq_true rfl, Nat.le_of_ble_eq_true rfl⟩, hts _ kt_cb⟩ ⟨fun a U g mk q => ⟨q.1, q.2.calling g mk a⟩, fun U hU hW => ⟨rfl, hX.step va_S.rf hU hW⟩⟩ rfl rfl hl.1 rfl (lv_room (Nat.le_of_ble_eq_true rfl)) ddJ0_charAt_5068e_12 ⟨Nat.zero_le _, Nat.zero_le _⟩) ?_
  refine W.eq (g2 := F0 m 15 ls [.int (Int32.ofNat (mj_txt.getD x 0))]) rfl ?_
  exact W.zret hx hb hr b2 (fun t ht _ => ⟨rfl, ht⟩) (fun q h => by cases h) ddJ0_charAt_5068e_15
section
variable {G : mG} {p : Program} {l : Launch} {e : Env} {R : Room} {s : State} {m : MethodId} {args : Array Value} {below : List Frame} {meth : Method} {c : Code} {Q : State → Prop} {n0 : Nat} {ad0 : Nat → Nat} {cc : ByteArray} {pc : Nat} {lv : mL} {st : List mV} {n : Nat} {σ : mM} {own : String} {top : Nat}
theorem g_ldcs (hx : p.tables.exec = Jvm.exec) (hb : c.code = cc) (hown : s.vm.findClass (mj_on 9) = some m.cls) (hX : mj_X G s) (hd : decode cc pc = .ok (.ldc 64, 2)) (kk : mj_Go G p l e R s m args below meth c Q n0 ad0 (pc + 2) lv (.inr (.inr mj_STR) :: st) n σ) : mj_Go G p l e R s m args below meth c Q n0 ad0 pc lv st n σ := by
  intro ad H locs ls st2 hA
  obtain ⟨h1, h2, h3, h4⟩ := hA
  exact va_ldcS hx hb hown hX.2.2.2.2.2.1 hd (kk ad H locs ls _ ⟨h1, h2, ⟨Or.inr ⟨by decide, Or.inr (by decide), by rw [h4.2.2.2.2]⟩, h3⟩, h4⟩)
theorem g_charAt {d idx : Nat} {x : Int} (hx : p.tables.exec = Jvm.exec) (hb : c.code = cc) (hml : c.maxLocals = lv.length) (hts : ∀ w ∈ lw_g, w.before args s = true) (hown : s.vm.findClass own = some m.cls) (hX : mj_X G s) (hR1 : d + 9 ≤ R.frames) (hR2 : 40 * (d + 9) ≤ R.locals) (hnt : n ≤ top) (hR3 : top - n0 ≤ R.cells) (hR4 : mj_SL top - mj_SL n0 ≤ R.slots) (hj : 0 ≤ x ∧ x < 162) (hsum : mj_sum st ≤ 8)
    (hl : (Cond.methodLink own idx yJ0_charAt_5068e).before args s = true) (hd : decode cc pc = .ok (.invokevirtual idx, 3)) (kk : mj_Go G p l e R s m args below meth c Q n0 ad0 (pc + 3) lv (.inl (mj_txt.getD x.toNat 0 : Nat) :: st) n σ) : mj_Go G p l e R s m args below meth c Q n0 ad0 pc lv (.inl x :: .inr (.inr mj_STR) :: st) n σ := by
  intro ad H locs ls st2 hA
  obtain ⟨h1, h2, h3, h4⟩ := hA
  obtain ⟨z, r, rfl, hz, h3a⟩ := h3.i
  obtain ⟨w, r2, rfl, hw, h3b⟩ := h3a.r
  have hw2 := hw.ref (by decide)
  subst hw2
  rw [h4.2.2.2.2]
  have hi : z = nI x.toNat := by apply mj_inj; rw [nI_toInt (by omega), hz]; omega
  have hx0 : x.toNat < 162 := by omega
  refine W.callV (r := .int (Int32.ofNat (mj_txt.getD x.toNat 0))) (W.runV (C := RJ0) (As := [.int z]) (rest := r2) ⟨hx, hb, hml, hown, hts⟩ (kk_ca l G z x.toNat hx0 hi) ⟨callB_of 1 hts kg_ca rfl rfl rfl (hts _ ki_ca) hl (by decide +kernel) ⟨by show 3 + 1 ≤ _; omega, by show 8 + (2 + 11) + 120 ≤ _; omega⟩, hts _ kn_ca, hts _ ke_ca⟩ ⟨fun a U g mk q => ⟨q.1, q.2.calling g mk a⟩, vk_recv hX.2.2.2.2.2.2.1 (i := 0) (by decide) h4.1, fun U hU hW => ⟨rfl, hX.step h4.1 hU hW⟩⟩ rfl rfl h2.1 rfl (lv_room (by rw [h3b.sum]; exact hsum)) hd ⟨by omega, by have := mj_SL_mono hnt; omega⟩) ?_
  exact kk ad H locs ls _ ⟨h1, h2, ⟨⟨_, rfl, (mj_byt_ok x.toNat hx0).2.2⟩, h3b⟩, h4⟩
end
