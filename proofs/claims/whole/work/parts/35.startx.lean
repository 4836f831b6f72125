theorem mj_tS : Cond.stringRef "NightForecast$Tokens" 64 mj_lit ∈ tables_1 := List.mem_append_right _ (List.mem_append_right _ (List.mem_append_left _ (List.mem_of_getElem? (i := 1) rfl)))
theorem mj_tL1 : Cond.laysStatic "java/lang/String" "COMPACT_STRINGS" "Z" ∈ tables_1 := List.mem_append_right _ (List.mem_append_right _ (List.mem_append_left _ (List.mem_of_getElem? (i := 11) rfl)))
theorem mj_tL2 : Cond.laysStatic "jdk/internal/util/Preconditions" "SIOOBE_FORMATTER" "Ljava/util/function/BiFunction;" ∈ tables_1 := List.mem_append_right _ (List.mem_append_right _ (List.mem_append_left _ (List.mem_of_getElem? (i := 19) rfl)))
theorem mj_tA1 : Cond.arrayOver (.object "NightForecast$Sky") ∈ tables_1 := List.mem_append_right _ (List.mem_append_left _ (List.mem_of_getElem? (i := 125) rfl))
theorem mj_tA2 : Cond.arrayOver (.object "NightForecast$Kept") ∈ tables_1 := List.mem_append_right _ (List.mem_append_left _ (List.mem_of_getElem? (i := 127) rfl))
theorem mj_tI1 : Cond.initialized "java/lang/String" ∈ tables_1 := List.mem_append_left _ (List.mem_of_getElem? (i := 16) rfl)
theorem mj_tI2 : Cond.initialized "jdk/internal/util/Preconditions" ∈ tables_1 := List.mem_append_left _ (List.mem_of_getElem? (i := 18) rfl)
def mj_flat : List Cond := flatC (Jvm.Cond.and given_1 narrow_1)
def mj_tm : Term := .string "NightForecast$Tokens" 64
theorem mj_fl1 : Cond.eq (.static "java/lang/String" "COMPACT_STRINGS" "Z") (.int 1) ∈ mj_flat := by decide +kernel
theorem mj_fl2 : Cond.isRef (.static "jdk/internal/util/Preconditions" "SIOOBE_FORMATTER" "Ljava/util/function/BiFunction;") ∈ mj_flat := by decide +kernel
theorem mj_fl3 : Cond.exactly mj_tm "java/lang/String" ∈ mj_flat := by decide +kernel
theorem mj_fl4 : Cond.eq (.field mj_tm "java/lang/String" "coder" "B") (.int 0) ∈ mj_flat := by decide +kernel
theorem mj_fl5 : Cond.arrayOf (.field mj_tm "java/lang/String" "value" "[B") .byte ∈ mj_flat := by decide +kernel
theorem mj_fl6 : Cond.eq (.length (.field mj_tm "java/lang/String" "value" "[B")) (.int (Int32.ofNat 162)) ∈ mj_flat := by decide +kernel
def mj_elm (j : Nat) : Cond := Cond.eq (.elem (.field mj_tm "java/lang/String" "value" "[B") (.int (Int32.ofNat j))) (.int (mj_byt.getD j 0))
theorem mj_fl8 : (mj_flat.drop 39).take 162 = (List.range 162).map mj_elm := by decide +kernel
theorem mj_fl7 (j : Nat) (h : j < 162) : mj_elm j ∈ mj_flat := by
  have h1 : mj_elm j ∈ (List.range 162).map mj_elm := List.mem_map.mpr ⟨j, List.mem_range.mpr h, rfl⟩
  rw [← mj_fl8] at h1
  exact List.mem_of_mem_drop (List.mem_of_mem_take h1)
theorem mj_startX {args : Array Value} {s : State} {b L : Nat} {xs : Nat → Int32} (hts : ∀ w ∈ lw_tbl, w.before args s = true) (hX : va_X b L xs s s.heap) (hbl : b < s.heap.size) (hL : L ≤ 3072) (hgv : (Jvm.Cond.and given_1 narrow_1).before args s = true) : ∃ a1 a2 : Nat, ∀ (D : va_G) (t : Nat → ClassId), mj_X (D, t, (b, L, xs), s.heap.size, (a1, a2)) s := by
  have ht : ∀ w ∈ tables_1, w.before args s = true := fun w h => hts w (List.mem_append_right _ h)
  have hf : ∀ w ∈ mj_flat, w.before args s = true := flat_of_before _ hgv
  have hA : ∀ a : Nat, a < s.heap.size → ¬ (fun q : Nat => s.heap.size ≤ q) a := fun a h1 h2 => absurd h1 (Nat.not_lt.mpr h2)
  have i0 : ∀ {i : Nat}, i < 1 → i = 0 := fun {i} h => by omega
  obtain ⟨adK, adV, hS, hE⟩ := vk_Sof (args := args) (s := s) (N := 1) (tm := fun _ => mj_tm) (len := [162]) (byt := [mj_byt]) (A := fun q : Nat => s.heap.size ≤ q) (fun i hi => by rw [i0 hi]; decide) (fun i hi => hf _ mj_fl3) (fun i hi => hf _ mj_fl4) (fun i hi => hf _ mj_fl5)
    (fun i hi => by rw [i0 hi]; exact hf _ mj_fl6) (fun i hi j hj => by rw [i0 hi] at hj ⊢; exact hf _ (mj_fl7 j hj)) (fun i j hi hj hn => absurd (show i = j by omega) hn) hA
  refine ⟨adK 0, adV 0, fun D t => ⟨hX, hbl, hL, Nat.le_refl _, fun w hw => va_Nw.of (mj_lwn_on w hw) (ht w (List.mem_filter.mp hw).1), vk_R.of (ht _ mj_tS) (hE 0 (by decide)), ?_, va_Zof (ht _ mj_tL1) (ht _ mj_tI1) (va_eqi (hf _ mj_fl1)) hA, va_AO.of (ht _ mj_tA1), va_AO.of (ht _ mj_tA2), ?_⟩⟩
  · refine ⟨fun i hi => ?_, fun i j h1 h2 _ => by omega⟩
    obtain rfl : i = 0 := by omega
    exact hS.1 0 (by decide)
  · rcases va_Zqof (ht _ mj_tL2) (ht _ mj_tI2) (hf _ mj_fl2) hA with h | ⟨a, h⟩
    · exact ⟨_, Or.inl rfl, h⟩
    · exact ⟨_, Or.inr ⟨a, rfl⟩, h⟩
