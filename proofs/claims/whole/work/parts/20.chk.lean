theorem mj_and {a b : Bool} (h : (a && b) = true) : a = true ∧ b = true := Bool.and_eq_true_iff.mp h
def mj_rk (rt : Option FieldType) : Nat := match rt with
  | some .int => 0
  | some .boolean => 1
  | some .char => 2
  | _ => 9
def mj_rro (rt : Option FieldType) : Bool := match rt with
  | some (.object _) => true
  | some (.array _) => true
  | _ => false
def mj_ptag (ty : FieldType) : Nat := match ty with
  | .int => 0
  | .long => 1
  | .object _ => 2
  | .array _ => 2
  | .boolean => 3
  | _ => 99
theorem mj_pt0 {a b : Nat} (h : mj_ptag (mj_ty a b) = 0) (x : Int) : mj_ft a b x = .inl x := by
  unfold mj_ft; cases hq : mj_ty a b <;> rw [hq] at h <;> first | rfl | cases h
theorem mj_pt1 {a b : Nat} (h : mj_ptag (mj_ty a b) = 1) (x : Int) : mj_ft a b x = .inr (.inl x) := by
  unfold mj_ft; cases hq : mj_ty a b <;> rw [hq] at h <;> first | rfl | cases h
theorem mj_pt2 {a b : Nat} (h : mj_ptag (mj_ty a b) = 2) (x : Nat) : mj_ft a b (x : Int) = .inr (.inr x) := by
  unfold mj_ft; cases hq : mj_ty a b <;> rw [hq] at h <;> first | rfl | cases h
theorem mj_pt3 {a b t : Nat} (h : mj_ptag (mj_ty a b) = t + 3) (x : Int) : mj_ft a b x = .inl x := by
  unfold mj_ft; cases hq : mj_ty a b <;> rw [hq] at h <;> first | rfl | (simp only [mj_ptag] at h; omega)
theorem mj_pf0 {a b n : Nat} {ad : Nat → Nat} {x : Int} {w : Value} (h : mj_ptag (mj_ty a b) = 0) (hw : mj_v ad n (.inl x) w) : narrow (mj_ty a b) w = w ∧ fits (mj_ty a b) w = true := by
  obtain ⟨z, rfl, -⟩ := hw
  cases hq : mj_ty a b <;> rw [hq] at h <;> first | exact ⟨rfl, rfl⟩ | cases h
theorem mj_pf1 {a b n : Nat} {ad : Nat → Nat} {x : Int} {w : Value} (h : mj_ptag (mj_ty a b) = 1) (hw : mj_v ad n (.inr (.inl x)) w) : narrow (mj_ty a b) w = w ∧ fits (mj_ty a b) w = true := by
  obtain ⟨z, rfl, -⟩ := hw
  cases hq : mj_ty a b <;> rw [hq] at h <;> first | exact ⟨rfl, rfl⟩ | cases h
theorem mj_pf2 {a b n q : Nat} {ad : Nat → Nat} {w : Value} (h : mj_ptag (mj_ty a b) = 2) (hw : mj_v ad n (.inr (.inr q)) w) : narrow (mj_ty a b) w = w ∧ fits (mj_ty a b) w = true := by
  rcases hw with ⟨-, rfl⟩ | ⟨-, -, rfl⟩ <;> cases hq : mj_ty a b <;> rw [hq] at h <;> first | exact ⟨rfl, rfl⟩ | cases h
theorem mj_pf3 {a b n t : Nat} {ad : Nat → Nat} {x : Int} {w : Value} (h0 : t + 3 ≤ 3) (h : mj_ptag (mj_ty a b) = t + 3) (hx : x = 0 ∨ x = 1) (hw : mj_v ad n (.inl x) w) : narrow (mj_ty a b) w = w ∧ fits (mj_ty a b) w = true := by
  obtain ⟨z, rfl, hz⟩ := hw
  have e : z = 0 ∨ z = 1 := by
    rcases hx with h | h <;> rw [h] at hz
    · exact Or.inl (mj_inj hz)
    · exact Or.inr (mj_inj hz)
  cases hq : mj_ty a b <;> rw [hq] at h <;> first | (rcases e with rfl | rfl <;> exact ⟨rfl, rfl⟩) | (simp only [mj_ptag] at h; omega)
/-- does a resolved instruction stand for the one in the code? -/
def mj_chk (o : Nat) (ini : Bool) (rt : Option FieldType) (nL : Nat) (pcs : List Nat) (pc : Nat) (i0 : Instr) (len : Nat) (i : mI) : Bool := match i0 with
  | .iadd => Nat.beq len 1 && decide (i.1 = .iadd)
  | .isub => Nat.beq len 1 && decide (i.1 = .isub)
  | .imul => Nat.beq len 1 && decide (i.1 = .imul)
  | .idiv => Nat.beq len 1 && decide (i.1 = .idiv)
  | .irem => Nat.beq len 1 && decide (i.1 = .irem)
  | .iand => Nat.beq len 1 && decide (i.1 = .iand)
  | .ior => Nat.beq len 1 && decide (i.1 = .ior)
  | .ixor => Nat.beq len 1 && decide (i.1 = .ixor)
  | .ishl => Nat.beq len 1 && decide (i.1 = .ishl)
  | .ishr => Nat.beq len 1 && decide (i.1 = .ishr)
  | .iushr => Nat.beq len 1 && decide (i.1 = .iushr)
  | .ladd => Nat.beq len 1 && decide (i.1 = .ladd)
  | .lsub => Nat.beq len 1 && decide (i.1 = .lsub)
  | .lmul => Nat.beq len 1 && decide (i.1 = .lmul)
  | .ldiv => Nat.beq len 1 && decide (i.1 = .ldiv)
  | .lrem => Nat.beq len 1 && decide (i.1 = .lrem)
  | .land => Nat.beq len 1 && decide (i.1 = .land)
  | .lor => Nat.beq len 1 && decide (i.1 = .lor)
  | .lshl => Nat.beq len 1 && decide (i.1 = .lshl)
  | .lshr => Nat.beq len 1 && decide (i.1 = .lshr)
  | .lcmp => Nat.beq len 1 && decide (i.1 = .lcmp)
  | .i2l => Nat.beq len 1 && decide (i.1 = .i2l)
  | .l2i => Nat.beq len 1 && decide (i.1 = .l2i)
  | .dup => Nat.beq len 1 && decide (i.1 = .dup)
  | .dup2 => Nat.beq len 1 && decide (i.1 = .dup2)
  | .pop => Nat.beq len 1 && decide (i.1 = .pop)
  | .iconst v => Nat.beq len 1 && decide (i.1 = .sipush v) && decide (-128 ≤ v ∧ v < 128)
  | .bipush v => Nat.beq len 2 && decide (i.1 = .sipush v) && decide (-128 ≤ v ∧ v < 128)
  | .sipush v => Nat.beq len 3 && decide (i.1 = .sipush v) && decide (-32768 ≤ v ∧ v < 32768)
  | .lconst v => Nat.beq len 1 && decide (i.1 = .jsr ((v : Nat) : Int))
  | .ldc_w j => Nat.beq len 3 && (match i.1 with
    | .sipush v => mj_KI.contains (o, j, v)
    | _ => false)
  | .ldc j => Nat.beq len 2 && (match i.1 with
    | .sipush v => mj_KI.contains (o, j, v)
    | .ldc _ => Nat.beq o 9 && Nat.beq j 64
    | _ => false)
  | .ldc2_w j => Nat.beq len 3 && (match i.1 with
    | .jsr v => mj_KL.contains (o, j, v)
    | _ => false)
  | .iload j => Nat.beq len 2 && decide (i.1 = .iload j)
  | .iload_n f => Nat.beq len 1 && decide (i.1 = .iload (f : Nat))
  | .istore j => Nat.beq len 2 && decide (i.1 = .istore j) && Nat.blt j nL
  | .istore_n f => Nat.beq len 1 && decide (i.1 = .istore (f : Nat)) && Nat.blt (f : Nat) nL
  | .lload j => Nat.beq len 2 && decide (i.1 = .lload j)
  | .lload_n f => Nat.beq len 1 && decide (i.1 = .lload (f : Nat))
  | .lstore j => Nat.beq len 2 && decide (i.1 = .lstore j) && Nat.blt (j + 1) nL
  | .lstore_n f => Nat.beq len 1 && decide (i.1 = .lstore (f : Nat)) && Nat.blt ((f : Nat) + 1) nL
  | .aload j => Nat.beq len 2 && decide (i.1 = .aload j)
  | .aload_n f => Nat.beq len 1 && decide (i.1 = .aload (f : Nat))
  | .astore j => Nat.beq len 2 && decide (i.1 = .astore j) && Nat.blt j nL
  | .astore_n f => Nat.beq len 1 && decide (i.1 = .astore (f : Nat)) && Nat.blt (f : Nat) nL
  | .iinc j v => Nat.beq len 3 && decide (i.1 = .iinc j v) && decide (-32768 ≤ v ∧ v < 32768)
  | .getfield j => Nat.beq len 3 && (match i.1 with
    | .getfield t => Nat.blt i.2.1 13 && Nat.blt i.2.2.1 (mj_N i.2.1) && Nat.beq (mj_tag (mj_ty i.2.1 i.2.2.1)) t && ((mj_LK o).contains (j, 0, i.2.1, i.2.2.1) || (mj_LK o).contains (j, 1, i.2.1, i.2.2.1))
    | _ => false)
  | .putfield j => Nat.beq len 3 && (match i.1 with
    | .putfield t => Nat.blt i.2.1 13 && Nat.blt i.2.2.1 (mj_N i.2.1) && Nat.beq (mj_ptag (mj_ty i.2.1 i.2.2.1)) t && Nat.ble t 3 && (mj_LK o).contains (j, 0, i.2.1, i.2.2.1) && (!(mj_T i.2.1 i.2.2.1).2.2.2 || (ini && decide ((mj_T i.2.1 i.2.2.1).1 = mj_on o)))
    | _ => false)
  | .iaload => Nat.beq len 1 && decide (i.1 = .iaload)
  | .caload => Nat.beq len 1 && decide (i.1 = .caload)
  | .baload => Nat.beq len 1 && decide (i.1 = .baload)
  | .laload => Nat.beq len 1 && decide (i.1 = .laload)
  | .aaload => Nat.beq len 1 && decide (i.1 = .aaload)
  | .iastore => Nat.beq len 1 && decide (i.1 = .iastore)
  | .castore => Nat.beq len 1 && decide (i.1 = .castore)
  | .bastore => Nat.beq len 1 && decide (i.1 = .bastore)
  | .lastore => Nat.beq len 1 && decide (i.1 = .lastore)
  | .aastore => Nat.beq len 1 && decide (i.1 = .aastore)
  | .arraylength => Nat.beq len 1 && decide (i.1 = .arraylength)
  | .new j => Nat.beq len 3 && (match i.1 with
    | .new ci => Nat.blt ci 13 && (mj_LK o).contains (j, 4, ci, 0)
    | _ => false)
  | .newarray t => Nat.beq len 2 && decide (i.1 = .newarray t) && mj_at i.2.1 t
  | .anewarray j => Nat.beq len 3 && (match i.1 with
    | .anewarray kd => (mj_LK o).contains (j, 5, kd, 0)
    | _ => false)
  | .invokevirtual j => Nat.beq len 3 && (match i.1 with
    | .invokevirtual y => (mj_LK o).contains (j, 2, y, 0) && Nat.beq (mj_kd y) 0 && Nat.beq i.2.1 (mj_par y + 1) && Nat.blt i.2.2.1 13 && decide ((mj_nam y).cls = mj_R i.2.2.1)
    | .invokedynamic w => Nat.beq w 1 && (mj_LK o).contains (j, 8, 0, 0)
    | _ => false)
  | .invokestatic j => Nat.beq len 3 && (match i.1 with
    | .invokestatic y => ((mj_LK o).contains (j, 2, y, 0) || (mj_LK o).contains (j, 3, y, 0)) && Nat.beq (mj_kd y) 1 && Nat.beq i.2.1 (mj_par y)
    | .invokedynamic w => Nat.beq w 0 && (mj_LK o).contains (j, 7, 0, 0)
    | _ => false)
  | .invokespecial j => Nat.beq len 3 && (match i.1 with
    | .invokespecial y => ((mj_LK o).contains (j, 2, y, 0) || (mj_LK o).contains (j, 3, y, 0)) && Nat.beq (mj_kd y) 2 && Nat.beq i.2.1 (mj_par y + 1)
    | .monitorexit => (mj_LK o).contains (j, 6, 0, 0)
    | _ => false)
  | .goto off => Nat.beq len 3 && decide (i.1 = .goto 0) && mj_jok pcs pc off i.2.1
  | .ifCond cd off => Nat.beq len 3 && decide (i.1 = .ifCond cd 0) && mj_jok pcs pc off i.2.1
  | .if_icmp cd off => Nat.beq len 3 && decide (i.1 = .if_icmp cd 0) && mj_jok pcs pc off i.2.1
  | .tableswitch df lo hi offs => (match i.1 with
    | .tableswitch d2 lo2 _ os => decide (lo2 = lo) && Nat.beq os.toList.length offs.toList.length && decide (hi = lo + os.toList.length - 1) && mj_jok pcs pc df d2.toNat && (List.range offs.toList.length).all (fun j => mj_jok pcs pc (offs.toList.getD j 0) (os.toList.getD j 0).toNat)
    | _ => false)
  | .lookupswitch df ps => (match i.1 with
    | .lookupswitch d2 os => (ps.toList.zip (ps.toList.drop 1)).all (fun (a, next) => a.1 < next.1) && Nat.beq ps.toList.length os.toList.length && mj_jok pcs pc df d2.toNat && (List.range ps.toList.length).all (fun j => decide ((ps.toList.getD j (0, 0)).1 = (os.toList.getD j (0, 0)).1) && mj_jok pcs pc (ps.toList.getD j (0, 0)).2 (os.toList.getD j (0, 0)).2.toNat)
    | _ => false)
  | .ireturn => Nat.beq len 1 && decide (i.1 = .ireturn) && Nat.beq (mj_rk rt) i.2.1 && Nat.blt (mj_rk rt) 3
  | .lreturn => Nat.beq len 1 && decide (i.1 = .lreturn) && decide (rt = some .long)
  | .areturn => Nat.beq len 1 && decide (i.1 = .areturn) && mj_rro rt
  | .return_ => Nat.beq len 1 && decide (i.1 = .return_) && decide (rt = none)
  | _ => false
