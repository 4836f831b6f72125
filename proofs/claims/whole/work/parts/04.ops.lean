def mj_br (c : ClassFile.Cond) (x y : Int) (a b : Prop) : Prop := match c with
  | .eq => if x = y then a else b
  | .ne => if x = y then b else a
  | .lt => if x < y then a else b
  | .ge => if x < y then b else a
  | .gt => if y < x then a else b
  | .le => if y < x then b else a
def mj_tab (x : Int) (J : Nat → Prop) (d : Nat) : Int → List Int → Prop
  | _, [] => J d
  | lo, o :: os => if x = lo then J o.toNat else mj_tab x J d (lo + 1) os
def mj_look (x : Int) (J : Nat → Prop) (d : Nat) : List (Int × Int) → Prop
  | [] => J d
  | o :: os => if x = o.1 then J o.2.toNat else mj_look x J d os
/-- the place is there and of that kind -/
def mj_is (n q k : Nat) : Bool := Nat.blt q n && Nat.beq (mj_shp q).1 k
/-- fields of a new object: places are none -/
def mj_dfl (ci k : Nat) : Int := match mj_ty ci k with
  | .object _ => 999999
  | .array _ => 999999
  | _ => 0
def mj_txt : List Nat := [112, 97, 114, 116, 32, 32, 97, 105, 114, 32, 32, 32, 110, 101, 97, 114, 32, 32, 97, 117, 110, 116, 32, 32, 100, 101, 97, 102, 32, 32, 115, 97, 121, 115, 32, 32, 114, 105, 118, 97, 108, 32, 116, 117, 114, 110, 115, 32, 103, 97, 108, 101, 32, 32, 115, 108, 105, 112, 32, 32, 109, 111, 115, 116, 32, 32, 108, 101, 97, 115, 116, 32, 110, 105, 103, 104, 116, 32, 103, 97, 108, 101, 115, 32, 116, 111, 108, 100, 32, 32, 110, 117, 109, 98, 101, 114, 114, 101, 97, 100, 32, 32, 102, 105, 114, 115, 116, 32, 111, 114, 32, 32, 32, 32, 97, 110, 100, 32, 32, 32, 110, 111, 116, 32, 32, 32, 97, 108, 108, 32, 32, 32, 109, 105, 110, 32, 32, 32, 109, 97, 120, 32, 32, 32, 108, 97, 115, 116, 32, 32, 111, 102, 116, 101, 110, 32, 116, 111, 116, 97, 108, 32]
def mj_rkc (a : Nat) (x : Int) : Prop := match a with
  | 0 => True
  | 1 => x = 0 ∨ x = 1
  | _ => 0 ≤ x ∧ x < 65536
/-- ONE INSTRUCTION: what must hold so that the machine goes on -/
def mj_op (sx : mS) (top : Nat) (cal : mC) (J : mJ) (KR : mK) (i : mI) (lv : mL) (st : List mV) (n : Nat) (σ : mM) (k : mL → List mV → Nat → mM → Prop) : Prop :=
  match i.1 with
  | .sipush v => k lv (.inl v :: st) n σ
  | .jsr v => k lv (.inr (.inl v) :: st) n σ
  | .iload j => match lv.getD j none with
    | some (.inl x) => k lv (.inl x :: st) n σ
    | _ => False
  | .lload j => match lv.getD j none with
    | some (.inr (.inl x)) => k lv (.inr (.inl x) :: st) n σ
    | _ => False
  | .aload j => match lv.getD j none with
    | some (.inr (.inr x)) => k lv (.inr (.inr x) :: st) n σ
    | _ => False
  | .istore j => mj_pi st fun x st => k (mj_st1 lv j (.inl x)) st n σ
  | .lstore j => mj_pl st fun x st => k (mj_st2 lv j (.inr (.inl x))) st n σ
  | .astore j => mj_pr st fun x st => k (mj_st1 lv j (.inr (.inr x))) st n σ
  | .iinc j c => match lv.getD j none with
    | some (.inl x) => k (mj_st1 lv j (.inl (w32 (x + c)))) st n σ
    | _ => False
  | .iadd => mj_pi st fun y st => mj_pi st fun x st => k lv (.inl (w32 (x + y)) :: st) n σ
  | .isub => mj_pi st fun y st => mj_pi st fun x st => k lv (.inl (w32 (x - y)) :: st) n σ
  | .imul => mj_pi st fun y st => mj_pi st fun x st => k lv (.inl (w32 (x * y)) :: st) n σ
  | .idiv => mj_pi st fun y st => mj_pi st fun x st => y ≠ 0 ∧ k lv (.inl (w32 (x.tdiv y)) :: st) n σ
  | .irem => mj_pi st fun y st => mj_pi st fun x st => y ≠ 0 ∧ k lv (.inl (x.tmod y) :: st) n σ
  | .iand => mj_pi st fun y st => mj_pi st fun x st => k lv (.inl (i_and x y) :: st) n σ
  | .ior => mj_pi st fun y st => mj_pi st fun x st => k lv (.inl (i_or x y) :: st) n σ
  | .ixor => mj_pi st fun y st => mj_pi st fun x st => k lv (.inl (i_xor x y) :: st) n σ
  | .ishl => mj_pi st fun y st => mj_pi st fun x st => k lv (.inl (i_shl x y) :: st) n σ
  | .ishr => mj_pi st fun y st => mj_pi st fun x st => k lv (.inl (i_shr x y) :: st) n σ
  | .iushr => mj_pi st fun y st => mj_pi st fun x st => k lv (.inl (i_ushr x y) :: st) n σ
  | .ladd => mj_pl st fun y st => mj_pl st fun x st => k lv (.inr (.inl (w64 (x + y))) :: st) n σ
  | .lsub => mj_pl st fun y st => mj_pl st fun x st => k lv (.inr (.inl (w64 (x - y))) :: st) n σ
  | .lmul => mj_pl st fun y st => mj_pl st fun x st => k lv (.inr (.inl (w64 (x * y))) :: st) n σ
  | .ldiv => mj_pl st fun y st => mj_pl st fun x st => y ≠ 0 ∧ k lv (.inr (.inl (w64 (x.tdiv y))) :: st) n σ
  | .lrem => mj_pl st fun y st => mj_pl st fun x st => y ≠ 0 ∧ k lv (.inr (.inl (x.tmod y)) :: st) n σ
  | .land => mj_pl st fun y st => mj_pl st fun x st => k lv (.inr (.inl (l_and x y)) :: st) n σ
  | .lor => mj_pl st fun y st => mj_pl st fun x st => k lv (.inr (.inl (l_or x y)) :: st) n σ
  | .lshl => mj_pi st fun y st => mj_pl st fun x st => k lv (.inr (.inl (l_shl x y)) :: st) n σ
  | .lshr => mj_pi st fun y st => mj_pl st fun x st => k lv (.inr (.inl (l_shr x y)) :: st) n σ
  | .lcmp => mj_pl st fun y st => mj_pl st fun x st => k lv (.inl (l_cmp x y) :: st) n σ
  | .i2l => mj_pi st fun x st => k lv (.inr (.inl x) :: st) n σ
  | .l2i => mj_pl st fun x st => k lv (.inl (w32 x) :: st) n σ
  | .i2c => mj_pi st fun x st => k lv (.inl (i_chr x) :: st) n σ
  | .dup => match st with
    | .inl x :: s => k lv (.inl x :: .inl x :: s) n σ
    | .inr (.inr x) :: s => k lv (.inr (.inr x) :: .inr (.inr x) :: s) n σ
    | _ => False
  | .dup2 => match st with
    | .inl x :: .inl y :: s => k lv (.inl x :: .inl y :: .inl x :: .inl y :: s) n σ
    | .inl x :: .inr (.inr y) :: s => k lv (.inl x :: .inr (.inr y) :: .inl x :: .inr (.inr y) :: s) n σ
    | .inr (.inl x) :: s => k lv (.inr (.inl x) :: .inr (.inl x) :: s) n σ
    | _ => False
  | .pop => match st with
    | .inl _ :: s => k lv s n σ
    | _ => False
  | .monitorexit => mj_pr st fun q st => Nat.blt q 900000 = true ∧ Nat.ble (mj_sum st) 8 = true ∧ k lv st n σ
  | .getfield t => mj_pr st fun q st => bif mj_is n q i.2.1 then k lv (mj_tg t (σ q i.2.2.1) :: st) n σ else False
  | .putfield t => match t with
    | 0 => mj_pi st fun x st => mj_pr st fun q st => bif mj_is n q i.2.1 then k lv st n (mj_set σ q i.2.2.1 x) else False
    | 1 => mj_pl st fun x st => mj_pr st fun q st => bif mj_is n q i.2.1 then k lv st n (mj_set σ q i.2.2.1 x) else False
    | 2 => mj_pr st fun x st => mj_pr st fun q st => bif mj_is n q i.2.1 then k lv st n (mj_set σ q i.2.2.1 (x : Int)) else False
    | _ => mj_pi st fun x st => mj_pr st fun q st => bif mj_is n q i.2.1 then (x = 0 ∨ x = 1) ∧ k lv st n (mj_set σ q i.2.2.1 x) else False
  | .iaload => mj_pi st fun j st => mj_pr st fun q st => bif Nat.beq q mj_SCR then (0 ≤ j ∧ j < sx.1) ∧ k lv (.inl (sx.2 j.toNat).toInt :: st) n σ else bif mj_is n q 20 then (0 ≤ j ∧ j < (mj_shp q).2) ∧ k lv (.inl (σ q j.toNat) :: st) n σ else False
  | .caload => mj_pi st fun j st => mj_pr st fun q st => bif mj_is n q 22 then (0 ≤ j ∧ j < (mj_shp q).2) ∧ k lv (.inl (σ q j.toNat) :: st) n σ else False
  | .baload => mj_pi st fun j st => mj_pr st fun q st => bif mj_is n q 23 then (0 ≤ j ∧ j < (mj_shp q).2) ∧ k lv (.inl (σ q j.toNat) :: st) n σ else False
  | .laload => mj_pi st fun j st => mj_pr st fun q st => bif mj_is n q 21 then (0 ≤ j ∧ j < (mj_shp q).2) ∧ k lv (.inr (.inl (σ q j.toNat)) :: st) n σ else False
  | .aaload => mj_pi st fun j st => mj_pr st fun q st => bif mj_is n q 24 || mj_is n q 25 then (0 ≤ j ∧ j < (mj_shp q).2) ∧ k lv (.inr (.inr (σ q j.toNat).toNat) :: st) n σ else False
  | .iastore => mj_pi st fun x st => mj_pi st fun j st => mj_pr st fun q st => bif mj_is n q 20 then (0 ≤ j ∧ j < (mj_shp q).2) ∧ k lv st n (mj_set σ q j.toNat x) else False
  | .castore => mj_pi st fun x st => mj_pi st fun j st => mj_pr st fun q st => bif mj_is n q 22 then (0 ≤ j ∧ j < (mj_shp q).2) ∧ (0 ≤ x ∧ x < 65536) ∧ k lv st n (mj_set σ q j.toNat x) else False
  | .bastore => mj_pi st fun x st => mj_pi st fun j st => mj_pr st fun q st => bif mj_is n q 23 then (0 ≤ j ∧ j < (mj_shp q).2) ∧ (x = 0 ∨ x = 1) ∧ k lv st n (mj_set σ q j.toNat x) else False
  | .lastore => mj_pl st fun x st => mj_pi st fun j st => mj_pr st fun q st => bif mj_is n q 21 then (0 ≤ j ∧ j < (mj_shp q).2) ∧ k lv st n (mj_set σ q j.toNat x) else False
  | .aastore => mj_pr st fun x st => mj_pi st fun j st => mj_pr st fun q st => bif mj_is n x 7 && mj_is n q 24 || mj_is n x 2 && mj_is n q 25 then (0 ≤ j ∧ j < (mj_shp q).2) ∧ k lv st n (mj_set σ q j.toNat (x : Int)) else False
  | .arraylength => mj_pr st fun q st => bif Nat.beq q mj_SCR then k lv (.inl (sx.1 : Int) :: st) n σ else bif Nat.blt q n && Nat.ble 20 (mj_shp q).1 then k lv (.inl ((mj_shp q).2 : Int) :: st) n σ else False
  | .new ci => bif Nat.blt n top && Nat.beq (mj_shp n).1 ci then k lv (.inr (.inr n) :: st) (n + 1) (mj_new σ n (mj_dfl ci)) else False
  | .newarray _ => mj_pi st fun x st => bif Nat.blt n top && Nat.beq (mj_shp n).1 i.2.1 then x = ((mj_shp n).2 : Int) ∧ k lv (.inr (.inr n) :: st) (n + 1) (mj_new σ n (fun _ => 0)) else False
  | .anewarray kd => mj_pi st fun x st => bif Nat.blt n top && Nat.beq (mj_shp n).1 kd then x = ((mj_shp n).2 : Int) ∧ k lv (.inr (.inr n) :: st) (n + 1) (mj_new σ n (fun _ => 999999)) else False
  | .invokevirtual y => mj_args i.2.1 [] st fun as st => Nat.ble (mj_sum st) 8 = true ∧ (match as with
    | .inr (.inr q) :: _ => bif mj_is n q i.2.2.1 then cal y as n σ (fun r n' σ' => k lv (r.toList ++ st) n' σ') else False
    | _ => False)
  | .invokespecial y => mj_args i.2.1 [] st fun as st => Nat.ble (mj_sum st) 8 = true ∧ (match as with
    | .inr (.inr q) :: _ => bif mj_is n q i.2.2.1 then cal y as n σ (fun r n' σ' => k lv (r.toList ++ st) n' σ') else False
    | _ => False)
  | .invokestatic y => mj_args i.2.1 [] st fun as st => Nat.ble (mj_sum st) 8 = true ∧ cal y as n σ (fun r n' σ' => k lv (r.toList ++ st) n' σ')
  | .invokedynamic w => match w with
    | 0 => mj_pi st fun c st => mj_pi st fun dp st => mj_pr st fun q1 st => mj_pi st fun sp st => mj_pr st fun q0 st =>
        bif mj_is n q0 20 && mj_is n q1 20 then (0 ≤ sp ∧ 0 ≤ dp ∧ 0 ≤ c ∧ sp + c ≤ (mj_shp q0).2 ∧ dp + c ≤ (mj_shp q1).2) ∧ Nat.ble (mj_sum st) 8 = true ∧ k lv st n (mj_cpy σ q0 sp.toNat q1 dp.toNat c.toNat) else False
    | _ => mj_pi st fun j st => mj_pr st fun q st => bif Nat.beq q mj_STR then (0 ≤ j ∧ j < 162) ∧ Nat.ble (mj_sum st) 8 = true ∧ k lv (.inl (mj_txt.getD j.toNat 0 : Nat) :: st) n σ else False
  | .ldc _ => k lv (.inr (.inr mj_STR) :: st) n σ
  | .goto _ => J i.2.1 lv st n σ
  | .ifCond c _ => mj_pi st fun x st => mj_br c x 0 (J i.2.1 lv st n σ) (k lv st n σ)
  | .if_icmp c _ => mj_pi st fun y st => mj_pi st fun x st => mj_br c x y (J i.2.1 lv st n σ) (k lv st n σ)
  | .tableswitch d lo _ offs => mj_pi st fun x st => mj_tab x (fun b => J b lv st n σ) d.toNat lo offs.toList
  | .lookupswitch d ps => mj_pi st fun x st => mj_look x (fun b => J b lv st n σ) d.toNat ps.toList
  | .ireturn => match st with
    | [.inl x] => mj_rkc i.2.1 x ∧ KR (some (.inl x)) n σ
    | _ => False
  | .lreturn => match st with
    | [.inr (.inl x)] => KR (some (.inr (.inl x))) n σ
    | _ => False
  | .areturn => match st with
    | [.inr (.inr x)] => KR (some (.inr (.inr x))) n σ
    | _ => False
  | .return_ => match st with
    | [] => KR none n σ
    | _ => False
  | _ => False
/-- A BLOCK -/
def mj_den (sx : mS) (top : Nat) (cal : mC) (J : mJ) (KR : mK) (bn : Nat) : List mI → mL → List mV → Nat → mM → Prop
  | [], lv, st, n, σ => J bn lv st n σ
  | i :: is, lv, st, n, σ => mj_op sx top cal J KR i lv st n σ (mj_den sx top cal J KR bn is)
