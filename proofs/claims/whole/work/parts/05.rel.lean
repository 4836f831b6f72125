/-! WHAT THE SMALL MACHINE'S WORDS MEAN IN THE MACHINE -/
def lw_g : List Cond := lw_tbl.filter goodWord
def lw_n : List Cond := tables_1.filter (fun w => match w with
  | .fieldLinkNest .. => true
  | .methodLinkNest .. => true
  | _ => false)
theorem mj_inG {w : Cond} {i : Nat} (h : tables_1[i]? = some w) (hg : goodWord w = true) : w ∈ lw_g :=
  List.mem_filter.mpr ⟨List.mem_append_right _ (List.mem_of_getElem? h), hg⟩
theorem mj_goodG : GoodIn lw_g lw_g := fun w h => ⟨h, good_of_word (List.mem_filter.mp h).2⟩
/-- tables of cells and of their fields, numbers of the rows' kinds, the script, the first cell of ours, the text and its bytes -/
abbrev mG : Type := va_G × (Nat → ClassId) × (Nat × Nat × (Nat → Int32)) × Nat × (Nat × Nat)
abbrev mj_A (G : mG) : Nat → Prop := fun q => G.2.2.2.1 ≤ q
abbrev mj_sx (G : mG) : mS := (G.2.2.1.2.1, G.2.2.1.2.2)
def mj_tys (t : Nat → ClassId) : List (ClassId × FieldType) := [(t 0, .int), (t 1, .long), (t 2, .char), (t 3, .boolean), (t 4, .object "NightForecast$Sky"), (t 5, .object "NightForecast$Kept")]
def mj_lit : String := "part  air   near  aunt  deaf  says  rival turns gale  slip  most  least night gales told  numberread  first or    and   not   all   min   max   last  often total "
def mj_byt : List Int32 := mj_txt.map (fun k => Int32.ofNat k)
/-- what holds of old cells and of the tables, at every state -/
def mj_X (G : mG) (U : State) : Prop :=
  va_X G.2.2.1.1 G.2.2.1.2.1 G.2.2.1.2.2 U U.heap ∧ G.2.2.1.1 < G.2.2.2.1 ∧ G.2.2.1.2.1 ≤ 3072 ∧ G.2.2.2.1 ≤ U.heap.size ∧ (∀ w ∈ lw_n, va_Nw w U) ∧
  vk_R "NightForecast$Tokens" 64 mj_lit G.2.2.2.2.1 U ∧ vk_S 1 [162] [mj_byt] (fun _ => G.2.2.2.2.1) (fun _ => G.2.2.2.2.2) (mj_A G) U U.heap ∧ va_Z "java/lang/String" "COMPACT_STRINGS" "Z" (.int 1) (mj_A G) U U.heap ∧ va_AO "NightForecast$Sky" U ∧ va_AO "NightForecast$Kept" U ∧
  ∃ v, (v = .null ∨ ∃ a, v = .ref a) ∧ va_Z "jdk/internal/util/Preconditions" "SIOOBE_FORMATTER" "Ljava/util/function/BiFunction;" v (mj_A G) U U.heap
def mj_r (ad : Nat → Nat) (n q : Nat) (w : Value) : Prop := (q = mj_NUL ∧ w = .null) ∨ (q ≠ mj_NUL ∧ (q < n ∨ mj_SPEC ≤ q) ∧ w = .ref (ad q))
def mj_v (ad : Nat → Nat) (n : Nat) (v : mV) (w : Value) : Prop := match v with
  | .inl x => ∃ z : Int32, w = .int z ∧ z.toInt = x
  | .inr (.inl x) => ∃ z : Int64, w = .long z ∧ z.toInt = x
  | .inr (.inr q) => mj_r ad n q w
def mj_ss (ad : Nat → Nat) (n : Nat) : List mV → List Value → Prop
  | [], [] => True
  | v :: vs, w :: ws => mj_v ad n v w ∧ mj_ss ad n vs ws
  | _, _ => False
def mj_ft (ci k : Nat) (x : Int) : mV := match mj_ty ci k with
  | .long => .inr (.inl x)
  | .object _ => .inr (.inr x.toNat)
  | .array _ => .inr (.inr x.toNat)
  | _ => .inl x
/-- a row of ints, chars or booleans -/
def mj_eI (cA : ClassId) (N : Nat) (f : Nat → Int) (E : va_E) : Prop := ∃ g : Nat → Int32, E = .inl (cA, N, .inl g) ∧ ∀ k, k < N → (g k).toInt = f k
def mj_eL (cA : ClassId) (N : Nat) (f : Nat → Int) (E : va_E) : Prop := ∃ g : Nat → Int64, E = .inl (cA, N, .inr (.inl g)) ∧ ∀ k, k < N → (g k).toInt = f k
def mj_eR (ad : Nat → Nat) (n : Nat) (cA : ClassId) (N : Nat) (f : Nat → Int) (E : va_E) : Prop := ∃ g : Nat → Option Nat, E = .inl (cA, N, .inr (.inr (.inr (.inr g)))) ∧ ∀ k, k < N → mj_r ad n (f k).toNat (va_rf (g k))
def mj_eO (ad : Nat → Nat) (n ci N : Nat) (f : Nat → Int) (E : va_E) : Prop := ∃ fs : List Value, E = .inr (ci, fs) ∧ fs.length = N ∧ ∀ k, k < N → ∃ w, fs[k]? = some w ∧ mj_v ad n (mj_ft ci k (f k)) w
def mj_e (t : Nat → ClassId) (ad : Nat → Nat) (n kd N : Nat) (f : Nat → Int) (E : va_E) : Prop :=
  if kd < 13 then mj_eO ad n kd N f E
  else if kd = 20 then mj_eI (t 0) N f E
  else if kd = 21 then mj_eL (t 1) N f E
  else if kd = 22 then mj_eI (t 2) N f E
  else if kd = 23 then mj_eI (t 3) N f E
  else if kd = 24 then mj_eR ad n (t 4) N f E
  else if kd = 25 then mj_eR ad n (t 5) N f E
  else False
def mj_mem (G : mG) (ad : Nat → Nat) (n : Nat) (σ : mM) (H : Heap) : Prop := ∃ ws : va_W, va_P G.1 vwCl ws H ∧ va_D (mj_A G) ws ∧ ws.length = n ∧ n ≤ 218 ∧ ∀ q, q < n → ∃ E, ws[q]? = some (ad q, E) ∧ mj_e G.2.1 ad n (mj_shp q).1 (mj_shp q).2 (σ q) E
def mj_lv (ad : Nat → Nat) (n : Nat) (lv : mL) (ls : Array Slot) : Prop := ls.size = lv.length ∧ lv_wf ls ∧ ∀ (i : Nat) (v : mV), lv[i]? = some (some v) → ∃ w, ls[i]? = some (.val w) ∧ mj_v ad n v w
/-- a state of the small machine, in the machine -/
def mj_At (G : mG) (s : State) (n0 : Nat) (ad0 : Nat → Nat) (lv : mL) (st : List mV) (n : Nat) (σ : mM) (ad : Nat → Nat) (H : Heap) (locs : List Loc) (ls : Array Slot) (st' : List Value) : Prop :=
  mj_mem G ad n σ H ∧ mj_lv ad n lv ls ∧ mj_ss ad n st st' ∧ va_S (mj_A G) s.heap H locs ∧ n0 ≤ n ∧ (∀ q, q < n0 ∨ mj_SPEC ≤ q → ad q = ad0 q) ∧ ad mj_SCR = G.2.2.1.1 ∧ ad mj_STR = G.2.2.2.2.1
/-- from a state of the small machine the machine comes to Q -/
def mj_Go (G : mG) (p : Program) (l : Launch) (e : Env) (R : Room) (s : State) (m : MethodId) (args : Array Value) (below : List Frame) (meth : Method) (c : Code) (Q : State → Prop) (n0 : Nat) (ad0 : Nat → Nat) (pc : Nat) (lv : mL) (st : List mV) (n : Nat) (σ : mM) : Prop :=
  ∀ (ad : Nat → Nat) (H : Heap) (locs : List Loc) (ls : Array Slot) (st' : List Value), mj_At G s n0 ad0 lv st n σ ad H locs ls st' → W p l e R s m args below meth c H locs (n - n0) (mj_SL n - mj_SL n0) Q (F0 m pc ls st')
/-- the frame: the method's code, the tables' words, room for d more calls and for cells up to the place top -/
def mj_Ctx (G : mG) (own : String) (cc : ByteArray) (nL : Nat) (rt : Option FieldType) (ini : Bool) (d top n0 : Nat) (p : Program) (R : Room) (s : State) (m : MethodId) (args : Array Value) (meth : Method) (c : Code) : Prop :=
  p.tables.exec = Jvm.exec ∧ c.code = cc ∧ c.maxLocals = nL ∧ s.vm.findClass own = some m.cls ∧ (∀ w ∈ lw_g, w.before args s = true) ∧ meth.sig.returnType = rt ∧ meth.locks = false ∧ (ini = true → meth.name = "<init>") ∧
  va_K G.1 vwCl (mj_tys G.2.1) s ∧ mj_X G s ∧ d + 8 ≤ R.frames ∧ 40 * (d + 8) ≤ R.locals ∧ top - n0 ≤ R.cells ∧ mj_SL top - mj_SL n0 ≤ R.slots
-- stacks
theorem mj_ss.i {ad : Nat → Nat} {n : Nat} {x : Int} {st : List mV} {st' : List Value} (h : mj_ss ad n (.inl x :: st) st') : ∃ (z : Int32) (r : List Value), st' = .int z :: r ∧ z.toInt = x ∧ mj_ss ad n st r := by
  cases st' with
  | nil => exact h.elim
  | cons w r => obtain ⟨⟨z, rfl, hz⟩, h2⟩ := h; exact ⟨z, r, rfl, hz, h2⟩
theorem mj_ss.l {ad : Nat → Nat} {n : Nat} {x : Int} {st : List mV} {st' : List Value} (h : mj_ss ad n (.inr (.inl x) :: st) st') : ∃ (z : Int64) (r : List Value), st' = .long z :: r ∧ z.toInt = x ∧ mj_ss ad n st r := by
  cases st' with
  | nil => exact h.elim
  | cons w r => obtain ⟨⟨z, rfl, hz⟩, h2⟩ := h; exact ⟨z, r, rfl, hz, h2⟩
theorem mj_ss.r {ad : Nat → Nat} {n q : Nat} {st : List mV} {st' : List Value} (h : mj_ss ad n (.inr (.inr q) :: st) st') : ∃ (w : Value) (r : List Value), st' = w :: r ∧ mj_r ad n q w ∧ mj_ss ad n st r := by
  cases st' with
  | nil => exact h.elim
  | cons w r => exact ⟨w, r, rfl, h.1, h.2⟩
theorem mj_ss.nil {ad : Nat → Nat} {n : Nat} {st' : List Value} (h : mj_ss ad n [] st') : st' = [] := by
  cases st' with
  | nil => rfl
  | cons w r => exact h.elim
theorem mj_pi_iff {st : List mV} {f : Int → List mV → Prop} (h : mj_pi st f) : ∃ x s, st = .inl x :: s ∧ f x s := by
  match st, h with
  | .inl x :: s, h => exact ⟨x, s, rfl, h⟩
theorem mj_pl_iff {st : List mV} {f : Int → List mV → Prop} (h : mj_pl st f) : ∃ x s, st = .inr (.inl x) :: s ∧ f x s := by
  match st, h with
  | .inr (.inl x) :: s, h => exact ⟨x, s, rfl, h⟩
theorem mj_pr_iff {st : List mV} {f : Nat → List mV → Prop} (h : mj_pr st f) : ∃ x s, st = .inr (.inr x) :: s ∧ f x s := by
  match st, h with
  | .inr (.inr x) :: s, h => exact ⟨x, s, rfl, h⟩
theorem mj_bif {b : Bool} {a : Prop} (h : bif b then a else False) : b = true ∧ a := by
  cases b
  · exact h.elim
  · exact ⟨rfl, h⟩
-- numbers
theorem mj_add {x y : Int32} : (x + y).toInt = w32 (x.toInt + y.toInt) := Int32.toInt_add x y
theorem mj_sub {x y : Int32} : (x - y).toInt = w32 (x.toInt - y.toInt) := Int32.toInt_sub x y
theorem mj_mul {x y : Int32} : (x * y).toInt = w32 (x.toInt * y.toInt) := Int32.toInt_mul x y
theorem mj_div {x y : Int32} : (x / y).toInt = w32 (x.toInt.tdiv y.toInt) := Int32.toInt_div x y
theorem mj_addL {x y : Int64} : (x + y).toInt = w64 (x.toInt + y.toInt) := Int64.toInt_add x y
theorem mj_subL {x y : Int64} : (x - y).toInt = w64 (x.toInt - y.toInt) := Int64.toInt_sub x y
theorem mj_mulL {x y : Int64} : (x * y).toInt = w64 (x.toInt * y.toInt) := Int64.toInt_mul x y
theorem mj_divL {x y : Int64} : (x / y).toInt = w64 (x.toInt.tdiv y.toInt) := Int64.toInt_div x y
theorem mj_of {x : Int32} : Int32.ofInt x.toInt = x := Int32.ofInt_toInt x
theorem mj_ofL {x : Int64} : Int64.ofInt x.toInt = x := Int64.ofInt_toInt x
theorem mj_rng (x : Int32) : -2147483648 ≤ x.toInt ∧ x.toInt < 2147483648 := ⟨Int32.le_toInt x, Int32.toInt_lt x⟩
theorem mj_rngL (x : Int64) : -9223372036854775808 ≤ x.toInt ∧ x.toInt < 9223372036854775808 := ⟨Int64.le_toInt x, Int64.toInt_lt x⟩
theorem mj_inj {x y : Int32} (h : x.toInt = y.toInt) : x = y := Int32.toInt_inj.mp h
theorem mj_injL {x y : Int64} (h : x.toInt = y.toInt) : x = y := Int64.toInt_inj.mp h
theorem mj_rem {x y : Int32} : (x - x / y * y).toInt = x.toInt.tmod y.toInt := by
  have e : x - x / y * y = x % y := by
    apply mj_inj
    rw [mj_sub, mj_mul, mj_div, Int32.toInt_mod]
    simp only [w32]
    have h1 := Int.mul_tdiv_add_tmod x.toInt y.toInt
    have h2 := mj_rng x
    have h3 : ∀ a b : Int, ((a.bmod 4294967296) * b).bmod 4294967296 = (a * b).bmod 4294967296 := fun a b => Int.bmod_mul_bmod
    have h4 : ∀ a b : Int, (a - b.bmod 4294967296).bmod 4294967296 = (a - b).bmod 4294967296 := fun a b => Int.sub_bmod_bmod
    rw [h3, h4]
    have h5 : x.toInt - x.toInt.tdiv y.toInt * y.toInt = x.toInt.tmod y.toInt := by rw [Int.mul_comm]; omega
    rw [h5]
    have h6 : (x % y).toInt = x.toInt.tmod y.toInt := Int32.toInt_mod x y
    rw [← h6]
    have h7 := mj_rng (x % y)
    rw [Int.bmod_eq_of_le] <;> omega
  rw [e]; exact Int32.toInt_mod x y
theorem mj_remL {x y : Int64} : (x - x / y * y).toInt = x.toInt.tmod y.toInt := by
  have e : x - x / y * y = x % y := by
    apply mj_injL
    rw [mj_subL, mj_mulL, mj_divL, Int64.toInt_mod]
    simp only [w64]
    have h1 := Int.mul_tdiv_add_tmod x.toInt y.toInt
    have h3 : ∀ a b : Int, ((a.bmod 18446744073709551616) * b).bmod 18446744073709551616 = (a * b).bmod 18446744073709551616 := fun a b => Int.bmod_mul_bmod
    have h4 : ∀ a b : Int, (a - b.bmod 18446744073709551616).bmod 18446744073709551616 = (a - b).bmod 18446744073709551616 := fun a b => Int.sub_bmod_bmod
    rw [h3, h4]
    have h5 : x.toInt - x.toInt.tdiv y.toInt * y.toInt = x.toInt.tmod y.toInt := by rw [Int.mul_comm]; omega
    rw [h5]
    have h6 : (x % y).toInt = x.toInt.tmod y.toInt := Int64.toInt_mod x y
    rw [← h6]
    have h7 := mj_rngL (x % y)
    rw [Int.bmod_eq_of_le] <;> omega
  rw [e]; exact Int64.toInt_mod x y
theorem mj_lt {x y : Int32} : x < y ↔ x.toInt < y.toInt := Int32.lt_iff_toInt_lt
theorem mj_le {x y : Int32} : x ≤ y ↔ x.toInt ≤ y.toInt := Int32.le_iff_toInt_le
theorem mj_ltL {x y : Int64} : x < y ↔ x.toInt < y.toInt := Int64.lt_iff_toInt_lt
theorem mj_eq {x y : Int32} : x = y ↔ x.toInt = y.toInt := ⟨fun h => by rw [h], mj_inj⟩
theorem mj_eqL {x y : Int64} : x = y ↔ x.toInt = y.toInt := ⟨fun h => by rw [h], mj_injL⟩
