def mj_chkB (o : Nat) (ini : Bool) (rt : Option FieldType) (nL : Nat) (pcs : List Nat) (cc : ByteArray) (nx : Nat) (pc : Nat) : List mI → Bool
  | [] => match pcs[nx]? with
    | some t => Nat.beq t pc
    | none => true
  | i :: is => match decode cc pc with
    | .ok (i0, len) => mj_chk o ini rt nL pcs pc i0 len i && mj_chkB o ini rt nL pcs cc nx (pc + len) is
    | .error _ => false
def mj_chkP (o : Nat) (ini : Bool) (rt : Option FieldType) (nL : Nat) (pcs : List Nat) (cc : ByteArray) (pc : Nat) : List mI → Option Nat
  | [] => some pc
  | i :: is => match decode cc pc with
    | .ok (i0, len) => bif mj_chk o ini rt nL pcs pc i0 len i then mj_chkP o ini rt nL pcs cc (pc + len) is else none
    | .error _ => none
theorem mj_chkB_app {o : Nat} {ini : Bool} {rt : Option FieldType} {nL : Nat} {pcs : List Nat} {cc : ByteArray} {nx pc2 : Nat} {b : List mI} : ∀ (a : List mI) (pc : Nat), mj_chkP o ini rt nL pcs cc pc a = some pc2 → mj_chkB o ini rt nL pcs cc nx pc2 b = true → mj_chkB o ini rt nL pcs cc nx pc (a ++ b) = true := by
  intro a
  induction a with
  | nil => intro pc h1 h2; cases h1; exact h2
  | cons i is ih =>
    intro pc h1 h2
    unfold mj_chkP at h1
    show (match decode cc pc with
      | .ok (i0, len) => mj_chk o ini rt nL pcs pc i0 len i && mj_chkB o ini rt nL pcs cc nx (pc + len) (is ++ b)
      | .error _ => false) = true
    cases hd : decode cc pc with
    | error x => rw [hd] at h1; cases h1
    | ok q =>
      obtain ⟨i0, len⟩ := q
      rw [hd] at h1
      dsimp only at h1 ⊢
      cases hc : mj_chk o ini rt nL pcs pc i0 len i with
      | false => rw [hc] at h1; cases h1
      | true => rw [hc] at h1; rw [ih _ h1 h2]; rfl
def mj_chkF (y b : Nat) : Bool := match (mj_pcs y)[b]?, (mj_code y)[b]? with
  | some t, some is => mj_chkB (mj_o y) (mj_ini y) (mj_ret y) (mj_max y) (mj_pcs y) (mj_cod y) (b + 1) t is
  | _, _ => false
def mj_chkM (y : Nat) : Prop := ∀ b, b < (mj_code y).length → mj_chkF y b = true

theorem mj_ck_0 : mj_chkM 0 := by
  show ∀ b, b < 1 → mj_chkF 0 b = true
  decide +kernel
theorem mj_ck_1 : mj_chkM 1 := by
  show ∀ b, b < 1 → mj_chkF 1 b = true
  decide +kernel
theorem mj_ck_2 : mj_chkM 2 := by
  show ∀ b, b < 1 → mj_chkF 2 b = true
  decide +kernel
theorem mj_ck_3 : mj_chkM 3 := by
  show ∀ b, b < 3 → mj_chkF 3 b = true
  decide +kernel
theorem mj_ck_4 : mj_chkM 4 := by
  show ∀ b, b < 4 → mj_chkF 4 b = true
  decide +kernel
theorem mj_ck_5 : mj_chkM 5 := by
  show ∀ b, b < 2 → mj_chkF 5 b = true
  decide +kernel
theorem mj_ck_6 : mj_chkM 6 := by
  show ∀ b, b < 2 → mj_chkF 6 b = true
  decide +kernel
theorem mj_ck_7 : mj_chkM 7 := by
  show ∀ b, b < 1 → mj_chkF 7 b = true
  decide +kernel
theorem mj_ck_8 : mj_chkM 8 := by
  show ∀ b, b < 3 → mj_chkF 8 b = true
  decide +kernel
theorem mj_ck_9 : mj_chkM 9 := by
  show ∀ b, b < 1 → mj_chkF 9 b = true
  decide +kernel
theorem mj_ck_10 : mj_chkM 10 := by
  show ∀ b, b < 2 → mj_chkF 10 b = true
  decide +kernel
theorem mj_ck_11 : mj_chkM 11 := by
  show ∀ b, b < 1 → mj_chkF 11 b = true
  decide +kernel
theorem mj_ck_12 : mj_chkM 12 := by
  show ∀ b, b < 2 → mj_chkF 12 b = true
  decide +kernel
theorem mj_ck_13 : mj_chkM 13 := by
  show ∀ b, b < 7 → mj_chkF 13 b = true
  decide +kernel
theorem mj_ck_14 : mj_chkM 14 := by
  show ∀ b, b < 1 → mj_chkF 14 b = true
  decide +kernel
theorem mj_ck_15 : mj_chkM 15 := by
  show ∀ b, b < 1 → mj_chkF 15 b = true
  decide +kernel
theorem mj_ck_16 : mj_chkM 16 := by
  show ∀ b, b < 3 → mj_chkF 16 b = true
  decide +kernel
theorem mj_ck_17 : mj_chkM 17 := by
  show ∀ b, b < 3 → mj_chkF 17 b = true
  decide +kernel
theorem mj_ck_18 : mj_chkM 18 := by
  show ∀ b, b < 4 → mj_chkF 18 b = true
  decide +kernel
theorem mj_ck_19 : mj_chkM 19 := by
  show ∀ b, b < 4 → mj_chkF 19 b = true
  decide +kernel
theorem mj_ck_20 : mj_chkM 20 := by
  show ∀ b, b < 9 → mj_chkF 20 b = true
  decide +kernel
theorem mj_ck_21 : mj_chkM 21 := by
  show ∀ b, b < 3 → mj_chkF 21 b = true
  decide +kernel
theorem mj_ck_22 : mj_chkM 22 := by
  show ∀ b, b < 6 → mj_chkF 22 b = true
  decide +kernel
theorem mj_ck_23 : mj_chkM 23 := by
  show ∀ b, b < 4 → mj_chkF 23 b = true
  decide +kernel
theorem mj_ck_24 : mj_chkM 24 := by
  show ∀ b, b < 8 → mj_chkF 24 b = true
  decide +kernel
theorem mj_ck_25 : mj_chkM 25 := by
  show ∀ b, b < 6 → mj_chkF 25 b = true
  decide +kernel
theorem mj_ck_26 : mj_chkM 26 := by
  show ∀ b, b < 4 → mj_chkF 26 b = true
  decide +kernel
theorem mj_ck_27 : mj_chkM 27 := by
  show ∀ b, b < 6 → mj_chkF 27 b = true
  decide +kernel
theorem mj_ck_28 : mj_chkM 28 := by
  show ∀ b, b < 5 → mj_chkF 28 b = true
  decide +kernel
theorem mj_ck_29 : mj_chkM 29 := by
  show ∀ b, b < 4 → mj_chkF 29 b = true
  decide +kernel
theorem mj_ck_30 : mj_chkM 30 := by
  show ∀ b, b < 6 → mj_chkF 30 b = true
  decide +kernel
theorem mj_ck_31 : mj_chkM 31 := by
  show ∀ b, b < 5 → mj_chkF 31 b = true
  decide +kernel
theorem mj_ck_32 : mj_chkM 32 := by
  show ∀ b, b < 3 → mj_chkF 32 b = true
  decide +kernel
theorem mj_ck_33 : mj_chkM 33 := by
  show ∀ b, b < 1 → mj_chkF 33 b = true
  decide +kernel
theorem mj_ck_34 : mj_chkM 34 := by
  show ∀ b, b < 7 → mj_chkF 34 b = true
  decide +kernel
theorem mj_ck_35 : mj_chkM 35 := by
  show ∀ b, b < 10 → mj_chkF 35 b = true
  decide +kernel
theorem mj_ck_36 : mj_chkM 36 := by
  show ∀ b, b < 4 → mj_chkF 36 b = true
  decide +kernel
theorem mj_ck_37 : mj_chkM 37 := by
  show ∀ b, b < 4 → mj_chkF 37 b = true
  decide +kernel
theorem mj_ck_38 : mj_chkM 38 := by
  show ∀ b, b < 1 → mj_chkF 38 b = true
  decide +kernel
theorem mj_ck_39 : mj_chkM 39 := by
  show ∀ b, b < 1 → mj_chkF 39 b = true
  decide +kernel
theorem mj_ck_40 : mj_chkM 40 := by
  show ∀ b, b < 19 → mj_chkF 40 b = true
  decide +kernel
theorem mj_ck_41 : mj_chkM 41 := by
  show ∀ b, b < 6 → mj_chkF 41 b = true
  decide +kernel
theorem mj_ck_42 : mj_chkM 42 := by
  show ∀ b, b < 4 → mj_chkF 42 b = true
  decide +kernel
theorem mj_ck_43 : mj_chkM 43 := by
  show ∀ b, b < 2 → mj_chkF 43 b = true
  decide +kernel
theorem mj_ck_44 : mj_chkM 44 := by
  show ∀ b, b < 2 → mj_chkF 44 b = true
  decide +kernel
theorem mj_ck_45 : mj_chkM 45 := by
  show ∀ b, b < 2 → mj_chkF 45 b = true
  decide +kernel
theorem mj_ck_46 : mj_chkM 46 := by
  show ∀ b, b < 2 → mj_chkF 46 b = true
  decide +kernel
theorem mj_ck_47 : mj_chkM 47 := by
  show ∀ b, b < 2 → mj_chkF 47 b = true
  decide +kernel
theorem mj_ck_48 : mj_chkM 48 := by
  show ∀ b, b < 4 → mj_chkF 48 b = true
  decide +kernel
theorem mj_ck_49 : mj_chkM 49 := by
  show ∀ b, b < 6 → mj_chkF 49 b = true
  decide +kernel
theorem mj_ck_50 : mj_chkM 50 := by
  show ∀ b, b < 2 → mj_chkF 50 b = true
  decide +kernel
theorem mj_ck_51 : mj_chkM 51 := by
  show ∀ b, b < 2 → mj_chkF 51 b = true
  decide +kernel
theorem mj_ck_52 : mj_chkM 52 := by
  show ∀ b, b < 5 → mj_chkF 52 b = true
  decide +kernel
theorem mj_ck_53 : mj_chkM 53 := by
  show ∀ b, b < 5 → mj_chkF 53 b = true
  decide +kernel
theorem mj_ck_54 : mj_chkM 54 := by
  show ∀ b, b < 5 → mj_chkF 54 b = true
  decide +kernel
theorem mj_ck_55 : mj_chkM 55 := by
  show ∀ b, b < 11 → mj_chkF 55 b = true
  decide +kernel
theorem mj_ck_56 : mj_chkM 56 := by
  show ∀ b, b < 8 → mj_chkF 56 b = true
  decide +kernel
theorem mj_ck_57 : mj_chkM 57 := by
  show ∀ b, b < 8 → mj_chkF 57 b = true
  decide +kernel
theorem mj_ck_58 : mj_chkM 58 := by
  show ∀ b, b < 12 → mj_chkF 58 b = true
  decide +kernel
theorem mj_ck_59 : mj_chkM 59 := by
  show ∀ b, b < 6 → mj_chkF 59 b = true
  decide +kernel
theorem mj_ck_60 : mj_chkM 60 := by
  show ∀ b, b < 2 → mj_chkF 60 b = true
  decide +kernel
theorem mj_ck_61 : mj_chkM 61 := by
  show ∀ b, b < 5 → mj_chkF 61 b = true
  decide +kernel
theorem mj_ck_62 : mj_chkM 62 := by
  show ∀ b, b < 21 → mj_chkF 62 b = true
  decide +kernel
theorem mj_ck_63 : mj_chkM 63 := by
  show ∀ b, b < 1 → mj_chkF 63 b = true
  decide +kernel
theorem mj_ck_64 : mj_chkM 64 := by
  show ∀ b, b < 1 → mj_chkF 64 b = true
  decide +kernel
theorem mj_ck_65 : mj_chkM 65 := by
  show ∀ b, b < 1 → mj_chkF 65 b = true
  decide +kernel
theorem mj_ck_66 : mj_chkM 66 := by
  show ∀ b, b < 1 → mj_chkF 66 b = true
  decide +kernel
theorem mj_ck_67 : mj_chkM 67 := by
  show ∀ b, b < 3 → mj_chkF 67 b = true
  decide +kernel
theorem mj_ck_68 : mj_chkM 68 := by
  show ∀ b, b < 2 → mj_chkF 68 b = true
  decide +kernel
theorem mj_ck_69 : mj_chkM 69 := by
  show ∀ b, b < 2 → mj_chkF 69 b = true
  decide +kernel
theorem mj_ck_70 : mj_chkM 70 := by
  show ∀ b, b < 1 → mj_chkF 70 b = true
  decide +kernel
theorem mj_ck_71 : mj_chkM 71 := by
  show ∀ b, b < 1 → mj_chkF 71 b = true
  decide +kernel
theorem mj_ck_72 : mj_chkM 72 := by
  show ∀ b, b < 7 → mj_chkF 72 b = true
  decide +kernel
theorem mj_ck_73 : mj_chkM 73 := by
  show ∀ b, b < 1 → mj_chkF 73 b = true
  decide +kernel
theorem mj_ck_74 : mj_chkM 74 := by
  show ∀ b, b < 3 → mj_chkF 74 b = true
  decide +kernel
theorem mj_ck_75 : mj_chkM 75 := by
  show ∀ b, b < 4 → mj_chkF 75 b = true
  decide +kernel
theorem mj_ck_76 : mj_chkM 76 := by
  show ∀ b, b < 1 → mj_chkF 76 b = true
  decide +kernel
theorem mj_ck_77 : mj_chkM 77 := by
  show ∀ b, b < 1 → mj_chkF 77 b = true
  decide +kernel
theorem mj_ck_78 : mj_chkM 78 := by
  show ∀ b, b < 1 → mj_chkF 78 b = true
  decide +kernel
theorem mj_ck_79 : mj_chkM 79 := by
  show ∀ b, b < 3 → mj_chkF 79 b = true
  decide +kernel
theorem mj_ck_80 : mj_chkM 80 := by
  show ∀ b, b < 1 → mj_chkF 80 b = true
  decide +kernel
theorem mj_ck_81 : mj_chkM 81 := by
  show ∀ b, b < 4 → mj_chkF 81 b = true
  decide +kernel
theorem mj_ck_82 : mj_chkM 82 := by
  show ∀ b, b < 1 → mj_chkF 82 b = true
  decide +kernel
theorem mj_ck_83 : mj_chkM 83 := by
  show ∀ b, b < 1 → mj_chkF 83 b = true
  decide +kernel
theorem mj_ck_84 : mj_chkM 84 := by
  show ∀ b, b < 10 → mj_chkF 84 b = true
  decide +kernel
theorem mj_ck_85 : mj_chkM 85 := by
  show ∀ b, b < 1 → mj_chkF 85 b = true
  decide +kernel
theorem mj_ck_86 : mj_chkM 86 := by
  show ∀ b, b < 3 → mj_chkF 86 b = true
  decide +kernel
theorem mj_ck_87 : mj_chkM 87 := by
  show ∀ b, b < 3 → mj_chkF 87 b = true
  decide +kernel
theorem mj_ck_88 : mj_chkM 88 := by
  show ∀ b, b < 3 → mj_chkF 88 b = true
  decide +kernel
theorem mj_ck_89 : mj_chkM 89 := by
  show ∀ b, b < 4 → mj_chkF 89 b = true
  decide +kernel
theorem mj_ck_90 : mj_chkM 90 := by
  show ∀ b, b < 7 → mj_chkF 90 b = true
  decide +kernel
theorem mj_ck_91 : mj_chkM 91 := by
  show ∀ b, b < 3 → mj_chkF 91 b = true
  decide +kernel
theorem mj_ck_92 : mj_chkM 92 := by
  show ∀ b, b < 6 → mj_chkF 92 b = true
  decide +kernel
theorem mj_ck_93 : mj_chkM 93 := by
  show ∀ b, b < 1 → mj_chkF 93 b = true
  decide +kernel
theorem mj_ck_94 : mj_chkM 94 := by
  show ∀ b, b < 4 → mj_chkF 94 b = true
  decide +kernel
theorem mj_ck_95 : mj_chkM 95 := by
  show ∀ b, b < 15 → mj_chkF 95 b = true
  decide +kernel
theorem mj_ck_96 : mj_chkM 96 := by
  show ∀ b, b < 5 → mj_chkF 96 b = true
  decide +kernel
theorem mj_ck_97 : mj_chkM 97 := by
  show ∀ b, b < 3 → mj_chkF 97 b = true
  decide +kernel
theorem mj_ck_98 : mj_chkM 98 := by
  show ∀ b, b < 1 → mj_chkF 98 b = true
  decide +kernel
theorem mj_ck_99 : mj_chkM 99 := by
  show ∀ b, b < 8 → mj_chkF 99 b = true
  decide +kernel
theorem mj_ck_100 : mj_chkM 100 := by
  show ∀ b, b < 12 → mj_chkF 100 b = true
  decide +kernel
theorem mj_ck_101 : mj_chkM 101 := by
  show ∀ b, b < 10 → mj_chkF 101 b = true
  decide +kernel
theorem mj_ck_102 : mj_chkM 102 := by
  show ∀ b, b < 6 → mj_chkF 102 b = true
  decide +kernel
theorem mj_ck_103 : mj_chkM 103 := by
  show ∀ b, b < 10 → mj_chkF 103 b = true
  decide +kernel
theorem mj_ck_104 : mj_chkM 104 := by
  show ∀ b, b < 12 → mj_chkF 104 b = true
  decide +kernel
theorem mj_ck_105 : mj_chkM 105 := by
  show ∀ b, b < 1 → mj_chkF 105 b = true
  decide +kernel
theorem mj_ck_106 : mj_chkM 106 := by
  show ∀ b, b < 2 → mj_chkF 106 b = true
  decide +kernel
theorem mj_ck_107 : mj_chkM 107 := by
  show ∀ b, b < 3 → mj_chkF 107 b = true
  decide +kernel
theorem mj_ck_108 : mj_chkM 108 := by
  show ∀ b, b < 2 → mj_chkF 108 b = true
  decide +kernel
theorem mj_ck_109 : mj_chkM 109 := by
  show ∀ b, b < 4 → mj_chkF 109 b = true
  decide +kernel
theorem mj_ck_110 : mj_chkM 110 := by
  show ∀ b, b < 12 → mj_chkF 110 b = true
  decide +kernel
theorem mj_ck_111 : mj_chkM 111 := by
  show ∀ b, b < 3 → mj_chkF 111 b = true
  decide +kernel
theorem mj_ck_112 : mj_chkM 112 := by
  show ∀ b, b < 10 → mj_chkF 112 b = true
  decide +kernel
theorem mj_ck_113 : mj_chkM 113 := by
  show ∀ b, b < 7 → mj_chkF 113 b = true
  decide +kernel
theorem mj_ck_114 : mj_chkM 114 := by
  show ∀ b, b < 1 → mj_chkF 114 b = true
  decide +kernel
theorem mj_ck_115 : mj_chkM 115 := by
  show ∀ b, b < 6 → mj_chkF 115 b = true
  decide +kernel
theorem mj_ck_116 : mj_chkM 116 := by
  show ∀ b, b < 3 → mj_chkF 116 b = true
  decide +kernel
theorem mj_ck_117 : mj_chkM 117 := by
  show ∀ b, b < 3 → mj_chkF 117 b = true
  decide +kernel
theorem mj_ck_118 : mj_chkM 118 := by
  show ∀ b, b < 5 → mj_chkF 118 b = true
  decide +kernel
theorem mj_ck_119 : mj_chkM 119 := by
  show ∀ b, b < 3 → mj_chkF 119 b = true
  decide +kernel
theorem mj_ck_120 : mj_chkM 120 := by
  show ∀ b, b < 5 → mj_chkF 120 b = true
  decide +kernel
theorem mj_ck_121 : mj_chkM 121 := by
  show ∀ b, b < 3 → mj_chkF 121 b = true
  decide +kernel
theorem mj_ck_122 : mj_chkM 122 := by
  show ∀ b, b < 4 → mj_chkF 122 b = true
  decide +kernel
theorem mj_ck_123 : mj_chkM 123 := by
  show ∀ b, b < 3 → mj_chkF 123 b = true
  decide +kernel
theorem mj_ck_124 : mj_chkM 124 := by
  show ∀ b, b < 5 → mj_chkF 124 b = true
  decide +kernel
theorem mj_ck_125 : mj_chkM 125 := by
  show ∀ b, b < 3 → mj_chkF 125 b = true
  decide +kernel
theorem mj_ck_126 : mj_chkM 126 := by
  show ∀ b, b < 1 → mj_chkF 126 b = true
  decide +kernel
theorem mj_ck_127 : mj_chkM 127 := by
  show ∀ b, b < 2 → mj_chkF 127 b = true
  decide +kernel
theorem mj_ck_128 : mj_chkM 128 := by
  show ∀ b, b < 2 → mj_chkF 128 b = true
  decide +kernel
theorem mj_ck_129 : mj_chkM 129 := by
  show ∀ b, b < 4 → mj_chkF 129 b = true
  decide +kernel
theorem mj_ck_130 : mj_chkM 130 := by
  show ∀ b, b < 5 → mj_chkF 130 b = true
  decide +kernel
theorem mj_ck_131 : mj_chkM 131 := by
  show ∀ b, b < 4 → mj_chkF 131 b = true
  decide +kernel
theorem mj_ck_132 : mj_chkM 132 := by
  show ∀ b, b < 2 → mj_chkF 132 b = true
  decide +kernel
theorem mj_ck_133 : mj_chkM 133 := by
  show ∀ b, b < 4 → mj_chkF 133 b = true
  decide +kernel
theorem mj_ck_134 : mj_chkM 134 := by
  show ∀ b, b < 3 → mj_chkF 134 b = true
  decide +kernel
theorem mj_ck_135 : mj_chkM 135 := by
  show ∀ b, b < 3 → mj_chkF 135 b = true
  decide +kernel
theorem mj_ck_136 : mj_chkM 136 := by
  show ∀ b, b < 5 → mj_chkF 136 b = true
  decide +kernel
theorem mj_ck_137 : mj_chkM 137 := by
  show ∀ b, b < 3 → mj_chkF 137 b = true
  decide +kernel
theorem mj_ck_138 : mj_chkM 138 := by
  show ∀ b, b < 1 → mj_chkF 138 b = true
  decide +kernel
theorem mj_ck_139 : mj_chkM 139 := by
  show ∀ b, b < 1 → mj_chkF 139 b = true
  decide +kernel
theorem mj_ck_140 : mj_chkM 140 := by
  show ∀ b, b < 3 → mj_chkF 140 b = true
  decide +kernel
