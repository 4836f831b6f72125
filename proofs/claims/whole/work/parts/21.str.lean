section
variable {G : mG} {p : Program} {l : Launch} {e : Env} {R : Room} {s : State} {m : MethodId} {args : Array Value} {below : List Frame} {meth : Method} {c : Code} {Q : State → Prop} {n0 : Nat} {ad0 : Nat → Nat} {cc : ByteArray} {pc : Nat} {lv : mL} {st : List mV} {n : Nat} {σ : mM} {own : String} {top : Nat}
theorem g_ldcs (hx : p.tables.exec = Jvm.exec) (hb : c.code = cc) (hown : s.vm.findClass (mj_on 9) = some m.cls) (hX : mj_X G s) (hd : decode cc pc = .ok (.ldc 64, 2)) (kk : mj_Go G p l e R s m args below meth c Q n0 ad0 (pc + 2) lv (.inr (.inr mj_STR) :: st) n σ) : mj_Go G p l e R s m args below meth c Q n0 ad0 pc lv st n σ := by
  intro ad H locs ls st2 hA
  obtain ⟨h1, h2, h3, h4⟩ := hA
  exact va_ldcS hx hb hown hX.2.2.2.2.2.1 hd (kk ad H locs ls _ ⟨h1, h2, ⟨Or.inr ⟨by decide, Or.inr (by decide), by rw [h4.2.2.2.2]⟩, h3⟩, h4⟩)
theorem g_charAt {d idx : Nat} {x : Int} (hx : p.tables.exec = Jvm.exec) (hb : c.code = cc) (hml : c.maxLocals = lv.length) (hts : ∀ w ∈ lw_g, w.before args s = true) (hown : s.vm.findClass own = some m.cls) (hX : mj_X G s) (hR1 : d + 1 ≤ R.frames) (hR2 : 40 * (d + 1) ≤ R.locals) (hj : 0 ≤ x ∧ x < 162) (hsum : mj_sum st ≤ 8)
    (hl : (Cond.methodLink own idx yJ0_charAt_5068e).before args s = true) (hd : decode cc pc = .ok (.invokevirtual idx, 3)) (kk : mj_Go G p l e R s m args below meth c Q n0 ad0 (pc + 3) lv (.inl (mj_txt.getD x.toNat 0 : Nat) :: st) n σ) : mj_Go G p l e R s m args below meth c Q n0 ad0 pc lv (.inl x :: .inr (.inr mj_STR) :: st) n σ := by
  sorry
end
