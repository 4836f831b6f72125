theorem mj_look_at {P : Nat → Prop} {x : Int} {d : Nat} {pcs : List Nat} {pc : Nat} {dflt : Int} (hdf : mj_jok pcs pc dflt d = true) : ∀ (ps os : List (Int × Int)), ps.length = os.length → (∀ (j : Nat) (o o2 : Int × Int), ps[j]? = some o → os[j]? = some o2 → o.1 = o2.1 ∧ mj_jok pcs pc o.2 o2.2.toNat = true) → mj_look x P d os →
    ∃ b t : Nat, pcs[b]? = some t ∧ P b ∧ (pc : Int) + Op.lookupswitch.offset ps dflt x = (t : Int) := by
  intro ps
  induction ps with
  | nil =>
    intro os hl _ h
    cases os with
    | nil => obtain ⟨t, ht, e1⟩ := mj_jok_iff hdf; exact ⟨d, t, ht, h, e1⟩
    | cons a b => simp at hl
  | cons a ps ih =>
    intro os hl ho h
    cases os with
    | nil => simp at hl
    | cons b os =>
      obtain ⟨e1, e2⟩ := ho 0 a b rfl rfl
      unfold mj_look at h
      rw [Op.lookupswitch.offset_cons a.1 a.2]
      by_cases hx : x = b.1
      · rw [if_pos hx] at h
        obtain ⟨t, ht, e3⟩ := mj_jok_iff e2
        refine ⟨_, t, ht, h, ?_⟩
        rw [if_pos (by rw [e1, hx])]
        exact e3
      · rw [if_neg hx] at h
        rw [if_neg (by rw [e1]; exact fun z => hx z.symm)]
        exact ih os (by simpa using hl) (fun j o o2 h1 h2 => ho (j + 1) o o2 (by simpa using h1) (by simpa using h2)) h
-- memory
theorem mj_is_iff {n q k : Nat} (h : mj_is n q k = true) : q < n ∧ (mj_shp q).1 = k := by
  unfold mj_is at h
  rw [Bool.and_eq_true] at h
  exact ⟨Nat.blt_eq.mp h.1, Nat.eq_of_beq_eq_true h.2⟩
theorem mj_r.ref {ad : Nat → Nat} {n q : Nat} {w : Value} (h : mj_r ad n q w) (hq : q ≠ 999999) : w = .ref (ad q) := by
  rcases h with ⟨e, -⟩ | ⟨-, -, e⟩
  · exact absurd e hq
  · exact e
theorem mj_mem.le {G : mG} {ad : Nat → Nat} {n : Nat} {σ : mM} {H : Heap} (h : mj_mem G ad n σ H) : n ≤ 218 := by obtain ⟨_, _, _, _, h, _⟩ := h; exact h
theorem mj_mem.at {G : mG} {ad : Nat → Nat} {n q kd : Nat} {σ : mM} {H : Heap} (h : mj_mem G ad n σ H) (hq : mj_is n q kd = true) :
    ∃ (ws : va_W) (E : va_E), va_P G.1 vwCl ws H ∧ va_D (mj_A G) ws ∧ ws[q]? = some (ad q, E) ∧ mj_e G.2.1 ad n kd (mj_shp q).2 (σ q) E ∧
      ∀ (H' : Heap) (E' : va_E) (σ' : mM), va_P G.1 vwCl (ws.set q (ad q, E')) H' → va_D (mj_A G) (ws.set q (ad q, E')) → mj_e G.2.1 ad n kd (mj_shp q).2 (σ' q) E' → (∀ q', q' ≠ q → σ' q' = σ q') → mj_mem G ad n σ' H' := by
  obtain ⟨hlt, rfl⟩ := mj_is_iff hq
  obtain ⟨ws, hP, hD, hl, hn, ha⟩ := h
  obtain ⟨E, hE, he⟩ := ha q hlt
  refine ⟨ws, E, hP, hD, hE, he, fun H' E' σ' hP' hD' he' hne => ⟨_, hP', hD', by simpa using hl, hn, fun q' hq' => ?_⟩⟩
  by_cases e : q' = q
  · subst e
    exact ⟨E', by rw [List.getElem?_set_self (by omega)], he'⟩
  · obtain ⟨E2, h1, h2⟩ := ha q' hq'
    exact ⟨E2, by rw [List.getElem?_set_ne (fun z => e z.symm)]; exact h1, by rw [hne q' e]; exact h2⟩
theorem mj_set_q (σ : mM) (q k : Nat) (x : Int) : mj_set σ q k x q = fun k' => if k' = k then x else σ q k' := by funext k'; simp [mj_set]
theorem mj_set_ne (σ : mM) (q k : Nat) (x : Int) (q' : Nat) (h : q' ≠ q) : mj_set σ q k x q' = σ q' := by funext k'; simp [mj_set, h]
def mj_tag (ty : FieldType) : Nat := match ty with
  | .long => 1
  | .object _ => 2
  | .array _ => 2
  | _ => 0
theorem mj_ft_tg (ci k : Nat) (x : Int) : mj_ft ci k x = mj_tg (mj_tag (mj_ty ci k)) x := by
  unfold mj_ft
  cases mj_ty ci k <;> rfl
theorem mj_eO_of {t : Nat → ClassId} {ad : Nat → Nat} {n kd N : Nat} {f : Nat → Int} {E : va_E} (hk : kd < 13) : mj_e t ad n kd N f E ↔ mj_eO ad n kd N f E := by unfold mj_e; rw [if_pos hk]
theorem mj_e20 {t : Nat → ClassId} {ad : Nat → Nat} {n N : Nat} {f : Nat → Int} {E : va_E} : mj_e t ad n 20 N f E ↔ mj_eI (t 0) N f E := Iff.rfl
theorem mj_e21 {t : Nat → ClassId} {ad : Nat → Nat} {n N : Nat} {f : Nat → Int} {E : va_E} : mj_e t ad n 21 N f E ↔ mj_eL (t 1) N f E := Iff.rfl
theorem mj_e22 {t : Nat → ClassId} {ad : Nat → Nat} {n N : Nat} {f : Nat → Int} {E : va_E} : mj_e t ad n 22 N f E ↔ mj_eI (t 2) N f E := Iff.rfl
theorem mj_e23 {t : Nat → ClassId} {ad : Nat → Nat} {n N : Nat} {f : Nat → Int} {E : va_E} : mj_e t ad n 23 N f E ↔ mj_eI (t 3) N f E := Iff.rfl
theorem mj_e24 {t : Nat → ClassId} {ad : Nat → Nat} {n N : Nat} {f : Nat → Int} {E : va_E} : mj_e t ad n 24 N f E ↔ mj_eR ad n (t 4) N f E := Iff.rfl
theorem mj_e25 {t : Nat → ClassId} {ad : Nat → Nat} {n N : Nat} {f : Nat → Int} {E : va_E} : mj_e t ad n 25 N f E ↔ mj_eR ad n (t 5) N f E := Iff.rfl
theorem mj_vpin {j : Int32} {x : Int} {N : Nat} (hj : j.toInt = x) (h : 0 ≤ x ∧ x < N) : vp_in j N := vp_in_iff.mpr (by omega)
theorem mj_clamp {j : Int32} {x : Int} (hj : j.toInt = x) : j.toNatClampNeg = x.toNat := by rw [← hj]; rfl
theorem mj_eI.set {cA : ClassId} {N : Nat} {f : Nat → Int} {g : Nat → Int32} {k : Nat} {v : Int32} {x : Int} (h : ∀ k, k < N → (g k).toInt = f k) (hv : v.toInt = x) : mj_eI cA N (fun k' => if k' = k then x else f k') (.inl (cA, N, .inl (upd g k v))) := by
  refine ⟨_, rfl, fun k' hk' => ?_⟩
  dsimp only
  by_cases e : k' = k
  · subst e; rw [pk_us, if_pos rfl]; exact hv
  · rw [pk_un e, if_neg e]; exact h k' hk'
theorem mj_eL.set {cA : ClassId} {N : Nat} {f : Nat → Int} {g : Nat → Int64} {k : Nat} {v : Int64} {x : Int} (h : ∀ k, k < N → (g k).toInt = f k) (hv : v.toInt = x) : mj_eL cA N (fun k' => if k' = k then x else f k') (.inl (cA, N, .inr (.inl (vp_updL g k v)))) := by
  refine ⟨_, rfl, fun k' hk' => ?_⟩
  dsimp only
  by_cases e : k' = k
  · subst e; rw [pk_uLs, if_pos rfl]; exact hv
  · rw [pk_uLn e, if_neg e]; exact h k' hk'
theorem mj_eR.set {ad : Nat → Nat} {n q : Nat} {cA : ClassId} {N : Nat} {f : Nat → Int} {g : Nat → Option Nat} {k : Nat} (h : ∀ k, k < N → mj_r ad n (f k).toNat (va_rf (g k))) (hv : mj_r ad n q (.ref (ad q))) : mj_eR ad n cA N (fun k' => if k' = k then (q : Int) else f k') (.inl (cA, N, .inr (.inr (.inr (.inr (va_up g k (some (ad q)))))))) := by
  refine ⟨_, rfl, fun k' hk' => ?_⟩
  dsimp only
  by_cases e : k' = k
  · subst e; rw [va_up_self, if_pos rfl]; exact hv
  · rw [va_up_ne _ _ e, if_neg e]; exact h k' hk'
theorem mj_eO.set {ad : Nat → Nat} {n ci N k : Nat} {f : Nat → Int} {fs : List Value} {w : Value} {x : Int} (hl : fs.length = N) (h : ∀ k, k < N → ∃ w, fs[k]? = some w ∧ mj_v ad n (mj_ft ci k (f k)) w) (hv : mj_v ad n (mj_ft ci k x) w) : mj_eO ad n ci N (fun k' => if k' = k then x else f k') (.inr (ci, fs.set k w)) := by
  refine ⟨_, rfl, by simpa using hl, fun k' hk' => ?_⟩
  dsimp only
  by_cases e : k' = k
  · subst e; rw [if_pos rfl, List.getElem?_set_self (by omega)]; exact ⟨w, rfl, hv⟩
  · rw [if_neg e, List.getElem?_set_ne (fun z => e z.symm)]; exact h k' hk'
