set_option maxRecDepth 20000 in
theorem inv_init {σ : mM} (h : Init σ) : Inv σ := by
  have e1_1 : σ 1 1 = 0 := h.get (i := 15) rfl
  have e146_1 : σ 146 1 = 0 := h.get (i := 405) rfl
  have e19_2 : σ 19 2 = 0 := h.get (i := 110) rfl
  have e19_3 : σ 19 3 = -1 := h.get (i := 111) rfl
  have e146_7 : σ 146 7 = 0 := h.get (i := 411) rfl
  have e146_8 : σ 146 8 = -1 := h.get (i := 412) rfl
  have e0_13 : σ 0 13 = 1 := h.get (i := 13) rfl
  have e146_67 : σ 146 67 = 1 := h.get (i := 471) rfl
  have e0_12 : σ 0 12 = 0 := h.get (i := 12) rfl
  have e146_99 : σ 146 99 = 0 := h.get (i := 503) rfl
  have e31_1 : σ 31 1 = 0 := h.get (i := 183) rfl
  have e146_58 : σ 146 58 = 0 := h.get (i := 462) rfl
  have e3_4 : σ 3 4 = 0 := h.get (i := 20) rfl
  have e3_5 : σ 3 5 = 0 := h.get (i := 21) rfl
  have e173_2 : σ 173 2 = 0 := h.get (i := 608) rfl
  have e173_3 : σ 173 3 = 0 := h.get (i := 609) rfl
  have e3_8 : σ 3 8 = 15 := h.get (i := 24) rfl
  have e3_9 : σ 3 9 = 0 := h.get (i := 25) rfl
  have e178_2 : σ 178 2 = 15 := h.get (i := 621) rfl
  have e178_3 : σ 178 3 = 0 := h.get (i := 622) rfl
  have e28_2 : σ 28 2 = 0 := h.get (i := 165) rfl
  have e28_3 : σ 28 3 = 0 := h.get (i := 166) rfl
  have e28_4 : σ 28 4 = 0 := h.get (i := 167) rfl
  have e182_0 : σ 182 0 = 0 := h.get (i := 635) rfl
  have e182_29 : σ 182 29 = 0 := h.get (i := 636) rfl
  have e39_1 : σ 39 1 = 0 := h.get (i := 213) rfl
  have e41_2 : σ 41 2 = 0 := h.get (i := 216) rfl
  have e41_3 : σ 41 3 = 0 := h.get (i := 217) rfl
  have e146_65 : σ 146 65 = 0 := h.get (i := 469) rfl
  have e146_66 : σ 146 66 = 0 := h.get (i := 470) rfl
  have e146_53 : σ 146 53 = 0 := h.get (i := 457) rfl
  have e145_0 : σ 145 0 = 0 := h.get (i := 398) rfl
  have e145_1 : σ 145 1 = 0 := h.get (i := 399) rfl
  have e145_2 : σ 145 2 = 0 := h.get (i := 400) rfl
  have e145_3 : σ 145 3 = 0 := h.get (i := 401) rfl
  have e145_4 : σ 145 4 = 0 := h.get (i := 402) rfl
  have e145_5 : σ 145 5 = 0 := h.get (i := 403) rfl
  have e148_0 : σ 148 0 = 0 := h.get (i := 504) rfl
  have e148_1 : σ 148 1 = 0 := h.get (i := 505) rfl
  have e148_2 : σ 148 2 = 0 := h.get (i := 506) rfl
  have e148_3 : σ 148 3 = 0 := h.get (i := 507) rfl
  have e148_4 : σ 148 4 = 0 := h.get (i := 508) rfl
  have e148_5 : σ 148 5 = 0 := h.get (i := 509) rfl
  have e9_0 : σ 9 0 = 0 := h.get (i := 54) rfl
  have e9_1 : σ 9 1 = 1 := h.get (i := 55) rfl
  have e9_2 : σ 9 2 = 2 := h.get (i := 56) rfl
  have e10_0 : σ 10 0 = 1 := h.get (i := 58) rfl
  have e10_1 : σ 10 1 = 2 := h.get (i := 59) rfl
  have e10_2 : σ 10 2 = 3 := h.get (i := 60) rfl
  have e8_0 : σ 8 0 = 1 := h.get (i := 51) rfl
  have e8_1 : σ 8 1 = 2 := h.get (i := 52) rfl
  have e8_2 : σ 8 2 = 6 := h.get (i := 53) rfl
  have e179_3 : σ 179 3 = -1 := h.get (i := 626) rfl
  have e179_4 : σ 179 4 = -1 := h.get (i := 627) rfl
  have e179_5 : σ 179 5 = -1 := h.get (i := 628) rfl
  refine ⟨Fix.of_init h, ⟨by rw [e146_1, e1_1], by rw [e1_1]; decide, fun k hk => by rw [e1_1] at hk; omega⟩, ?_, ⟨by rw [e146_7, e19_2], by rw [e146_8, e19_3]⟩, ⟨by rw [e146_67, e0_13], by rw [e0_13]; decide, by rw [e0_13]; decide⟩, ⟨by rw [e146_99, e0_12], by rw [e0_12]; decide, fun k hk => by rw [e0_12] at hk; omega⟩,
    ⟨by rw [e146_58, e31_1], by rw [e31_1]; decide, fun k hk => by rw [e31_1] at hk; omega, fun k hk => by rw [e31_1] at hk; omega⟩, ⟨⟨by rw [e173_2, e3_4], by rw [e3_4]; decide, by rw [e3_4]; decide⟩, by rw [e173_3, e3_5], ⟨by rw [e178_2, e3_8], by rw [e3_8]; decide, by rw [e3_8]; decide⟩, ⟨by rw [e178_3, e3_9], by rw [e3_9]; decide, by rw [e3_9]; decide⟩, fun p hp => by rw [e3_4] at hp; omega, ?_⟩,
    ⟨by rw [e182_0, e28_2], by rw [e28_2]; decide, by rw [e28_3, e3_4]; decide, by rw [e28_4, e3_4]; decide, fun p hp => by rw [e3_4] at hp; omega⟩, ⟨by rw [e182_29, e39_1], by rw [e39_1]; decide, fun k hk => by rw [e39_1] at hk; omega⟩, ⟨by rw [e146_65, e41_3], by rw [e41_3]; decide, by rw [e146_66]; decide, by rw [e41_2, e146_66], fun j hj => by rw [e41_3] at hj; omega⟩, e146_53⟩
  · intro k hk
    rcases (show k = 0 ∨ k = 1 ∨ k = 2 ∨ k = 3 ∨ k = 4 ∨ k = 5 by omega) with rfl | rfl | rfl | rfl | rfl | rfl
    · rw [e148_0, e145_0]
    · rw [e148_1, e145_1]
    · rw [e148_2, e145_2]
    · rw [e148_3, e145_3]
    · rw [e148_4, e145_4]
    · rw [e148_5, e145_5]
  · intro r hr
    rcases (show r = 0 ∨ r = 1 ∨ r = 2 by omega) with rfl | rfl | rfl
    · exact ⟨by rw [e9_0, e10_0]; decide, Or.inl ⟨by rw [show 3 + 0 = 3 from rfl, e179_3], by rw [e10_0, e9_0]; rfl, by rw [e9_0]; exact e8_0⟩⟩
    · exact ⟨by rw [e9_1, e10_1]; decide, Or.inl ⟨by rw [show 3 + 1 = 4 from rfl, e179_4], by rw [e10_1, e9_1]; rfl, by rw [e9_1]; exact e8_1⟩⟩
    · exact ⟨by rw [e9_2, e10_2]; decide, Or.inl ⟨by rw [show 3 + 2 = 5 from rfl, e179_5], by rw [e10_2, e9_2]; rfl, by rw [e9_2]; exact e8_2⟩⟩
