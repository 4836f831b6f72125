theorem all_pairs {σ : mM} (h : Inv σ) : AllPairs Inv σ :=
  ⟨p_feed h, p_end h, p_city h, p_fault h, p_has h, p_letter h, p_part h, p_tonight h, p_kept h, p_later h, p_comes h, p_self h, p_say h, p_aunts h, p_right h, p_rest h, p_see h, p_fits h, p_tells h, p_read h, p_hush h, p_aunt h, p_deaf h, p_nights h, p_chance h, p_undo h, p_seed h, p_ask h, p_image h, p_octet h, p_on h, p_status h⟩
theorem all_law {L : Nat} {xs : Nat → Int32} (hL : L ≤ 3072) : LAt L xs 0 [some (.inr (.inr mj_SCR)), none, none, none] [] 0 (fun _ _ => 0) :=
  law_start (fun σ hσ => law_loop hL (fun _ h => all_pairs h) 600 0 σ (by omega) (inv_init hσ) (by omega))
