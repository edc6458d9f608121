/-! THE START -/
theorem row0 : okRow (gI Sc0 2) 0 := ⟨⟨0, 12, 0, by decide, by decide, rfl, rfl, rfl⟩, ⟨0, 12, 0, by decide, by decide, rfl, rfl, rfl⟩, fun s hs => by
  have e : gI Sc0 2 (6 + s) = 2 := by
    rcases (show s = 0 ∨ s = 1 ∨ s = 2 ∨ s = 3 ∨ s = 4 ∨ s = 5 by omega) with rfl | rfl | rfl | rfl | rfl | rfl <;> rfl
  rw [e]
  exact ⟨⟨2, by decide, rfl⟩, fun _ => rfl⟩, ⟨0, by decide, rfl⟩, ⟨11, by decide, rfl⟩⟩
theorem RV0 : RV Sc0 Sm1 1 1 0 0 0 0 0 := by
  have e1 : gI Sm1 1 = gI Sm0 1 := cpS_ne _ _ _ (by decide)
  refine ⟨by decide, ?_, ?_, ?_, ?_, rfl, ?_, ?_, row0, ?_, fun s hs => absurd hs (by omega), fun k hk => absurd hk (by omega), fun j hj => absurd hj (by omega)⟩ <;> rw [e1]
  · exact ⟨rfl, rfl⟩
  · exact ⟨rfl, rfl⟩
  · exact ⟨rfl, rfl⟩
  · exact ⟨rfl, rfl⟩
  · exact ⟨rfl, 0, by decide, rfl⟩
  · exact ⟨rfl, Or.inl rfl⟩
  · refine ⟨rfl, rfl, fun k hk => ?_⟩
    rcases (show k = 0 ∨ k = 1 ∨ k = 2 ∨ k = 3 ∨ k = 4 ∨ k = 5 by omega) with rfl | rfl | rfl | rfl | rfl | rfl <;> rfl
theorem rel0 : RelW RTx Sc0 Sm1 := by
  refine ⟨RCr0, RMr1, ⟨Or.inl ⟨rfl, rfl⟩, Or.inl ⟨rfl, rfl⟩⟩, ⟨0, 0, 0, 0, 0, 0, 0, 0, 0, 0, RV0, ?_, Nat.le_refl _, fun t ht => absurd ht (by omega)⟩, ⟨0, by omega, rfl, rfl, fun k hk => absurd hk (by omega)⟩, Or.inl ⟨rfl, rfl, rfl⟩⟩
  exact RV0.move (o' := 6) (am' := 2) (fun _ _ _ _ _ _ => rfl) (fun _ _ => rfl) (fun _ _ => rfl) (fun _ _ => rfl) (fun _ _ => rfl) (fun k hk => by rw [show gI Sm1 1 = gI Sm0 1 from cpS_ne _ _ _ (by decide)]; exact cpS_in _ _ _ hk)
theorem sims : xSims (RelW RTx) := ⟨sim_sister_ok RTx_loc, sim_mice_ok RTx_loc, sim_seed_ok RTx_loc, sim_feed_ok RTx_loc, sim_end_ok RTx_loc, sim_text_ok, sim_fault_ok, sim_by_ok RTx_loc, sim_slices_ok, sim_seat_ok RTx_loc, sim_hide_ok RTx_loc, sim_give_ok RTx_loc, sim_pass_ok, sim_played_ok, sim_undo_ok RTx_loc, sim_of_ok, sim_sisterOf_ok, sim_comes_ok, sim_odds_ok, sim_apart_ok, sim_flour_ok, sim_saint_ok, sim_seen_ok RTx_loc, sim_who_ok, sim_image_ok RTx_loc, sim_back_ok RTx_loc RTx_mono, sim_about_ok⟩
