theorem sim_all : SimAll 10000 Rel := by
  have hN : 6000 ≤ 10000 := by omega
  exact ⟨rel_start, fun k n A B h => h.1, fun k n A B h => h.up, sim_living hN, sim_foretell hN, sim_mean hN, sim_dearer hN, sim_member hN, sim_heir hN, sim_group hN, sim_set hN, sim_buy hN, sim_sell hN, sim_split hN, sim_pledge hN, sim_share hN, sim_drew hN, sim_proof hN, sim_death hN, sim_close hN, sim_of hN, sim_about hN, sim_told hN, sim_keep hN, sim_back hN⟩
