section CD13
def cd_bad (x : Int32) : Prop := x < 0 ∨ (¬ x < 0 ∧ (16 : Int32) ≤ x ∧ (15 : Int32) < x ∧ ¬ x ≤ 15)
theorem cd_pb (x : Int32) : cd_bad x ∨ ∃ j, j < 16 ∧ x = nI j := by
  rcases cd_px x with a | a | a
  · exact Or.inl (Or.inl a)
  · exact Or.inl (Or.inr a)
  · exact Or.inr a
theorem yA_no {x : Int32} {A M : Prop} (hx : cd_bad x) (r : A) : (x < 0 → A) ∧ (¬ x < 0 → ((15 < x → A) ∧ (¬ 15 < x → M))) := by
  rcases hx with a | a
  · exact br_t a r
  · exact br_f a.1 (br_t a.2.2.1 r)
theorem yB_no {x : Int32} {A M : Prop} (hx : cd_bad x) (r : A) : (x < 0 → A) ∧ (¬ x < 0 → ((x ≤ 15 → M) ∧ (¬ x ≤ 15 → A))) := by
  rcases hx with a | a
  · exact br_t a r
  · exact br_f a.1 (br_f a.2.2.2 r)
theorem yA_ok {j : Nat} {A M : Prop} (hj : j < 16) (m : M) : (nI j < 0 → A) ∧ (¬ nI j < 0 → ((15 < nI j → A) ∧ (¬ 15 < nI j → M))) := br_f (cd_j0 hj) (br_f (cd_j15 hj) m)
theorem yB_ok {j : Nat} {A M : Prop} (hj : j < 16) (m : M) : (nI j < 0 → A) ∧ (¬ nI j < 0 → ((nI j ≤ 15 → M) ∧ (¬ nI j ≤ 15 → A))) := br_f (cd_j0 hj) (br_t (cd_l15 hj) m)
def cd_sbad (x : Int32) : Prop := x < 0 ∨ (¬ x < 0 ∧ (32 : Int32) ≤ x)
theorem cd_sb (x : Int32) : cd_sbad x ∨ ∃ j, j < 32 ∧ x = nI j := by
  rcases cd_sx x with a | a | a
  · exact Or.inl (Or.inl a)
  · exact Or.inl (Or.inr a)
  · exact Or.inr a
theorem yS_no {x : Int32} {A M : Prop} (hx : cd_sbad x) (r : A) : (x < 0 → A) ∧ (¬ x < 0 → ((32 ≤ x → A) ∧ (¬ 32 ≤ x → M))) := by
  rcases hx with a | a
  · exact br_t a r
  · exact br_f a.1 (br_t a.2 r)
theorem yS_ok {j : Nat} {A M : Prop} (hj : j < 32) (m : M) : (nI j < 0 → A) ∧ (¬ nI j < 0 → ((32 ≤ nI j → A) ∧ (¬ 32 ≤ nI j → M))) := br_f (nI_pos (by omega)) (br_f (nI_ge (b := 32) hj (by decide)) m)
theorem i_vc_configOf {k : Nat} {u : SX} {v : SY} (I : i_Rel k u v) (hk : k + 4 ≤ 2052) (v1 : Int32) : wpX_configOf (fun r => wpY_configOf (fun r' => r' = r ∧ i_Rel (k + 4) u v) v v1) u v1 := by
  obtain ⟨f_rings, f_high, f_low, a_crashed, a_config, a_members, a_newestCut, a_reports, a_votes, a_myVote, a_promised, a_acceptedRound, a_acceptedValue, a_ownRound, a_phase, a_promisers, a_promiserRound, a_promiserValue, a_learnedRound, a_learnedFrom, a_learnedValue, a_slots⟩ := u
  obtain ⟨a_pr, a_pv, a_sm, rfl, hK, Q, S⟩ := I
  have R : cy_R (f_rings, f_high, f_low, a_crashed, a_config, a_members, a_newestCut, a_reports, a_votes, a_myVote, a_promised, a_acceptedRound, a_acceptedValue, a_ownRound, a_phase, a_promisers, a_promiserRound, a_promiserValue, a_learnedRound, a_learnedFrom, a_learnedValue, a_slots) (f_rings, f_high, f_low, a_crashed, a_config, a_members, a_newestCut, a_myVote, a_promised, a_acceptedRound, a_acceptedValue, a_ownRound, a_phase, a_promisers, a_learnedRound, a_learnedFrom, a_learnedValue, a_reports, a_votes, a_pr, a_pv, a_sm) := ⟨a_pr, a_pv, a_sm, rfl, hK, Q, S⟩
  unfold wpX_configOf wpY_configOf
  dsimp only
  rcases cd_pb v1 with b | ⟨j, hj, rfl⟩
  · exact xw_isN b (br_t rfl (yB_no b ⟨rfl, R⟩))
  · exact xw_isP hj (br_f (by decide) ⟨cd_vi hj, yB_ok hj ⟨cd_vi hj, rfl, R⟩⟩)
theorem i_vc_membersOf {k : Nat} {u : SX} {v : SY} (I : i_Rel k u v) (hk : k + 4 ≤ 2052) (v1 : Int32) : wpX_membersOf (fun r => wpY_membersOf (fun r' => r' = r ∧ i_Rel (k + 4) u v) v v1) u v1 := by
  obtain ⟨f_rings, f_high, f_low, a_crashed, a_config, a_members, a_newestCut, a_reports, a_votes, a_myVote, a_promised, a_acceptedRound, a_acceptedValue, a_ownRound, a_phase, a_promisers, a_promiserRound, a_promiserValue, a_learnedRound, a_learnedFrom, a_learnedValue, a_slots⟩ := u
  obtain ⟨a_pr, a_pv, a_sm, rfl, hK, Q, S⟩ := I
  have R : cy_R (f_rings, f_high, f_low, a_crashed, a_config, a_members, a_newestCut, a_reports, a_votes, a_myVote, a_promised, a_acceptedRound, a_acceptedValue, a_ownRound, a_phase, a_promisers, a_promiserRound, a_promiserValue, a_learnedRound, a_learnedFrom, a_learnedValue, a_slots) (f_rings, f_high, f_low, a_crashed, a_config, a_members, a_newestCut, a_myVote, a_promised, a_acceptedRound, a_acceptedValue, a_ownRound, a_phase, a_promisers, a_learnedRound, a_learnedFrom, a_learnedValue, a_reports, a_votes, a_pr, a_pv, a_sm) := ⟨a_pr, a_pv, a_sm, rfl, hK, Q, S⟩
  unfold wpX_membersOf wpY_membersOf
  dsimp only
  rcases cd_pb v1 with b | ⟨j, hj, rfl⟩
  · exact xw_isN b (br_t rfl (yB_no b ⟨rfl, R⟩))
  · exact xw_isP hj (br_f (by decide) ⟨cd_vi hj, yB_ok hj ⟨cd_vi hj, rfl, R⟩⟩)
theorem i_vc_lastCut {k : Nat} {u : SX} {v : SY} (I : i_Rel k u v) (hk : k + 4 ≤ 2052) (v1 : Int32) : wpX_lastCut (fun r => wpY_lastCut (fun r' => r' = r ∧ i_Rel (k + 4) u v) v v1) u v1 := by
  obtain ⟨f_rings, f_high, f_low, a_crashed, a_config, a_members, a_newestCut, a_reports, a_votes, a_myVote, a_promised, a_acceptedRound, a_acceptedValue, a_ownRound, a_phase, a_promisers, a_promiserRound, a_promiserValue, a_learnedRound, a_learnedFrom, a_learnedValue, a_slots⟩ := u
  obtain ⟨a_pr, a_pv, a_sm, rfl, hK, Q, S⟩ := I
  have R : cy_R (f_rings, f_high, f_low, a_crashed, a_config, a_members, a_newestCut, a_reports, a_votes, a_myVote, a_promised, a_acceptedRound, a_acceptedValue, a_ownRound, a_phase, a_promisers, a_promiserRound, a_promiserValue, a_learnedRound, a_learnedFrom, a_learnedValue, a_slots) (f_rings, f_high, f_low, a_crashed, a_config, a_members, a_newestCut, a_myVote, a_promised, a_acceptedRound, a_acceptedValue, a_ownRound, a_phase, a_promisers, a_learnedRound, a_learnedFrom, a_learnedValue, a_reports, a_votes, a_pr, a_pv, a_sm) := ⟨a_pr, a_pv, a_sm, rfl, hK, Q, S⟩
  unfold wpX_lastCut wpY_lastCut
  dsimp only
  rcases cd_pb v1 with b | ⟨j, hj, rfl⟩
  · exact xw_isN b (br_t rfl (yB_no b ⟨rfl, R⟩))
  · exact xw_isP hj (br_f (by decide) ⟨cd_vi hj, yB_ok hj ⟨cd_vi hj, rfl, R⟩⟩)
theorem i_vc_proposalOf {k : Nat} {u : SX} {v : SY} (I : i_Rel k u v) (hk : k + 4 ≤ 2052) (v1 : Int32) : wpX_proposalOf (fun r => wpY_proposalOf (fun r' => r' = r ∧ i_Rel (k + 4) u v) v v1) u v1 := by
  obtain ⟨f_rings, f_high, f_low, a_crashed, a_config, a_members, a_newestCut, a_reports, a_votes, a_myVote, a_promised, a_acceptedRound, a_acceptedValue, a_ownRound, a_phase, a_promisers, a_promiserRound, a_promiserValue, a_learnedRound, a_learnedFrom, a_learnedValue, a_slots⟩ := u
  obtain ⟨a_pr, a_pv, a_sm, rfl, hK, Q, S⟩ := I
  have R : cy_R (f_rings, f_high, f_low, a_crashed, a_config, a_members, a_newestCut, a_reports, a_votes, a_myVote, a_promised, a_acceptedRound, a_acceptedValue, a_ownRound, a_phase, a_promisers, a_promiserRound, a_promiserValue, a_learnedRound, a_learnedFrom, a_learnedValue, a_slots) (f_rings, f_high, f_low, a_crashed, a_config, a_members, a_newestCut, a_myVote, a_promised, a_acceptedRound, a_acceptedValue, a_ownRound, a_phase, a_promisers, a_learnedRound, a_learnedFrom, a_learnedValue, a_reports, a_votes, a_pr, a_pv, a_sm) := ⟨a_pr, a_pv, a_sm, rfl, hK, Q, S⟩
  unfold wpX_proposalOf wpY_proposalOf
  dsimp only
  rcases cd_pb v1 with b | ⟨j, hj, rfl⟩
  · exact xw_isN b (br_t rfl (yB_no b ⟨rfl, R⟩))
  · exact xw_isP hj (br_f (by decide) ⟨cd_vi hj, yB_ok hj ⟨cd_vi hj, rfl, R⟩⟩)
theorem i_vc_status {k : Nat} {u : SX} {v : SY} (I : i_Rel k u v) (hk : k + 4 ≤ 2052) (v1 : Int32) : wpX_status (fun r => wpY_status (fun r' => r' = r ∧ i_Rel (k + 4) u v) v v1) u v1 := by
  obtain ⟨f_rings, f_high, f_low, a_crashed, a_config, a_members, a_newestCut, a_reports, a_votes, a_myVote, a_promised, a_acceptedRound, a_acceptedValue, a_ownRound, a_phase, a_promisers, a_promiserRound, a_promiserValue, a_learnedRound, a_learnedFrom, a_learnedValue, a_slots⟩ := u
  obtain ⟨a_pr, a_pv, a_sm, rfl, hK, Q, S⟩ := I
  have R : cy_R (f_rings, f_high, f_low, a_crashed, a_config, a_members, a_newestCut, a_reports, a_votes, a_myVote, a_promised, a_acceptedRound, a_acceptedValue, a_ownRound, a_phase, a_promisers, a_promiserRound, a_promiserValue, a_learnedRound, a_learnedFrom, a_learnedValue, a_slots) (f_rings, f_high, f_low, a_crashed, a_config, a_members, a_newestCut, a_myVote, a_promised, a_acceptedRound, a_acceptedValue, a_ownRound, a_phase, a_promisers, a_learnedRound, a_learnedFrom, a_learnedValue, a_reports, a_votes, a_pr, a_pv, a_sm) := ⟨a_pr, a_pv, a_sm, rfl, hK, Q, S⟩
  rcases cd_pb v1 with b | ⟨j, hj, rfl⟩
  · unfold wpX_status wpY_status
    exact xw_isN b (br_t rfl (yB_no b ⟨rfl, R⟩))
  · refine xw_stt hj ?_
    unfold wpY_status
    exact yB_ok hj (yw_stt hj ⟨rfl, R⟩)
theorem i_vc_reportCount {k : Nat} {u : SX} {v : SY} (I : i_Rel k u v) (hk : k + 4 ≤ 2052) (v1 : Int32) (v2 : Int32) : wpX_reportCount (fun r => wpY_reportCount (fun r' => r' = r ∧ i_Rel (k + 4) u v) v v1 v2) u v1 v2 := by
  obtain ⟨f_rings, f_high, f_low, a_crashed, a_config, a_members, a_newestCut, a_reports, a_votes, a_myVote, a_promised, a_acceptedRound, a_acceptedValue, a_ownRound, a_phase, a_promisers, a_promiserRound, a_promiserValue, a_learnedRound, a_learnedFrom, a_learnedValue, a_slots⟩ := u
  obtain ⟨a_pr, a_pv, a_sm, rfl, hK, Q, S⟩ := I
  have R : cy_R (f_rings, f_high, f_low, a_crashed, a_config, a_members, a_newestCut, a_reports, a_votes, a_myVote, a_promised, a_acceptedRound, a_acceptedValue, a_ownRound, a_phase, a_promisers, a_promiserRound, a_promiserValue, a_learnedRound, a_learnedFrom, a_learnedValue, a_slots) (f_rings, f_high, f_low, a_crashed, a_config, a_members, a_newestCut, a_myVote, a_promised, a_acceptedRound, a_acceptedValue, a_ownRound, a_phase, a_promisers, a_learnedRound, a_learnedFrom, a_learnedValue, a_reports, a_votes, a_pr, a_pv, a_sm) := ⟨a_pr, a_pv, a_sm, rfl, hK, Q, S⟩
  unfold wpX_reportCount wpY_reportCount
  dsimp only
  rcases cd_pb v1 with b | ⟨j, hj, rfl⟩
  · exact xw_isN b (br_t rfl (yA_no b ⟨rfl, R⟩))
  · rcases cd_pb v2 with b | ⟨i, hi, rfl⟩
    · exact xw_isP hj (br_f (by decide) (xw_isN b (br_t rfl (yA_ok hj (yB_no b ⟨rfl, R⟩)))))
    · exact xw_isP hj (br_f (by decide) (xw_isP hi (br_f (by decide) ⟨cd_vi16 hj hi, xw_ct (yA_ok hj (yB_ok hi ⟨cd_vi16 hj hi, yw_ct ⟨rfl, R⟩⟩))⟩)))
theorem i_vc_voteOf {k : Nat} {u : SX} {v : SY} (I : i_Rel k u v) (hk : k + 4 ≤ 2052) (v1 : Int32) (v2 : Int32) : wpX_voteOf (fun r => wpY_voteOf (fun r' => r' = r ∧ i_Rel (k + 4) u v) v v1 v2) u v1 v2 := by
  obtain ⟨f_rings, f_high, f_low, a_crashed, a_config, a_members, a_newestCut, a_reports, a_votes, a_myVote, a_promised, a_acceptedRound, a_acceptedValue, a_ownRound, a_phase, a_promisers, a_promiserRound, a_promiserValue, a_learnedRound, a_learnedFrom, a_learnedValue, a_slots⟩ := u
  obtain ⟨a_pr, a_pv, a_sm, rfl, hK, Q, S⟩ := I
  have R : cy_R (f_rings, f_high, f_low, a_crashed, a_config, a_members, a_newestCut, a_reports, a_votes, a_myVote, a_promised, a_acceptedRound, a_acceptedValue, a_ownRound, a_phase, a_promisers, a_promiserRound, a_promiserValue, a_learnedRound, a_learnedFrom, a_learnedValue, a_slots) (f_rings, f_high, f_low, a_crashed, a_config, a_members, a_newestCut, a_myVote, a_promised, a_acceptedRound, a_acceptedValue, a_ownRound, a_phase, a_promisers, a_learnedRound, a_learnedFrom, a_learnedValue, a_reports, a_votes, a_pr, a_pv, a_sm) := ⟨a_pr, a_pv, a_sm, rfl, hK, Q, S⟩
  unfold wpX_voteOf wpY_voteOf
  dsimp only
  rcases cd_pb v1 with b | ⟨j, hj, rfl⟩
  · exact xw_isN b (br_t rfl (yA_no b ⟨rfl, R⟩))
  · rcases cd_pb v2 with b | ⟨i, hi, rfl⟩
    · exact xw_isP hj (br_f (by decide) (xw_isN b (br_t rfl (yA_ok hj (yB_no b ⟨rfl, R⟩)))))
    · exact xw_isP hj (br_f (by decide) (xw_isP hi (br_f (by decide) ⟨cd_vi16 hj hi, yA_ok hj (yB_ok hi ⟨cd_vi16 hj hi, rfl, R⟩)⟩)))
theorem i_vc_observer {k : Nat} {u : SX} {v : SY} (I : i_Rel k u v) (hk : k + 4 ≤ 2052) (v1 : Int32) (v2 : Int32) (v3 : Int32) : wpX_observer (fun r => wpY_observer (fun r' => r' = r ∧ i_Rel (k + 4) u v) v v1 v2 v3) u v1 v2 v3 := by
  obtain ⟨f_rings, f_high, f_low, a_crashed, a_config, a_members, a_newestCut, a_reports, a_votes, a_myVote, a_promised, a_acceptedRound, a_acceptedValue, a_ownRound, a_phase, a_promisers, a_promiserRound, a_promiserValue, a_learnedRound, a_learnedFrom, a_learnedValue, a_slots⟩ := u
  obtain ⟨a_pr, a_pv, a_sm, rfl, hK, Q, S⟩ := I
  have R : cy_R (f_rings, f_high, f_low, a_crashed, a_config, a_members, a_newestCut, a_reports, a_votes, a_myVote, a_promised, a_acceptedRound, a_acceptedValue, a_ownRound, a_phase, a_promisers, a_promiserRound, a_promiserValue, a_learnedRound, a_learnedFrom, a_learnedValue, a_slots) (f_rings, f_high, f_low, a_crashed, a_config, a_members, a_newestCut, a_myVote, a_promised, a_acceptedRound, a_acceptedValue, a_ownRound, a_phase, a_promisers, a_learnedRound, a_learnedFrom, a_learnedValue, a_reports, a_votes, a_pr, a_pv, a_sm) := ⟨a_pr, a_pv, a_sm, rfl, hK, Q, S⟩
  unfold wpX_observer wpY_observer
  dsimp only
  rcases cd_pb v1 with b | ⟨j, hj, rfl⟩
  · exact xw_isN b (br_t rfl (yA_no b ⟨rfl, R⟩))
  · rcases cd_pb v2 with b | ⟨i, hi, rfl⟩
    · exact xw_isP hj (br_f (by decide) (xw_isN b (br_t rfl (yA_ok hj (yA_no b ⟨rfl, R⟩)))))
    · refine xw_isP hj (br_f (by decide) (xw_isP hi (br_f (by decide) ?_)))
      by_cases c : v3 < 0
      · exact br_t c (yA_ok hj (yA_ok hi (br_t c ⟨rfl, R⟩)))
      · refine br_f c ?_
        by_cases c2 : v3 < f_rings
        · exact br_t c2 ⟨cd_vi hj, xw_near (yA_ok hj (yA_ok hi (br_f c (br_t c2 ⟨cd_vi hj, yw_obs ⟨rfl, R⟩⟩))))⟩
        · exact br_f c2 (yA_ok hj (yA_ok hi (br_f c (br_f c2 ⟨rfl, R⟩))))
theorem i_vc_crash {k : Nat} {u : SX} {v : SY} (I : i_Rel k u v) (hk : k + 4 ≤ 2052) (v1 : Int32) : wpX_crash (fun r u' => wpY_crash (fun r' v' => r' = r ∧ i_Rel (k + 4) u' v') v v1) u v1 := by
  obtain ⟨f_rings, f_high, f_low, a_crashed, a_config, a_members, a_newestCut, a_reports, a_votes, a_myVote, a_promised, a_acceptedRound, a_acceptedValue, a_ownRound, a_phase, a_promisers, a_promiserRound, a_promiserValue, a_learnedRound, a_learnedFrom, a_learnedValue, a_slots⟩ := u
  obtain ⟨a_pr, a_pv, a_sm, rfl, hK, Q, S⟩ := I
  have R : cy_R (f_rings, f_high, f_low, a_crashed, a_config, a_members, a_newestCut, a_reports, a_votes, a_myVote, a_promised, a_acceptedRound, a_acceptedValue, a_ownRound, a_phase, a_promisers, a_promiserRound, a_promiserValue, a_learnedRound, a_learnedFrom, a_learnedValue, a_slots) (f_rings, f_high, f_low, a_crashed, a_config, a_members, a_newestCut, a_myVote, a_promised, a_acceptedRound, a_acceptedValue, a_ownRound, a_phase, a_promisers, a_learnedRound, a_learnedFrom, a_learnedValue, a_reports, a_votes, a_pr, a_pv, a_sm) := ⟨a_pr, a_pv, a_sm, rfl, hK, Q, S⟩
  unfold wpX_crash wpY_crash
  dsimp only
  rcases cd_pb v1 with b | ⟨j, hj, rfl⟩
  · exact xw_isN b (br_t rfl (yA_no b ⟨rfl, R⟩))
  · refine xw_isP hj (br_f (by decide) ⟨cd_vi hj, ?_⟩)
    rw [cd_cl hj]
    by_cases c : a_crashed j = 0
    · exact br_t c ⟨cd_vi hj, nm_e (yA_ok hj ⟨cd_vi hj, br_t c ⟨cd_vi hj, nm_e ⟨rfl, ⟨a_pr, a_pv, a_sm, rfl, hK, Q, S⟩⟩⟩⟩)⟩
    · exact br_f c (yA_ok hj ⟨cd_vi hj, br_f c ⟨rfl, R⟩⟩)
theorem i_vc_msg {k : Nat} {u : SX} {v : SY} (I : i_Rel k u v) (hk : k + 4 ≤ 2052) (v1 : Int32) (v2 : Int32) : wpX_msg (fun r => wpY_msg (fun r' => r' = r ∧ i_Rel (k + 4) u v) v v1 v2) u v1 v2 := by
  obtain ⟨f_rings, f_high, f_low, a_crashed, a_config, a_members, a_newestCut, a_reports, a_votes, a_myVote, a_promised, a_acceptedRound, a_acceptedValue, a_ownRound, a_phase, a_promisers, a_promiserRound, a_promiserValue, a_learnedRound, a_learnedFrom, a_learnedValue, a_slots⟩ := u
  obtain ⟨a_pr, a_pv, a_sm, rfl, hK, Q, S⟩ := I
  have R : cy_R (f_rings, f_high, f_low, a_crashed, a_config, a_members, a_newestCut, a_reports, a_votes, a_myVote, a_promised, a_acceptedRound, a_acceptedValue, a_ownRound, a_phase, a_promisers, a_promiserRound, a_promiserValue, a_learnedRound, a_learnedFrom, a_learnedValue, a_slots) (f_rings, f_high, f_low, a_crashed, a_config, a_members, a_newestCut, a_myVote, a_promised, a_acceptedRound, a_acceptedValue, a_ownRound, a_phase, a_promisers, a_learnedRound, a_learnedFrom, a_learnedValue, a_reports, a_votes, a_pr, a_pv, a_sm) := ⟨a_pr, a_pv, a_sm, rfl, hK, Q, S⟩
  unfold wpX_msg wpY_msg
  dsimp only
  rcases cd_sb v1 with b | ⟨i, hi, rfl⟩
  · exact yS_no b (yS_no b ⟨rfl, R⟩)
  · refine yS_ok hi ?_
    rcases pk_ix v2 (n := 7) (by decide) with c | c | ⟨f, hf, rfl⟩
    · exact br_t c (yS_ok hi (br_t c ⟨rfl, R⟩))
    · have c7 : (7 : Int32) ≤ v2 := c
      have c0 : ¬ v2 < 0 := fun z => absurd (Int32.lt_of_le_of_lt c7 z) (by decide)
      have c6 : ¬ v2 ≤ 6 := fun z => absurd (Int32.le_trans c7 z) (by decide)
      exact br_f c0 (br_f (Int32.not_lt.mpr c7) (yS_ok hi (br_f c0 (br_f c6 ⟨rfl, R⟩))))
    · obtain ⟨h1, h2, h3⟩ := S i hi
      have c0 : ¬ nI f < 0 := nI_pos (by omega)
      have c7 : nI f < (7 : Int32) := nI_lt (b := 7) hf (by decide)
      have c6 : nI f ≤ (6 : Int32) := nI_le (b := 6) (by omega) (by decide)
      rw [cd_i7k, cd_i76, cd_c7 hi hf, cd_c7 hi (show 6 < 7 by omega), h1]
      refine br_f c0 (br_t c7 ⟨cd_v7 hi hf, yS_ok hi (br_f c0 (br_t c6 ⟨cd_v7 hi (by omega), ?_⟩))⟩)
      by_cases z : a_slots (i * 7 + 6) = 0
      · exact br_t z ⟨(h2 z f hf).symm, R⟩
      · exact br_f z ⟨cd_v7 hi hf, (h3 z).1 f hf, R⟩
end CD13
