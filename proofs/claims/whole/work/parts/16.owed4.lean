section CD16
variable {f_rings f_high f_low : Int32} {a_crashed a_config a_members a_newestCut a_reports a_votes a_myVote a_promised a_acceptedRound a_acceptedValue a_ownRound a_phase a_promisers a_promiserRound a_promiserValue a_learnedRound a_learnedFrom a_learnedValue a_slots a_pr a_pv a_sm : Nat → Int32}
theorem yr_obsL {post : Int32 → SY → Prop} {o K : Nat} (ho : o < 16) (hK : K ≤ 6) {s : Int32}
    (h : (cd_wat (a_members o) (nI o) s K = 0 → post 0 (nI K, f_high, f_low, a_crashed, a_config, a_members, a_newestCut, a_myVote, a_promised, a_acceptedRound, a_acceptedValue, a_ownRound, a_phase, a_promisers, a_learnedRound, a_learnedFrom, a_learnedValue, a_reports, a_votes, a_pr, a_pv, a_sm)) ∧ (¬ cd_wat (a_members o) (nI o) s K = 0 → wpY_freeSlot (fun r => (0 ≤ r → vp_in (nI o) 16 ∧ wpY_send (post 1) (nI K, f_high, f_low, a_crashed, a_config, a_members, a_newestCut, a_myVote, a_promised, a_acceptedRound, a_acceptedValue, a_ownRound, a_phase, a_promisers, a_learnedRound, a_learnedFrom, a_learnedValue, a_reports, a_votes, a_pr, a_pv, a_sm) (nI o) 1 s (cd_wat (a_members o) (nI o) s K) 0 (a_members o)) ∧ (¬ 0 ≤ r → post 0 (nI K, f_high, f_low, a_crashed, a_config, a_members, a_newestCut, a_myVote, a_promised, a_acceptedRound, a_acceptedValue, a_ownRound, a_phase, a_promisers, a_learnedRound, a_learnedFrom, a_learnedValue, a_reports, a_votes, a_pr, a_pv, a_sm))) (nI K, f_high, f_low, a_crashed, a_config, a_members, a_newestCut, a_myVote, a_promised, a_acceptedRound, a_acceptedValue, a_ownRound, a_phase, a_promisers, a_learnedRound, a_learnedFrom, a_learnedValue, a_reports, a_votes, a_pr, a_pv, a_sm))) :
    ∀ d r, r + d = K → wY_observe_43 post (nI o) s (nI K) f_high f_low a_crashed a_config a_members a_newestCut a_myVote a_promised a_acceptedRound a_acceptedValue a_ownRound a_phase a_promisers a_learnedRound a_learnedFrom a_learnedValue a_reports a_votes a_pr a_pv a_sm (d + 1) (cd_wat (a_members o) (nI o) s r) (nI r) := by
  intro d
  induction d with
  | zero =>
    intro r hr
    have e : r = K := by omega
    subst e
    refine br_t (nI_le (Nat.le_refl r) (by omega)) ?_
    rw [cd_cl ho]
    exact h
  | succ d ih =>
    intro r hr
    have ih := ih (r + 1) (by omega)
    refine br_f (nI_ge (by omega) (by omega)) ⟨cd_vi ho, yw_obs ?_⟩
    rw [cd_cl ho]
    by_cases c : cd_obs (a_members o) s (nI r) = nI o
    · have e : cd_wat (a_members o) (nI o) s (r + 1) = cd_wat (a_members o) (nI o) s r ||| (1 <<< (nI r &&& 31)) := if_pos c
      rw [e] at ih
      exact br_t c (nm_e (nm_r (nI_1 r) ih))
    · have e : cd_wat (a_members o) (nI o) s (r + 1) = cd_wat (a_members o) (nI o) s r := if_neg c
      rw [e] at ih
      exact br_f c (nm_r (nI_1 r) ih)
end CD16
section CD16b
theorem i_vc_observe {k : Nat} {u : SX} {v : SY} (I : i_Rel k u v) (hk : k + 4 ≤ 2052) (v1 : Int32) (v2 : Int32) : wpX_observe (fun r u' => wpY_observe (fun r' v' => r' = r ∧ i_Rel (k + 4) u' v') v v1 v2) u v1 v2 := by
  obtain ⟨f_rings, f_high, f_low, a_crashed, a_config, a_members, a_newestCut, a_reports, a_votes, a_myVote, a_promised, a_acceptedRound, a_acceptedValue, a_ownRound, a_phase, a_promisers, a_promiserRound, a_promiserValue, a_learnedRound, a_learnedFrom, a_learnedValue, a_slots⟩ := u
  obtain ⟨a_pr, a_pv, a_sm, rfl, hK, Q, S⟩ := I
  have R : cy_R (f_rings, f_high, f_low, a_crashed, a_config, a_members, a_newestCut, a_reports, a_votes, a_myVote, a_promised, a_acceptedRound, a_acceptedValue, a_ownRound, a_phase, a_promisers, a_promiserRound, a_promiserValue, a_learnedRound, a_learnedFrom, a_learnedValue, a_slots) (f_rings, f_high, f_low, a_crashed, a_config, a_members, a_newestCut, a_myVote, a_promised, a_acceptedRound, a_acceptedValue, a_ownRound, a_phase, a_promisers, a_learnedRound, a_learnedFrom, a_learnedValue, a_reports, a_votes, a_pr, a_pv, a_sm) := ⟨a_pr, a_pv, a_sm, rfl, hK, Q, S⟩
  obtain ⟨K, hK6, rfl⟩ := hK
  unfold wpX_observe
  dsimp only
  rcases cd_pb v1 with b | ⟨o, ho, rfl⟩
  · refine xw_isN b (br_t rfl ?_)
    unfold wpY_observe
    exact yA_no b ⟨rfl, R⟩
  rcases cd_pb v2 with b | ⟨s, hs, rfl⟩
  · refine xw_isP ho (br_f (by decide) (xw_isN b (br_t rfl ?_)))
    unfold wpY_observe
    exact yA_ok ho (yA_no b ⟨rfl, R⟩)
  refine xw_isP ho (br_f (by decide) (xw_isP hs (br_f (by decide) ?_)))
  by_cases c : nI o = nI s
  · refine br_t c ?_
    unfold wpY_observe
    exact yA_ok ho (yA_ok hs (br_t c ⟨rfl, R⟩))
  refine br_f c (xw_stt ho ?_)
  by_cases c1 : cd_stt (a_crashed o) (a_members o) o = 1
  rotate_left
  · refine br_f c1 ?_
    unfold wpY_observe
    exact yA_ok ho (yA_ok hs (br_f c (yw_stt ho (br_f c1 ⟨rfl, R⟩))))
  refine br_t c1 (xw_wat ho hK6 rfl ?_)
  have Yp : ∀ (post : Int32 → SY → Prop), ((cd_wat (a_members o) (nI o) (nI s) K = 0 → post 0 (nI K, f_high, f_low, a_crashed, a_config, a_members, a_newestCut, a_myVote, a_promised, a_acceptedRound, a_acceptedValue, a_ownRound, a_phase, a_promisers, a_learnedRound, a_learnedFrom, a_learnedValue, a_reports, a_votes, a_pr, a_pv, a_sm)) ∧ (¬ cd_wat (a_members o) (nI o) (nI s) K = 0 → wpY_freeSlot (fun r => (0 ≤ r → vp_in (nI o) 16 ∧ wpY_send (post 1) (nI K, f_high, f_low, a_crashed, a_config, a_members, a_newestCut, a_myVote, a_promised, a_acceptedRound, a_acceptedValue, a_ownRound, a_phase, a_promisers, a_learnedRound, a_learnedFrom, a_learnedValue, a_reports, a_votes, a_pr, a_pv, a_sm) (nI o) 1 (nI s) (cd_wat (a_members o) (nI o) (nI s) K) 0 (a_members o)) ∧ (¬ 0 ≤ r → post 0 (nI K, f_high, f_low, a_crashed, a_config, a_members, a_newestCut, a_myVote, a_promised, a_acceptedRound, a_acceptedValue, a_ownRound, a_phase, a_promisers, a_learnedRound, a_learnedFrom, a_learnedValue, a_reports, a_votes, a_pr, a_pv, a_sm))) (nI K, f_high, f_low, a_crashed, a_config, a_members, a_newestCut, a_myVote, a_promised, a_acceptedRound, a_acceptedValue, a_ownRound, a_phase, a_promisers, a_learnedRound, a_learnedFrom, a_learnedValue, a_reports, a_votes, a_pr, a_pv, a_sm))) → wpY_observe post (nI K, f_high, f_low, a_crashed, a_config, a_members, a_newestCut, a_myVote, a_promised, a_acceptedRound, a_acceptedValue, a_ownRound, a_phase, a_promisers, a_learnedRound, a_learnedFrom, a_learnedValue, a_reports, a_votes, a_pr, a_pv, a_sm) (nI o) (nI s) := by
    intro post h
    unfold wpY_observe
    exact yA_ok ho (yA_ok hs (br_f c (yw_stt ho (br_t c1 ⟨K + 1, yr_obsL ho hK6 h K 0 (by omega)⟩))))
  by_cases c2 : cd_wat (a_members o) (nI o) (nI s) K = 0
  · exact br_t c2 (Yp _ (br_t c2 ⟨rfl, R⟩))
  refine br_f c2 (xw_free ?_)
  have hf : cd_fr a_sm 32 0 = cd_fr a_slots 32 0 := cd_fr_eq (fun i hi => (S i (by omega)).1)
  cases e : cd_fr a_slots 32 0 with
  | none =>
    refine br_t rfl (Yp _ (br_f c2 (yw_free ?_)))
    rw [hf, e]
    exact br_f (by decide) ⟨rfl, R⟩
  | some i =>
    have hi := (cd_fr_in e).1
    refine br_f (cd_ne1 (by omega)) ⟨cd_vi ho, ?_⟩
    rw [cd_cl ho]
    refine xw_send ho (Yp _ (br_f c2 (yw_free ?_)))
    rw [hf, e]
    exact br_t (nI_pos' (by omega)) ⟨cd_vi ho, yr_send R ho (fun _ => ⟨s, hs, rfl⟩) (fun v' R' => ⟨rfl, R'⟩)⟩
end CD16b
