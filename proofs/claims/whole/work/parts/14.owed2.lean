section CD14
theorem xw_awtN {post : Int32 → Prop} {u : SX} {a b : Int32} (h : cd_sbad a ∨ ((∃ i, i < 32 ∧ a = nI i) ∧ cd_bad b)) (h0 : post 0) : wpX_awaits post u a b := by
  obtain ⟨f_rings, f_high, f_low, a_crashed, a_config, a_members, a_newestCut, a_reports, a_votes, a_myVote, a_promised, a_acceptedRound, a_acceptedValue, a_ownRound, a_phase, a_promisers, a_promiserRound, a_promiserValue, a_learnedRound, a_learnedFrom, a_learnedValue, a_slots⟩ := u
  unfold wpX_awaits
  rcases h with h | ⟨⟨i, hi, rfl⟩, h⟩
  · exact yS_no h h0
  · exact yS_ok hi (xw_isN h (br_t rfl h0))
theorem i_vc_drop {k : Nat} {u : SX} {v : SY} (I : i_Rel k u v) (hk : k + 4 ≤ 2052) (v1 : Int32) (v2 : Int32) : wpX_drop (fun r u' => wpY_drop (fun r' v' => r' = r ∧ i_Rel (k + 4) u' v') v v1 v2) u v1 v2 := by
  obtain ⟨f_rings, f_high, f_low, a_crashed, a_config, a_members, a_newestCut, a_reports, a_votes, a_myVote, a_promised, a_acceptedRound, a_acceptedValue, a_ownRound, a_phase, a_promisers, a_promiserRound, a_promiserValue, a_learnedRound, a_learnedFrom, a_learnedValue, a_slots⟩ := u
  obtain ⟨a_pr, a_pv, a_sm, rfl, hK, Q, S⟩ := I
  have R : cy_R (f_rings, f_high, f_low, a_crashed, a_config, a_members, a_newestCut, a_reports, a_votes, a_myVote, a_promised, a_acceptedRound, a_acceptedValue, a_ownRound, a_phase, a_promisers, a_promiserRound, a_promiserValue, a_learnedRound, a_learnedFrom, a_learnedValue, a_slots) (f_rings, f_high, f_low, a_crashed, a_config, a_members, a_newestCut, a_myVote, a_promised, a_acceptedRound, a_acceptedValue, a_ownRound, a_phase, a_promisers, a_learnedRound, a_learnedFrom, a_learnedValue, a_reports, a_votes, a_pr, a_pv, a_sm) := ⟨a_pr, a_pv, a_sm, rfl, hK, Q, S⟩
  unfold wpX_drop
  dsimp only
  rcases cd_sb v1 with b | ⟨i, hi, rfl⟩
  · refine xw_awtN (Or.inl b) (br_t rfl ?_)
    unfold wpY_drop
    exact yS_no b ⟨rfl, R⟩
  · rcases cd_pb v2 with b | ⟨p, hp, rfl⟩
    · refine xw_awtN (Or.inr ⟨⟨i, hi, rfl⟩, b⟩) (br_t rfl ?_)
      unfold wpY_drop
      exact yS_ok hi (yB_no b ⟨rfl, R⟩)
    · obtain ⟨h1, h2, h3⟩ := S i hi
      refine xw_awt hi hp (fun hb => br_t rfl ?_) (fun hb => br_f (by decide) (xw_off hi ?_))
      · unfold wpY_drop
        dsimp only
        rw [cd_i76, cd_c7 hi (show 6 < 7 by omega), h1]
        exact yS_ok hi (yB_ok hp ⟨cd_v7 hi (by omega), yw_has (by omega) (fun _ => br_t rfl ⟨rfl, R⟩) (fun hb2 => by rw [hb] at hb2; exact absurd hb2 (by decide))⟩)
      · have S' := cy_S_off (p := p) S hi
        unfold wpY_drop cx_off
        dsimp only
        rw [cd_i76, cd_c7 hi (show 6 < 7 by omega)]
        refine yS_ok hi (yB_ok hp ⟨cd_v7 hi (by omega), yw_has (by omega) (fun hb2 => ?_) (fun _ => br_f (by decide) ⟨cd_v7 hi (by omega), cd_v7 hi (by omega), nm_e ⟨rfl, ⟨a_pr, a_pv, _, rfl, hK, Q, S'⟩⟩⟩)⟩)
        rw [h1, hb] at hb2
        exact absurd hb2 (by decide)
theorem i_vc_deliver {k : Nat} {u : SX} {v : SY} (I : i_Rel k u v) (hk : k + 4 ≤ 2052) (v1 : Int32) (v2 : Int32) : wpX_deliver (fun r u' => wpY_deliver (fun r' v' => r' = r ∧ i_Rel (k + 4) u' v') v v1 v2) u v1 v2 := by
  obtain ⟨f_rings, f_high, f_low, a_crashed, a_config, a_members, a_newestCut, a_reports, a_votes, a_myVote, a_promised, a_acceptedRound, a_acceptedValue, a_ownRound, a_phase, a_promisers, a_promiserRound, a_promiserValue, a_learnedRound, a_learnedFrom, a_learnedValue, a_slots⟩ := u
  obtain ⟨a_pr, a_pv, a_sm, rfl, hK, Q, S⟩ := I
  have R : cy_R (f_rings, f_high, f_low, a_crashed, a_config, a_members, a_newestCut, a_reports, a_votes, a_myVote, a_promised, a_acceptedRound, a_acceptedValue, a_ownRound, a_phase, a_promisers, a_promiserRound, a_promiserValue, a_learnedRound, a_learnedFrom, a_learnedValue, a_slots) (f_rings, f_high, f_low, a_crashed, a_config, a_members, a_newestCut, a_myVote, a_promised, a_acceptedRound, a_acceptedValue, a_ownRound, a_phase, a_promisers, a_learnedRound, a_learnedFrom, a_learnedValue, a_reports, a_votes, a_pr, a_pv, a_sm) := ⟨a_pr, a_pv, a_sm, rfl, hK, Q, S⟩
  rcases cd_sb v1 with b | ⟨i, hi, rfl⟩
  · unfold wpX_deliver
    refine xw_awtN (Or.inl b) (br_t rfl ?_)
    unfold wpY_deliver
    exact yS_no b ⟨rfl, R⟩
  · rcases cd_pb v2 with b | ⟨p, hp, rfl⟩
    · unfold wpX_deliver
      refine xw_awtN (Or.inr ⟨⟨i, hi, rfl⟩, b⟩) (br_t rfl ?_)
      unfold wpY_deliver
      exact yS_ok hi (yB_no b ⟨rfl, R⟩)
    · obtain ⟨h1, h2, h3⟩ := S i hi
      cases hb : bt (a_slots (i * 7 + 6)) p
      · unfold wpX_deliver
        refine xw_awt hi hp (fun _ => br_t rfl ?_) (fun hb2 => by rw [hb] at hb2; exact absurd hb2 (by decide))
        unfold wpY_deliver
        dsimp only
        refine yS_ok hi (yB_ok hp (nm_r (cd_i7 i) ?_))
        rw [cd_a6, cd_c7 hi (show 6 < 7 by omega), h1]
        exact ⟨cd_v7 hi (by omega), yw_has (by omega) (fun _ => br_t rfl ⟨rfl, R⟩) (fun hb2 => by rw [hb] at hb2; exact absurd hb2 (by decide))⟩
      · obtain ⟨e, ⟨q, hq, eq⟩, ex⟩ := h3 (cd_bt0 hb)
        refine xw_del hi hp hb ⟨q, hq, eq⟩ ex ?_
        have S' := cy_S_off (p := p) S hi
        unfold wpY_deliver
        dsimp only
        refine yS_ok hi (yB_ok hp (nm_r (cd_i7 i) ?_))
        rw [cd_a1, cd_a2, cd_a3, cd_a4, cd_a5, cd_a6]
        rw [cd_c7 (k := 1) hi (by omega), cd_c7 (k := 2) hi (by omega), cd_c7 (k := 3) hi (by omega), cd_c7 (k := 4) hi (by omega), cd_c7 (k := 5) hi (by omega), cd_c7 (k := 6) hi (by omega), show (nI (i * 7)).toNatClampNeg = i * 7 from nI_clamp (by omega)]
        refine ⟨cd_v7 hi (by omega), yw_has (by omega) (fun hb2 => by rw [h1, hb] at hb2; exact absurd hb2 (by decide)) (fun _ => br_f (by decide) ?_)⟩
        refine ⟨vp_in_nI (by omega) (by decide), nm_r (e 0 (by omega)) ⟨cd_v7 hi (by omega), nm_r ((e 1 (by omega)).trans eq) ⟨cd_v7 hi (by omega), nm_r (e 2 (by omega)) ⟨cd_v7 hi (by omega), nm_r (e 3 (by omega)) ⟨cd_v7 hi (by omega), nm_r (e 4 (by omega)) ⟨cd_v7 hi (by omega), nm_r (e 5 (by omega)) ⟨cd_v7 hi (by omega), cd_v7 hi (by omega), nm_e ?_⟩⟩⟩⟩⟩⟩⟩
        refine br_f (cd_j0 hq) (br_f (cd_ge16 hq) ?_)
        refine yr_recv (q := q) ⟨a_pr, a_pv, _, rfl, hK, Q, S'⟩ hp hq ex (fun v' R' => ?_)
        have R2 : cy_R (cx_del (f_rings, f_high, f_low, a_crashed, a_config, a_members, a_newestCut, a_reports, a_votes, a_myVote, a_promised, a_acceptedRound, a_acceptedValue, a_ownRound, a_phase, a_promisers, a_promiserRound, a_promiserValue, a_learnedRound, a_learnedFrom, a_learnedValue, a_slots) i p) v' := by
          unfold cx_del
          dsimp only
          rw [eq, cd_cl hq]
          exact R'
        exact cy_eta (post := fun v' => 1 = 1 ∧ i_Rel (k + 4) (cx_del (f_rings, f_high, f_low, a_crashed, a_config, a_members, a_newestCut, a_reports, a_votes, a_myVote, a_promised, a_acceptedRound, a_acceptedValue, a_ownRound, a_phase, a_promisers, a_promiserRound, a_promiserValue, a_learnedRound, a_learnedFrom, a_learnedValue, a_slots) i p) v') ⟨rfl, R2⟩
end CD14
