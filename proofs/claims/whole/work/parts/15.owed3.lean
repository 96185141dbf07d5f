section CD15
theorem i_vc_fallback {k : Nat} {u : SX} {v : SY} (I : i_Rel k u v) (hk : k + 4 ≤ 2052) (v1 : Int32) : wpX_fallback (fun r u' => wpY_fallback (fun r' v' => r' = r ∧ i_Rel (k + 4) u' v') v v1) u v1 := by
  obtain ⟨f_rings, f_high, f_low, a_crashed, a_config, a_members, a_newestCut, a_reports, a_votes, a_myVote, a_promised, a_acceptedRound, a_acceptedValue, a_ownRound, a_phase, a_promisers, a_promiserRound, a_promiserValue, a_learnedRound, a_learnedFrom, a_learnedValue, a_slots⟩ := u
  obtain ⟨a_pr, a_pv, a_sm, rfl, hK, Q, S⟩ := I
  have R : cy_R (f_rings, f_high, f_low, a_crashed, a_config, a_members, a_newestCut, a_reports, a_votes, a_myVote, a_promised, a_acceptedRound, a_acceptedValue, a_ownRound, a_phase, a_promisers, a_promiserRound, a_promiserValue, a_learnedRound, a_learnedFrom, a_learnedValue, a_slots) (f_rings, f_high, f_low, a_crashed, a_config, a_members, a_newestCut, a_myVote, a_promised, a_acceptedRound, a_acceptedValue, a_ownRound, a_phase, a_promisers, a_learnedRound, a_learnedFrom, a_learnedValue, a_reports, a_votes, a_pr, a_pv, a_sm) := ⟨a_pr, a_pv, a_sm, rfl, hK, Q, S⟩
  rcases cd_pb v1 with b | ⟨p, hp, rfl⟩
  · unfold wpX_fallback wpY_fallback
    exact xw_isN b (br_t rfl (yB_no b ⟨rfl, R⟩))
  · unfold wpX_fallback
    dsimp only
    refine xw_isP hp (br_f (by decide) (xw_stt hp ?_))
    have hf : cd_fr a_sm 32 0 = cd_fr a_slots 32 0 := cd_fr_eq (fun i hi => (S i (by omega)).1)
    by_cases c : cd_stt (a_crashed p) (a_members p) p = 1
    · refine br_t c (xw_free ?_)
      cases e : cd_fr a_slots 32 0 with
      | none =>
        refine br_t rfl ?_
        unfold wpY_fallback
        refine yB_ok hp (yw_stt hp (br_t c (yw_free ?_)))
        rw [hf, e]
        exact br_f (by decide) ⟨rfl, R⟩
      | some i =>
        have hi := (cd_fr_in e).1
        refine br_f (cd_ne1 (by omega)) ⟨cd_vi hp, cd_vi hp, ?_⟩
        have Yc : ∀ (post : Int32 → SY → Prop) (z0 : Int32), (∀ v', cy_R (cx_fb (f_rings, f_high, f_low, a_crashed, a_config, a_members, a_newestCut, a_reports, a_votes, a_myVote, a_promised, a_acceptedRound, a_acceptedValue, a_ownRound, a_phase, a_promisers, a_promiserRound, a_promiserValue, a_learnedRound, a_learnedFrom, a_learnedValue, a_slots) p ((z0 / 16 + 1) * 16 + nI p)) v' → post 1 v') → wY_fallback_60 post (nI p) z0 f_rings f_high f_low a_crashed a_config a_members a_newestCut a_myVote a_promised a_acceptedRound a_acceptedValue a_ownRound a_phase a_promisers a_learnedRound a_learnedFrom a_learnedValue a_reports a_votes a_pr a_pv a_sm := by
          intro post z0 h
          unfold wY_fallback_60
          rw [cd_cl hp]
          have Q' : cy_Q (upd a_promisers p 0) a_promiserRound a_promiserValue a_pr a_pv := by
            intro a q ha hq hb
            by_cases e : a = p
            · subst e
              rw [pk_us, b_0] at hb
              exact absurd hb (by decide)
            · rw [pk_un e] at hb
              exact Q a q ha hq hb
          refine ⟨by decide, cd_vi hp, nm_e ⟨cd_vi hp, nm_e ⟨cd_vi hp, nm_e ⟨cd_vi hp, cd_vi hp, ?_⟩⟩⟩⟩
          rw [pk_us]
          exact yr_send ⟨a_pr, a_pv, a_sm, rfl, hK, Q', S⟩ hp (fun z => absurd z (by decide)) (fun v' R' => cy_eta (post := post 1) (h v' R'))
        have Xc : ∀ (post : Int32 → SX → Prop) (z0 : Int32), post 1 (cx_fb (f_rings, f_high, f_low, a_crashed, a_config, a_members, a_newestCut, a_reports, a_votes, a_myVote, a_promised, a_acceptedRound, a_acceptedValue, a_ownRound, a_phase, a_promisers, a_promiserRound, a_promiserValue, a_learnedRound, a_learnedFrom, a_learnedValue, a_slots) p ((z0 / 16 + 1) * 16 + nI p)) → wX_fallback_56 post (nI p) z0 f_rings f_high f_low a_crashed a_config a_members a_newestCut a_reports a_votes a_myVote a_promised a_acceptedRound a_acceptedValue a_ownRound a_phase a_promisers a_promiserRound a_promiserValue a_learnedRound a_learnedFrom a_learnedValue a_slots := by
          intro post z0 h
          unfold wX_fallback_56
          rw [cd_cl hp]
          refine ⟨by decide, cd_vi hp, nm_e ⟨cd_vi hp, nm_e ⟨cd_vi hp, nm_e ⟨cd_vi hp, cd_vi hp, ?_⟩⟩⟩⟩
          rw [pk_us]
          exact xw_send hp h
        rw [cd_cl hp]
        have Yp : ∀ (post : Int32 → SY → Prop), ((a_promised p ≤ a_ownRound p → wY_fallback_60 post (nI p) (a_ownRound p) f_rings f_high f_low a_crashed a_config a_members a_newestCut a_myVote a_promised a_acceptedRound a_acceptedValue a_ownRound a_phase a_promisers a_learnedRound a_learnedFrom a_learnedValue a_reports a_votes a_pr a_pv a_sm) ∧ (¬ a_promised p ≤ a_ownRound p → wY_fallback_60 post (nI p) (a_promised p) f_rings f_high f_low a_crashed a_config a_members a_newestCut a_myVote a_promised a_acceptedRound a_acceptedValue a_ownRound a_phase a_promisers a_learnedRound a_learnedFrom a_learnedValue a_reports a_votes a_pr a_pv a_sm)) → wpY_fallback post (f_rings, f_high, f_low, a_crashed, a_config, a_members, a_newestCut, a_myVote, a_promised, a_acceptedRound, a_acceptedValue, a_ownRound, a_phase, a_promisers, a_learnedRound, a_learnedFrom, a_learnedValue, a_reports, a_votes, a_pr, a_pv, a_sm) (nI p) := by
          intro post h
          unfold wpY_fallback
          dsimp only
          refine yB_ok hp (yw_stt hp (br_t c (yw_free ?_)))
          rw [hf, e, cd_cl hp]
          exact br_t (nI_pos' (by omega)) ⟨cd_vi hp, cd_vi hp, br_c (fun z => ⟨cd_vi hp, h.1 z⟩) (fun z => ⟨cd_vi hp, h.2 z⟩)⟩
        by_cases c2 : a_promised p ≤ a_ownRound p
        · exact br_t c2 ⟨cd_vi hp, Xc _ _ (Yp _ (br_t c2 (Yc _ _ (fun v' R' => ⟨rfl, R'⟩))))⟩
        · exact br_f c2 ⟨cd_vi hp, Xc _ _ (Yp _ (br_f c2 (Yc _ _ (fun v' R' => ⟨rfl, R'⟩))))⟩
    · refine br_f c ?_
      unfold wpY_fallback
      exact yB_ok hp (yw_stt hp (br_f c ⟨rfl, R⟩))
end CD15
