section CD17
theorem i_vc_paxos {k : Nat} {u : SX} {v : SY} (I : i_Rel k u v) (hk : k + 4 ≤ 2052) (v1 : Int32) (v2 : Int32) : wpX_paxos (fun r => wpY_paxos (fun r' => r' = r ∧ i_Rel (k + 4) u v) v v1 v2) u v1 v2 := by
  obtain ⟨f_rings, f_high, f_low, a_crashed, a_config, a_members, a_newestCut, a_reports, a_votes, a_myVote, a_promised, a_acceptedRound, a_acceptedValue, a_ownRound, a_phase, a_promisers, a_promiserRound, a_promiserValue, a_learnedRound, a_learnedFrom, a_learnedValue, a_slots⟩ := u
  obtain ⟨a_pr, a_pv, a_sm, rfl, hK, Q, S⟩ := I
  have R : cy_R (f_rings, f_high, f_low, a_crashed, a_config, a_members, a_newestCut, a_reports, a_votes, a_myVote, a_promised, a_acceptedRound, a_acceptedValue, a_ownRound, a_phase, a_promisers, a_promiserRound, a_promiserValue, a_learnedRound, a_learnedFrom, a_learnedValue, a_slots) (f_rings, f_high, f_low, a_crashed, a_config, a_members, a_newestCut, a_myVote, a_promised, a_acceptedRound, a_acceptedValue, a_ownRound, a_phase, a_promisers, a_learnedRound, a_learnedFrom, a_learnedValue, a_reports, a_votes, a_pr, a_pv, a_sm) := ⟨a_pr, a_pv, a_sm, rfl, hK, Q, S⟩
  unfold wpX_paxos wpY_paxos
  dsimp only
  rcases cd_pb v1 with b | ⟨p, hp, rfl⟩
  · exact xw_isN b (br_t rfl (yB_no b ⟨rfl, R⟩))
  have n : ∀ j : Int32, 0 ≤ j → j ≤ 7 → v2 < 0 ∨ 7 < v2 → ¬ v2 = j := by
    intro j h0 h7 h e
    subst e
    rcases h with h | h
    · exact Int32.not_lt.mpr h0 h
    · exact Int32.not_lt.mpr h7 h
  refine xw_isP hp (br_f (by decide) ?_)
  by_cases c0 : v2 < 0
  · have m := fun j a b => n j a b (Or.inl c0)
    exact br_t c0 (yB_ok hp (br_f (m 0 (by decide) (by decide)) (br_f (m 1 (by decide) (by decide)) (br_f (m 2 (by decide) (by decide)) (br_f (m 3 (by decide) (by decide)) (br_f (m 4 (by decide) (by decide)) (br_f (m 5 (by decide) (by decide)) (br_f (m 6 (by decide) (by decide)) (br_f (m 7 (by decide) (by decide)) ⟨rfl, R⟩)))))))))
  refine br_f c0 ?_
  by_cases c7 : 7 < v2
  · have m := fun j a b => n j a b (Or.inr c7)
    exact br_t c7 (yB_ok hp (br_f (m 0 (by decide) (by decide)) (br_f (m 1 (by decide) (by decide)) (br_f (m 2 (by decide) (by decide)) (br_f (m 3 (by decide) (by decide)) (br_f (m 4 (by decide) (by decide)) (br_f (m 5 (by decide) (by decide)) (br_f (m 6 (by decide) (by decide)) (br_f (m 7 (by decide) (by decide)) ⟨rfl, R⟩)))))))))
  refine br_f c7 ?_
  by_cases k0 : v2 = 0
  · exact br_t k0 ⟨cd_vi hp, yB_ok hp (br_t k0 ⟨cd_vi hp, rfl, R⟩)⟩
  refine br_f k0 ?_
  by_cases k1 : v2 = 1
  · exact br_t k1 ⟨cd_vi hp, yB_ok hp (br_f k0 (br_t k1 ⟨cd_vi hp, rfl, R⟩))⟩
  refine br_f k1 ?_
  by_cases k2 : v2 = 2
  · exact br_t k2 ⟨cd_vi hp, yB_ok hp (br_f k0 (br_f k1 (br_t k2 ⟨cd_vi hp, rfl, R⟩)))⟩
  refine br_f k2 ?_
  by_cases k3 : v2 = 3
  · exact br_t k3 ⟨cd_vi hp, yB_ok hp (br_f k0 (br_f k1 (br_f k2 (br_t k3 ⟨cd_vi hp, rfl, R⟩))))⟩
  refine br_f k3 ?_
  by_cases k4 : v2 = 4
  · exact br_t k4 ⟨cd_vi hp, yB_ok hp (br_f k0 (br_f k1 (br_f k2 (br_f k3 (br_t k4 ⟨cd_vi hp, rfl, R⟩)))))⟩
  refine br_f k4 ?_
  by_cases k5 : v2 = 5
  · exact br_t k5 ⟨cd_vi hp, yB_ok hp (br_f k0 (br_f k1 (br_f k2 (br_f k3 (br_f k4 (br_t k5 ⟨cd_vi hp, rfl, R⟩))))))⟩
  refine br_f k5 ?_
  by_cases k6 : v2 = 6
  · exact br_t k6 ⟨cd_vi hp, xw_ct (yB_ok hp (br_f k0 (br_f k1 (br_f k2 (br_f k3 (br_f k4 (br_f k5 (br_t k6 ⟨cd_vi hp, yw_ct ⟨rfl, R⟩⟩))))))))⟩
  refine br_f k6 ?_
  by_cases k7 : v2 = 7
  · exact br_t k7 ⟨cd_vi hp, xw_ct (yB_ok hp (br_f k0 (br_f k1 (br_f k2 (br_f k3 (br_f k4 (br_f k5 (br_f k6 (br_t k7 ⟨cd_vi hp, yw_ct ⟨rfl, R⟩⟩)))))))))⟩
  refine br_f k7 ?_
  exact trivial
end CD17
