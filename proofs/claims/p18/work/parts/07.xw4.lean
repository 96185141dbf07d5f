section CD7
variable {f_rings f_high f_low : Int32} {a_crashed a_config a_members a_newestCut a_reports a_votes a_myVote a_promised a_acceptedRound a_acceptedValue a_ownRound a_phase a_promisers a_promiserRound a_promiserValue a_learnedRound a_learnedFrom a_learnedValue a_slots : Nat → Int32}
theorem xw_awt {post : Int32 → Prop} {i p : Nat} (hi : i < 32) (hp : p < 16) (h0 : bt (a_slots (i * 7 + 6)) p = false → post 0) (h1 : bt (a_slots (i * 7 + 6)) p = true → post 1) : wpX_awaits post (f_rings, f_high, f_low, a_crashed, a_config, a_members, a_newestCut, a_reports, a_votes, a_myVote, a_promised, a_acceptedRound, a_acceptedValue, a_ownRound, a_phase, a_promisers, a_promiserRound, a_promiserValue, a_learnedRound, a_learnedFrom, a_learnedValue, a_slots) (nI i) (nI p) := by
  unfold wpX_awaits
  dsimp only
  rw [cd_i76, cd_c7 hi (by omega)]
  exact br_f (nI_pos (by omega)) (br_f (nI_ge (b := 32) hi (by decide)) (xw_isP hp (br_f (by decide) ⟨cd_v7 hi (by omega), xw_has (by omega) (fun hb => ⟨rfl, h0 hb⟩) (fun hb => ⟨rfl, h1 hb⟩)⟩)))
theorem xw_isN {post : Int32 → Prop} {x : Int32} (hx : x < 0 ∨ (¬ x < 0 ∧ (16 : Int32) ≤ x ∧ (15 : Int32) < x ∧ ¬ x ≤ 15)) (h : post 0) : wpX_isProcess post () x := by
  unfold wpX_isProcess
  rcases hx with a | a
  · exact br_t a h
  · exact br_f a.1 (br_t a.2.1 h)
theorem cd_bt0 {x : Int32} {p : Nat} (h : bt x p = true) : ¬ x = 0 := by
  intro e
  rw [e, b_0] at h
  exact absurd h (by decide)
theorem xw_del {post : Int32 → St2 → Prop} {i p : Nat} (hi : i < 32) (hp : p < 16) (hb : bt (a_slots (i * 7 + 6)) p = true) (hq : ∃ q, q < 16 ∧ a_slots (i * 7 + 1) = nI q) (hx : a_slots (i * 7) = 1 → ∃ s, s < 16 ∧ a_slots (i * 7 + 3) = nI s) (h : post 1 (cx_del (f_rings, f_high, f_low, a_crashed, a_config, a_members, a_newestCut, a_reports, a_votes, a_myVote, a_promised, a_acceptedRound, a_acceptedValue, a_ownRound, a_phase, a_promisers, a_promiserRound, a_promiserValue, a_learnedRound, a_learnedFrom, a_learnedValue, a_slots) i p)) : wpX_deliver post (f_rings, f_high, f_low, a_crashed, a_config, a_members, a_newestCut, a_reports, a_votes, a_myVote, a_promised, a_acceptedRound, a_acceptedValue, a_ownRound, a_phase, a_promisers, a_promiserRound, a_promiserValue, a_learnedRound, a_learnedFrom, a_learnedValue, a_slots) (nI i) (nI p) := by
  unfold wpX_deliver
  refine xw_awt hi hp (fun z => by rw [hb] at z; exact absurd z (by decide)) (fun _ => ?_)
  refine br_f (by decide) (nm_r (cd_i7 i) ?_)
  rw [cd_a0, cd_a1, cd_a2, cd_a3, cd_a4, cd_a5, cd_cl hp]
  rw [cd_c7 (k := 1) hi (by omega), cd_c7 (k := 2) hi (by omega), cd_c7 (k := 3) hi (by omega), cd_c7 (k := 4) hi (by omega), cd_c7 (k := 5) hi (by omega), show (nI (i * 7)).toNatClampNeg = i * 7 from nI_clamp (by omega)]
  obtain ⟨q, hq16, eq⟩ := hq
  unfold cx_del at h
  dsimp only at h
  rw [eq, cd_cl hq16] at h
  refine ⟨vp_in_nI (by omega) (by decide), nm_e ⟨cd_v7 hi (by omega), nm_r eq ⟨cd_v7 hi (by omega), nm_e ⟨cd_v7 hi (by omega), nm_e ⟨cd_v7 hi (by omega), nm_e ⟨cd_v7 hi (by omega), nm_e ?_⟩⟩⟩⟩⟩⟩
  refine xw_off hi ?_
  unfold cx_off at h ⊢
  unfold cx_recv at h
  dsimp only at h ⊢
  refine ⟨cd_vi hp, ?_⟩
  by_cases c : a_crashed p = 0
  · rw [if_pos c] at h
    refine br_t c ?_
    by_cases k : a_slots (i * 7) = 7
    · rw [if_pos k] at h
      refine br_t k ⟨cd_vi hp, ?_⟩
      by_cases g : a_slots (i * 7 + 2) ≤ a_config p
      · rw [if_neg (Int32.not_lt.mpr g)] at h
        exact br_t g h
      · rw [if_pos (Int32.not_le.mp g)] at h
        exact br_f g (xw_inst hp h)
    · rw [if_neg k] at h
      refine br_f k (xw_stt hp ?_)
      unfold cd_stt
      rw [if_pos c]
      by_cases hm : bt (a_members p) p = true
      · rw [if_pos hm] at h ⊢
        exact br_t rfl (xw_mem hp hq16 hx (cx_eta (post := post 1) h))
      · rw [if_neg hm] at h ⊢
        exact br_f (by decide) h
  · rw [if_neg c] at h
    exact br_f c h
end CD7
