section CD11
variable {f_rings f_high f_low : Int32} {a_crashed a_config a_members a_newestCut a_reports a_votes a_myVote a_promised a_acceptedRound a_acceptedValue a_ownRound a_phase a_promisers a_promiserRound a_promiserValue a_learnedRound a_learnedFrom a_learnedValue a_slots a_pr a_pv a_sm : Nat → Int32}
theorem cy_Q_add {pm pr pv pr' pv' : Nat → Int32} (Q : cy_Q pm pr pv pr' pv') {p q : Nat} (hq : q < 16) {y z : Int32} : cy_Q (upd pm p (pm p ||| (1 <<< (nI q &&& 31)))) (upd pr (p * 16 + q) y) (upd pv (p * 16 + q) z) (upd pr' (p * 16 + q) y) (upd pv' (p * 16 + q) z) := by
  intro a b ha hb hbt
  by_cases e : a * 16 + b = p * 16 + q
  · rw [e, pk_us, pk_us, pk_us, pk_us]
    exact ⟨rfl, rfl⟩
  · rw [pk_un e, pk_un e, pk_un e, pk_un e]
    by_cases e2 : a = p
    · subst e2
      rw [pk_us, b_or, cd_shl1 q (by omega) (by omega), decide_eq_false (by omega), Bool.or_false] at hbt
      exact Q a b ha hb hbt
    · rw [pk_un e2] at hbt
      exact Q a b ha hb hbt
theorem yr_prom {post : SY → Prop} {v : SY} (R : cy_R (f_rings, f_high, f_low, a_crashed, a_config, a_members, a_newestCut, a_reports, a_votes, a_myVote, a_promised, a_acceptedRound, a_acceptedValue, a_ownRound, a_phase, a_promisers, a_promiserRound, a_promiserValue, a_learnedRound, a_learnedFrom, a_learnedValue, a_slots) v) {p q : Nat} (hp : p < 16) (hq : q < 16) {x y z : Int32} (h : ∀ v', cy_R (cx_prom (f_rings, f_high, f_low, a_crashed, a_config, a_members, a_newestCut, a_reports, a_votes, a_myVote, a_promised, a_acceptedRound, a_acceptedValue, a_ownRound, a_phase, a_promisers, a_promiserRound, a_promiserValue, a_learnedRound, a_learnedFrom, a_learnedValue, a_slots) p q x y z) v' → post v') : wpY_onPromise post v (nI p) (nI q) x y z (cd_cq (cd_ct (a_members p))) (cd_en (cd_ct (a_members p))) := by
  obtain ⟨a_pr, a_pv, a_sm, rfl, hK, Q, S⟩ := R
  unfold wpY_onPromise
  dsimp only
  rw [cd_cl hp, cd_cl16 hp hq]
  refine ⟨cd_vi hp, ?_⟩
  unfold cx_prom at h
  dsimp only at h
  by_cases c1 : a_phase p = 1
  · refine br_t c1 ⟨cd_vi hp, ?_⟩
    by_cases c2 : x = a_ownRound p
    · refine br_t c2 ⟨cd_vi hp, yw_has (by omega) (fun hb => ?_) (fun hb => ?_)⟩
      · rw [if_pos ⟨c1, c2, hb⟩] at h
        refine br_t rfl ⟨cd_vi hp, cd_vi hp, nm_e ⟨cd_vi16 hp hq, nm_e ⟨cd_vi16 hp hq, nm_e ⟨cd_vi hp, ?_⟩⟩⟩⟩
        rw [pk_us]
        refine yw_ct ?_
        by_cases c3 : cd_ct (a_promisers p ||| (1 <<< (nI q &&& 31))) = cd_cq (cd_ct (a_members p))
        · rw [if_pos c3] at h
          exact br_t c3 (yr_choose ⟨_, _, a_sm, rfl, hK, cy_Q_add Q hq, S⟩ hp (fun v' R' => cy_eta (h v' R')))
        · rw [if_neg c3] at h
          exact br_f c3 (h _ ⟨_, _, a_sm, rfl, hK, cy_Q_add Q hq, S⟩)
      · rw [if_neg (fun w => by rw [hb] at w; exact absurd w.2.2 (by decide))] at h
        exact br_f (by decide) (h _ ⟨a_pr, a_pv, a_sm, rfl, hK, Q, S⟩)
    · rw [if_neg (fun w => c2 w.2.1)] at h
      exact br_f c2 (h _ ⟨a_pr, a_pv, a_sm, rfl, hK, Q, S⟩)
  · rw [if_neg (fun w => c1 w.1)] at h
    exact br_f c1 (h _ ⟨a_pr, a_pv, a_sm, rfl, hK, Q, S⟩)
end CD11
section CD11b
variable {f_kk f_hh f_ll : Int32} {a_crashed a_cfg a_mem a_lastCut a_myVote a_promised a_accRnd a_accVal a_crnd a_phase a_prom a_lrnd a_lset a_lval a_rep a_vote a_pr a_pv a_sm : Nat → Int32}
theorem yt_292 {post : SY → Prop} {x1 k x3 x5 x6 x10 : Int32} (h6 : ¬ k = 6) (h : post (f_kk, f_hh, f_ll, a_crashed, a_cfg, a_mem, a_lastCut, a_myVote, a_promised, a_accRnd, a_accVal, a_crnd, a_phase, a_prom, a_lrnd, a_lset, a_lval, a_rep, a_vote, a_pr, a_pv, a_sm)) : wY_receive_292 post x1 k x3 x5 x6 x10 f_kk f_hh f_ll a_crashed a_cfg a_mem a_lastCut a_myVote a_promised a_accRnd a_accVal a_crnd a_phase a_prom a_lrnd a_lset a_lval a_rep a_vote a_pr a_pv a_sm := br_f h6 h
theorem yt_234 {post : SY → Prop} {x1 k x3 x5 x6 x10 : Int32} (h5 : ¬ k = 5) (h6 : ¬ k = 6) (h : post (f_kk, f_hh, f_ll, a_crashed, a_cfg, a_mem, a_lastCut, a_myVote, a_promised, a_accRnd, a_accVal, a_crnd, a_phase, a_prom, a_lrnd, a_lset, a_lval, a_rep, a_vote, a_pr, a_pv, a_sm)) : wY_receive_234 post x1 k x3 x5 x6 x10 f_kk f_hh f_ll a_crashed a_cfg a_mem a_lastCut a_myVote a_promised a_accRnd a_accVal a_crnd a_phase a_prom a_lrnd a_lset a_lval a_rep a_vote a_pr a_pv a_sm := br_f h5 (yt_292 h6 h)
theorem yt_207 {post : SY → Prop} {x1 k x3 x5 x6 x7 x8 x9 x10 : Int32} (h4 : ¬ k = 4) (h5 : ¬ k = 5) (h6 : ¬ k = 6) (h : post (f_kk, f_hh, f_ll, a_crashed, a_cfg, a_mem, a_lastCut, a_myVote, a_promised, a_accRnd, a_accVal, a_crnd, a_phase, a_prom, a_lrnd, a_lset, a_lval, a_rep, a_vote, a_pr, a_pv, a_sm)) : wY_receive_207 post x1 k x3 x5 x6 x7 x8 x9 x10 f_kk f_hh f_ll a_crashed a_cfg a_mem a_lastCut a_myVote a_promised a_accRnd a_accVal a_crnd a_phase a_prom a_lrnd a_lset a_lval a_rep a_vote a_pr a_pv a_sm := br_f h4 (yt_234 h5 h6 h)
theorem yt_160 {post : SY → Prop} {x1 k x3 x5 x6 x7 x8 x9 x10 : Int32} (h3 : ¬ k = 3) (h4 : ¬ k = 4) (h5 : ¬ k = 5) (h6 : ¬ k = 6) (h : post (f_kk, f_hh, f_ll, a_crashed, a_cfg, a_mem, a_lastCut, a_myVote, a_promised, a_accRnd, a_accVal, a_crnd, a_phase, a_prom, a_lrnd, a_lset, a_lval, a_rep, a_vote, a_pr, a_pv, a_sm)) : wY_receive_160 post x1 k x3 x5 x6 x7 x8 x9 x10 f_kk f_hh f_ll a_crashed a_cfg a_mem a_lastCut a_myVote a_promised a_accRnd a_accVal a_crnd a_phase a_prom a_lrnd a_lset a_lval a_rep a_vote a_pr a_pv a_sm := br_f h3 (yt_207 h4 h5 h6 h)
theorem yt_145 {post : SY → Prop} {x1 k x3 x5 x6 x7 x8 x9 x10 : Int32} (h2 : ¬ k = 2) (h3 : ¬ k = 3) (h4 : ¬ k = 4) (h5 : ¬ k = 5) (h6 : ¬ k = 6) (h : post (f_kk, f_hh, f_ll, a_crashed, a_cfg, a_mem, a_lastCut, a_myVote, a_promised, a_accRnd, a_accVal, a_crnd, a_phase, a_prom, a_lrnd, a_lset, a_lval, a_rep, a_vote, a_pr, a_pv, a_sm)) : wY_receive_145 post x1 k x3 x5 x6 x7 x8 x9 x10 f_kk f_hh f_ll a_crashed a_cfg a_mem a_lastCut a_myVote a_promised a_accRnd a_accVal a_crnd a_phase a_prom a_lrnd a_lset a_lval a_rep a_vote a_pr a_pv a_sm := br_f h2 (yt_160 h3 h4 h5 h6 h)
theorem ye_145 {post : SY → Prop} {x1 x3 x5 x6 x7 x8 x9 x10 : Int32} {u : SY} (h : post u) : (match u with | (f_kk, f_hh, f_ll, a_crashed, a_cfg, a_mem, a_lastCut, a_myVote, a_promised, a_accRnd, a_accVal, a_crnd, a_phase, a_prom, a_lrnd, a_lset, a_lval, a_rep, a_vote, a_pr, a_pv, a_sm) => wY_receive_145 post x1 1 x3 x5 x6 x7 x8 x9 x10 f_kk f_hh f_ll a_crashed a_cfg a_mem a_lastCut a_myVote a_promised a_accRnd a_accVal a_crnd a_phase a_prom a_lrnd a_lset a_lval a_rep a_vote a_pr a_pv a_sm) := by
  obtain ⟨f_kk, f_hh, f_ll, a_crashed, a_cfg, a_mem, a_lastCut, a_myVote, a_promised, a_accRnd, a_accVal, a_crnd, a_phase, a_prom, a_lrnd, a_lset, a_lval, a_rep, a_vote, a_pr, a_pv, a_sm⟩ := u
  exact yt_145 (by decide) (by decide) (by decide) (by decide) (by decide) h
theorem ye_160 {post : SY → Prop} {x1 x3 x5 x6 x7 x8 x9 x10 : Int32} {u : SY} (h : post u) : (match u with | (f_kk, f_hh, f_ll, a_crashed, a_cfg, a_mem, a_lastCut, a_myVote, a_promised, a_accRnd, a_accVal, a_crnd, a_phase, a_prom, a_lrnd, a_lset, a_lval, a_rep, a_vote, a_pr, a_pv, a_sm) => wY_receive_160 post x1 2 x3 x5 x6 x7 x8 x9 x10 f_kk f_hh f_ll a_crashed a_cfg a_mem a_lastCut a_myVote a_promised a_accRnd a_accVal a_crnd a_phase a_prom a_lrnd a_lset a_lval a_rep a_vote a_pr a_pv a_sm) := by
  obtain ⟨f_kk, f_hh, f_ll, a_crashed, a_cfg, a_mem, a_lastCut, a_myVote, a_promised, a_accRnd, a_accVal, a_crnd, a_phase, a_prom, a_lrnd, a_lset, a_lval, a_rep, a_vote, a_pr, a_pv, a_sm⟩ := u
  exact yt_160 (by decide) (by decide) (by decide) (by decide) h
theorem ye_207 {post : SY → Prop} {x1 x3 x5 x6 x7 x8 x9 x10 : Int32} {u : SY} (h : post u) : (match u with | (f_kk, f_hh, f_ll, a_crashed, a_cfg, a_mem, a_lastCut, a_myVote, a_promised, a_accRnd, a_accVal, a_crnd, a_phase, a_prom, a_lrnd, a_lset, a_lval, a_rep, a_vote, a_pr, a_pv, a_sm) => wY_receive_207 post x1 3 x3 x5 x6 x7 x8 x9 x10 f_kk f_hh f_ll a_crashed a_cfg a_mem a_lastCut a_myVote a_promised a_accRnd a_accVal a_crnd a_phase a_prom a_lrnd a_lset a_lval a_rep a_vote a_pr a_pv a_sm) := by
  obtain ⟨f_kk, f_hh, f_ll, a_crashed, a_cfg, a_mem, a_lastCut, a_myVote, a_promised, a_accRnd, a_accVal, a_crnd, a_phase, a_prom, a_lrnd, a_lset, a_lval, a_rep, a_vote, a_pr, a_pv, a_sm⟩ := u
  exact yt_207 (by decide) (by decide) (by decide) h
theorem ye_234 {post : SY → Prop} {x1 x3 x5 x6 x10 : Int32} {u : SY} (h : post u) : (match u with | (f_kk, f_hh, f_ll, a_crashed, a_cfg, a_mem, a_lastCut, a_myVote, a_promised, a_accRnd, a_accVal, a_crnd, a_phase, a_prom, a_lrnd, a_lset, a_lval, a_rep, a_vote, a_pr, a_pv, a_sm) => wY_receive_234 post x1 4 x3 x5 x6 x10 f_kk f_hh f_ll a_crashed a_cfg a_mem a_lastCut a_myVote a_promised a_accRnd a_accVal a_crnd a_phase a_prom a_lrnd a_lset a_lval a_rep a_vote a_pr a_pv a_sm) := by
  obtain ⟨f_kk, f_hh, f_ll, a_crashed, a_cfg, a_mem, a_lastCut, a_myVote, a_promised, a_accRnd, a_accVal, a_crnd, a_phase, a_prom, a_lrnd, a_lset, a_lval, a_rep, a_vote, a_pr, a_pv, a_sm⟩ := u
  exact yt_234 (by decide) (by decide) h
theorem ye_292 {post : SY → Prop} {x1 x3 x5 x6 x10 : Int32} {u : SY} (h : post u) : (match u with | (f_kk, f_hh, f_ll, a_crashed, a_cfg, a_mem, a_lastCut, a_myVote, a_promised, a_accRnd, a_accVal, a_crnd, a_phase, a_prom, a_lrnd, a_lset, a_lval, a_rep, a_vote, a_pr, a_pv, a_sm) => wY_receive_292 post x1 5 x3 x5 x6 x10 f_kk f_hh f_ll a_crashed a_cfg a_mem a_lastCut a_myVote a_promised a_accRnd a_accVal a_crnd a_phase a_prom a_lrnd a_lset a_lval a_rep a_vote a_pr a_pv a_sm) := by
  obtain ⟨f_kk, f_hh, f_ll, a_crashed, a_cfg, a_mem, a_lastCut, a_myVote, a_promised, a_accRnd, a_accVal, a_crnd, a_phase, a_prom, a_lrnd, a_lset, a_lval, a_rep, a_vote, a_pr, a_pv, a_sm⟩ := u
  exact yt_292 (by decide) h
end CD11b
section CD11c
variable {f_rings f_high f_low : Int32} {a_crashed a_config a_members a_newestCut a_reports a_votes a_myVote a_promised a_acceptedRound a_acceptedValue a_ownRound a_phase a_promisers a_promiserRound a_promiserValue a_learnedRound a_learnedFrom a_learnedValue a_slots a_pr a_pv a_sm : Nat → Int32}
theorem yr_recv {post : SY → Prop} {v : SY} (R : cy_R (f_rings, f_high, f_low, a_crashed, a_config, a_members, a_newestCut, a_reports, a_votes, a_myVote, a_promised, a_acceptedRound, a_acceptedValue, a_ownRound, a_phase, a_promisers, a_promiserRound, a_promiserValue, a_learnedRound, a_learnedFrom, a_learnedValue, a_slots) v) {p q : Nat} (hp : p < 16) (hq : q < 16) {kind c x y z : Int32} (hx : kind = 1 → ∃ s, s < 16 ∧ x = nI s) (h : ∀ v', cy_R (cx_recv (f_rings, f_high, f_low, a_crashed, a_config, a_members, a_newestCut, a_reports, a_votes, a_myVote, a_promised, a_acceptedRound, a_acceptedValue, a_ownRound, a_phase, a_promisers, a_promiserRound, a_promiserValue, a_learnedRound, a_learnedFrom, a_learnedValue, a_slots) p q kind c x y z) v' → post v') : wpY_receive post v (nI p) kind (nI q) c x y z := by
  have R0 := R
  obtain ⟨a_pr, a_pv, a_sm, rfl, hK, Q, S⟩ := R
  unfold wpY_receive
  dsimp only
  rw [cd_cl hp]
  refine ⟨cd_vi hp, ?_⟩
  unfold cx_recv at h
  dsimp only at h
  by_cases cr : a_crashed p = 0
  rotate_left
  · rw [if_neg cr] at h
    exact br_f cr (h _ R0)
  rw [if_pos cr] at h
  refine br_t cr ?_
  by_cases k7 : kind = 7
  · rw [if_pos k7] at h
    refine br_t k7 ⟨cd_vi hp, ?_⟩
    by_cases g : c ≤ a_config p
    · rw [if_neg (Int32.not_lt.mpr g)] at h
      exact br_t g (h _ R0)
    · rw [if_pos (Int32.not_le.mp g)] at h
      exact br_f g (yr_inst R0 hp (fun v' R' => cy_eta (h v' R')))
  rw [if_neg k7] at h
  refine br_f k7 (yw_stt hp ?_)
  unfold cd_stt
  rw [if_pos cr]
  by_cases hm : bt (a_members p) p = true
  rotate_left
  · rw [if_neg hm] at h ⊢
    exact br_t rfl (h _ R0)
  rw [if_pos hm] at h ⊢
  refine br_f (by decide) ⟨cd_vi hp, ?_⟩
  unfold cx_mem at h
  dsimp only at h
  by_cases c1 : a_config p ≤ c
  rotate_left
  · rw [if_pos (Int32.not_le.mp c1)] at h
    refine br_f c1 ?_
    by_cases e : q = p
    · rw [if_pos e] at h
      exact br_t (by rw [e]) (h _ R0)
    · rw [if_neg e] at h
      exact br_f (fun z => e ((nI_eq (by omega) (by omega)).mp z)) ⟨cd_vi hp, cd_vi hp, yr_send R0 hp (fun z => absurd z (by decide)) (fun v' R' => cy_eta (h v' R'))⟩
  rw [if_neg (Int32.not_lt.mpr c1)] at h
  refine br_t c1 ⟨cd_vi hp, ?_⟩
  by_cases c2 : c ≤ a_config p
  rotate_left
  · rw [if_pos (Int32.not_le.mp c2)] at h
    exact br_f c2 (h _ R0)
  rw [if_neg (Int32.not_lt.mpr c2)] at h
  refine br_t c2 ⟨cd_vi hp, yw_ct ⟨by decide, nm_r (e' := cd_fq (cd_ct (a_members p))) rfl ⟨by decide, nm_r (e' := cd_cq (cd_ct (a_members p))) rfl ?_⟩⟩⟩
  by_cases k1 : kind = 1
  · rw [if_pos k1] at h
    obtain ⟨s, hs, e⟩ := hx k1
    subst e
    rw [cd_cl hs] at h
    subst k1
    exact br_t rfl (yr_alert R0 hp hs (fun v' R' => ye_145 (h v' R')))
  rw [if_neg k1] at h
  refine br_f k1 ?_
  by_cases k2 : kind = 2
  · rw [if_pos k2] at h
    subst k2
    exact br_t rfl (yr_vote R0 hp hq (fun v' R' => ye_160 (h v' R')))
  rw [if_neg k2] at h
  refine br_f k2 ?_
  by_cases k3 : kind = 3
  · rw [if_pos k3] at h
    subst k3
    unfold wY_receive_160
    rw [cd_cl hp]
    refine br_t rfl ⟨cd_vi hp, ?_⟩
    unfold cx_prep at h
    dsimp only at h
    by_cases g : x ≤ a_promised p
    · rw [if_neg (Int32.not_lt.mpr g)] at h
      exact br_t g (yt_207 (by decide) (by decide) (by decide) (h _ R0))
    · rw [if_pos (Int32.not_le.mp g)] at h
      exact br_f g ⟨cd_vi hp, nm_e ⟨cd_vi hp, cd_vi hp, yr_send ⟨a_pr, a_pv, a_sm, rfl, hK, Q, S⟩ hp (fun z => absurd z (by decide)) (fun v' R' => ye_207 (h v' R'))⟩⟩
  rw [if_neg k3] at h
  refine br_f k3 ?_
  by_cases k4 : kind = 4
  · rw [if_pos k4] at h
    subst k4
    exact br_t rfl (yr_prom R0 hp hq (fun v' R' => ye_234 (h v' R')))
  rw [if_neg k4] at h
  refine br_f k4 ?_
  by_cases k5 : kind = 5
  · rw [if_pos k5] at h
    subst k5
    unfold wY_receive_234
    rw [cd_cl hp]
    refine br_t rfl ⟨cd_vi hp, ?_⟩
    unfold cx_acc at h
    dsimp only at h
    by_cases g : x < a_promised p
    · rw [if_neg (Int32.not_le.mpr g)] at h
      exact br_t g (yt_292 (by decide) (h _ R0))
    · rw [if_pos (Int32.not_lt.mp g)] at h
      exact br_f g ⟨cd_vi hp, nm_e ⟨cd_vi hp, nm_e ⟨cd_vi hp, nm_e ⟨cd_vi hp, yr_send ⟨a_pr, a_pv, a_sm, rfl, hK, Q, S⟩ hp (fun z => absurd z (by decide)) (fun v' R' => ye_292 (h v' R'))⟩⟩⟩⟩
  rw [if_neg k5] at h
  refine br_f k5 ?_
  by_cases k6 : kind = 6
  · rw [if_pos k6] at h
    exact br_t k6 (yr_acd R0 hp (fun v' R' => cy_eta (h v' R')))
  · rw [if_neg k6] at h
    exact br_f k6 (h _ R0)
end CD11c
