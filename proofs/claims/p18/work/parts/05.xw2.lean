section CD5
variable {f_rings f_high f_low : Int32} {a_crashed a_config a_members a_newestCut a_reports a_votes a_myVote a_promised a_acceptedRound a_acceptedValue a_ownRound a_phase a_promisers a_promiserRound a_promiserValue a_learnedRound a_learnedFrom a_learnedValue a_slots : Nat → Int32}
theorem xw_instL {post : St2 → Prop} {p : Nat} (hp : p < 16) (h : post (f_rings, f_high, f_low, a_crashed, a_config, a_members, a_newestCut, cd_fill a_reports (p * 16) 0 16, cd_fill a_votes (p * 16) (-1) 16, upd a_myVote p (-1), upd a_promised p 0, upd a_acceptedRound p (-1), upd a_acceptedValue p 0, upd a_ownRound p 0, upd a_phase p 0, upd a_promisers p 0, a_promiserRound, a_promiserValue, upd a_learnedRound p 0, upd a_learnedFrom p 0, upd a_learnedValue p 0, a_slots)) :
    ∀ d q, q + d = 16 → wX_install_25 post (nI p) f_rings f_high f_low (d + 1) (nI q) a_crashed a_config a_members a_newestCut (cd_fill a_reports (p * 16) 0 q) (cd_fill a_votes (p * 16) (-1) q) a_myVote a_promised a_acceptedRound a_acceptedValue a_ownRound a_phase a_promisers a_promiserRound a_promiserValue a_learnedRound a_learnedFrom a_learnedValue a_slots := by
  intro d
  induction d with
  | zero =>
    intro q hq
    have e : q = 16 := by omega
    subst e
    refine br_t (cd_at16 rfl) ?_
    rw [cd_cl hp]
    exact ⟨cd_vi hp, nm_e ⟨cd_vi hp, nm_e ⟨cd_vi hp, nm_e ⟨cd_vi hp, nm_e ⟨cd_vi hp, nm_e ⟨cd_vi hp, nm_e ⟨cd_vi hp, nm_e ⟨cd_vi hp, nm_e ⟨cd_vi hp, nm_e ⟨cd_vi hp, nm_e h⟩⟩⟩⟩⟩⟩⟩⟩⟩⟩
  | succ d ih =>
    intro q hq
    have ih := ih (q + 1) (by omega)
    refine br_f (cd_ge16 (by omega)) ?_
    rw [cd_cl16 hp (by omega)]
    exact ⟨cd_vi16 hp (by omega), nm_r cd_fillS ⟨cd_vi16 hp (by omega), nm_r cd_fillS (nm_r (nI_1 q) ih)⟩⟩
theorem xw_inst {post : St2 → Prop} {p : Nat} (hp : p < 16) {n s c : Int32} (h : post (cx_inst (f_rings, f_high, f_low, a_crashed, a_config, a_members, a_newestCut, a_reports, a_votes, a_myVote, a_promised, a_acceptedRound, a_acceptedValue, a_ownRound, a_phase, a_promisers, a_promiserRound, a_promiserValue, a_learnedRound, a_learnedFrom, a_learnedValue, a_slots) p n s c)) : wpX_install post (f_rings, f_high, f_low, a_crashed, a_config, a_members, a_newestCut, a_reports, a_votes, a_myVote, a_promised, a_acceptedRound, a_acceptedValue, a_ownRound, a_phase, a_promisers, a_promiserRound, a_promiserValue, a_learnedRound, a_learnedFrom, a_learnedValue, a_slots) (nI p) n s c := by
  unfold wpX_install
  have L := xw_instL (f_rings := f_rings) (f_high := f_high) (f_low := f_low) (a_config := upd a_config p n) (a_members := upd a_members p s) (a_newestCut := upd a_newestCut p c) hp h 16 0 rfl
  rw [cd_fill0, cd_fill0] at L
  dsimp only
  rw [cd_cl hp]
  exact ⟨cd_vi hp, nm_e ⟨cd_vi hp, nm_e ⟨cd_vi hp, nm_e ⟨17, L⟩⟩⟩⟩
theorem xw_dec {post : St2 → Prop} {p : Nat} (hp : p < 16) {c : Int32} (h : post (cx_dec (f_rings, f_high, f_low, a_crashed, a_config, a_members, a_newestCut, a_reports, a_votes, a_myVote, a_promised, a_acceptedRound, a_acceptedValue, a_ownRound, a_phase, a_promisers, a_promiserRound, a_promiserValue, a_learnedRound, a_learnedFrom, a_learnedValue, a_slots) p c)) : wpX_decide post (f_rings, f_high, f_low, a_crashed, a_config, a_members, a_newestCut, a_reports, a_votes, a_myVote, a_promised, a_acceptedRound, a_acceptedValue, a_ownRound, a_phase, a_promisers, a_promiserRound, a_promiserValue, a_learnedRound, a_learnedFrom, a_learnedValue, a_slots) (nI p) c := by
  unfold wpX_decide
  dsimp only
  rw [cd_cl hp]
  refine ⟨cd_vi hp, cd_vi hp, xw_inst hp ?_⟩
  refine ⟨cd_vi hp, xw_send hp ?_⟩
  unfold cx_dec at h
  dsimp only [cx_inst] at h ⊢
  rw [pk_us]
  exact h
theorem xw_offL {post : St2 → Prop} {i : Nat} (hi : i < 32) (h : post (f_rings, f_high, f_low, a_crashed, a_config, a_members, a_newestCut, a_reports, a_votes, a_myVote, a_promised, a_acceptedRound, a_acceptedValue, a_ownRound, a_phase, a_promisers, a_promiserRound, a_promiserValue, a_learnedRound, a_learnedFrom, a_learnedValue, cd_fill a_slots (i * 7) 0 7)) : ∀ d f, f + d = 7 → wX_takeOff_38 post (nI (i * 7)) f_rings f_high f_low (d + 1) (nI f) a_crashed a_config a_members a_newestCut a_reports a_votes a_myVote a_promised a_acceptedRound a_acceptedValue a_ownRound a_phase a_promisers a_promiserRound a_promiserValue a_learnedRound a_learnedFrom a_learnedValue (cd_fill a_slots (i * 7) 0 f) := by
  intro d
  induction d with
  | zero =>
    intro f hf
    have e : f = 7 := by omega
    subst e
    exact br_t (by decide) h
  | succ d ih =>
    intro f hf
    have ih := ih (f + 1) (by omega)
    refine br_f (nI_ge (b := 7) (by omega) (by decide)) ?_
    rw [nI_add, cd_c7 hi (by omega)]
    exact ⟨cd_v7 hi (by omega), nm_r cd_fillS (nm_r (nI_1 f) ih)⟩
theorem xw_off {post : St2 → Prop} {i p : Nat} (hi : i < 32) (h : post (cx_off (f_rings, f_high, f_low, a_crashed, a_config, a_members, a_newestCut, a_reports, a_votes, a_myVote, a_promised, a_acceptedRound, a_acceptedValue, a_ownRound, a_phase, a_promisers, a_promiserRound, a_promiserValue, a_learnedRound, a_learnedFrom, a_learnedValue, a_slots) i p)) : wpX_takeOff post (f_rings, f_high, f_low, a_crashed, a_config, a_members, a_newestCut, a_reports, a_votes, a_myVote, a_promised, a_acceptedRound, a_acceptedValue, a_ownRound, a_phase, a_promisers, a_promiserRound, a_promiserValue, a_learnedRound, a_learnedFrom, a_learnedValue, a_slots) (nI i) (nI p) := by
  unfold wpX_takeOff
  dsimp only
  refine nm_r (cd_i7 i) ?_
  rw [cd_a6, cd_c7 hi (by omega)]
  refine ⟨cd_v7 hi (by omega), cd_v7 hi (by omega), nm_e ⟨cd_v7 hi (by omega), ?_⟩⟩
  rw [pk_us]
  unfold cx_off cd_off at h
  dsimp only at h
  by_cases z : a_slots (i * 7 + 6) &&& cd_not p = 0
  · rw [if_pos z] at h
    have L := xw_offL (f_rings := f_rings) (f_high := f_high) (f_low := f_low) (a_slots := upd a_slots (i * 7 + 6) (a_slots (i * 7 + 6) &&& cd_not p)) hi h 7 0 rfl
    rw [cd_fill0] at L
    exact br_t z ⟨8, L⟩
  · rw [if_neg z] at h
    exact br_f z h
theorem cd_st_none {rep : Nat → Int32} {b : Nat} {h l : Int32} {s : Nat} (e : cd_st rep b h l s = none) : ∀ k, cd_st rep b h l (s + k) = none := by
  intro k
  induction k with
  | zero => exact e
  | succ k ih =>
    show (match cd_st rep b h l (s + k) with
      | none => none
      | some m => if h ≤ cd_ct (rep (b + (s + k))) then some (m ||| (1 <<< (nI (s + k) &&& 31))) else if l ≤ cd_ct (rep (b + (s + k))) then none else some m) = none
    rw [ih]
theorem xw_pisL {post : St2 → Prop} {p : Nat} (hp : p < 16) (h : post (cx_pis (f_rings, f_high, f_low, a_crashed, a_config, a_members, a_newestCut, a_reports, a_votes, a_myVote, a_promised, a_acceptedRound, a_acceptedValue, a_ownRound, a_phase, a_promisers, a_promiserRound, a_promiserValue, a_learnedRound, a_learnedFrom, a_learnedValue, a_slots) p)) : ∀ d s m, s + d = 16 → cd_st a_reports (p * 16) f_high f_low s = some m → wX_proposeIfSettled_4 post (nI p) f_rings f_high f_low a_crashed a_config a_members a_newestCut a_reports a_votes a_myVote a_promised a_acceptedRound a_acceptedValue a_ownRound a_phase a_promisers a_promiserRound a_promiserValue a_learnedRound a_learnedFrom a_learnedValue a_slots (d + 1) m (nI s) := by
  intro d
  induction d with
  | zero =>
    intro s m hs e
    have e2 : s = 16 := by omega
    subst e2
    refine br_t (cd_at16 rfl) ?_
    rw [cd_cl hp]
    unfold cx_pis at h
    dsimp only at h
    rw [e] at h
    dsimp only at h
    by_cases z : m = 0
    · rw [if_pos z] at h
      exact br_t z h
    · rw [if_neg z] at h
      exact br_f z ⟨cd_vi hp, nm_e ⟨cd_vi hp, nm_e ⟨cd_vi hp, nm_e ⟨cd_vi hp, xw_send hp h⟩⟩⟩⟩
  | succ d ih =>
    intro s m hs e
    have ih := ih (s + 1)
    have step : cd_st a_reports (p * 16) f_high f_low (s + 1) = (if f_high ≤ cd_ct (a_reports (p * 16 + s)) then some (m ||| (1 <<< (nI s &&& 31))) else if f_low ≤ cd_ct (a_reports (p * 16 + s)) then none else some m) := by
      show (match cd_st a_reports (p * 16) f_high f_low s with
        | none => none
        | some m => if f_high ≤ cd_ct (a_reports (p * 16 + s)) then some (m ||| (1 <<< (nI s &&& 31))) else if f_low ≤ cd_ct (a_reports (p * 16 + s)) then none else some m) = _
      rw [e]
    refine br_f (cd_ge16 (by omega)) ⟨cd_vi16 hp (by omega), xw_ct ?_⟩
    rw [cd_cl16 hp (by omega)]
    by_cases c1 : cd_ct (a_reports (p * 16 + s)) < f_high
    · refine br_t c1 ?_
      rw [if_neg (Int32.not_le.mpr c1)] at step
      by_cases c2 : cd_ct (a_reports (p * 16 + s)) < f_low
      · rw [if_neg (Int32.not_le.mpr c2)] at step
        exact br_t c2 (nm_r (nI_1 s) (ih m (by omega) step))
      · rw [if_pos (Int32.not_lt.mp c2)] at step
        have e16 := cd_st_none step d
        rw [show s + 1 + d = 16 from by omega] at e16
        unfold cx_pis at h
        dsimp only at h
        rw [e16] at h
        exact br_f c2 h
    · rw [if_pos (Int32.not_lt.mp c1)] at step
      exact br_f c1 (nm_e (nm_r (nI_1 s) (ih _ (by omega) step)))
theorem xw_pis {post : St2 → Prop} {p : Nat} (hp : p < 16) (h : post (cx_pis (f_rings, f_high, f_low, a_crashed, a_config, a_members, a_newestCut, a_reports, a_votes, a_myVote, a_promised, a_acceptedRound, a_acceptedValue, a_ownRound, a_phase, a_promisers, a_promiserRound, a_promiserValue, a_learnedRound, a_learnedFrom, a_learnedValue, a_slots) p)) : wpX_proposeIfSettled post (f_rings, f_high, f_low, a_crashed, a_config, a_members, a_newestCut, a_reports, a_votes, a_myVote, a_promised, a_acceptedRound, a_acceptedValue, a_ownRound, a_phase, a_promisers, a_promiserRound, a_promiserValue, a_learnedRound, a_learnedFrom, a_learnedValue, a_slots) (nI p) := ⟨17, xw_pisL hp h 16 0 0 rfl rfl⟩
theorem xw_alert {post : St2 → Prop} {p s : Nat} (hp : p < 16) (hs : s < 16) {y : Int32} (h : post (cx_alert (f_rings, f_high, f_low, a_crashed, a_config, a_members, a_newestCut, a_reports, a_votes, a_myVote, a_promised, a_acceptedRound, a_acceptedValue, a_ownRound, a_phase, a_promisers, a_promiserRound, a_promiserValue, a_learnedRound, a_learnedFrom, a_learnedValue, a_slots) p s y)) : wpX_onAlert post (f_rings, f_high, f_low, a_crashed, a_config, a_members, a_newestCut, a_reports, a_votes, a_myVote, a_promised, a_acceptedRound, a_acceptedValue, a_ownRound, a_phase, a_promisers, a_promiserRound, a_promiserValue, a_learnedRound, a_learnedFrom, a_learnedValue, a_slots) (nI p) (nI s) y := by
  unfold wpX_onAlert
  dsimp only
  rw [cd_cl hp, cd_cl16 hp hs]
  refine ⟨cd_vi16 hp hs, cd_vi16 hp hs, nm_e ⟨cd_vi hp, ?_⟩⟩
  unfold cx_alert at h
  dsimp only at h
  by_cases c1 : a_myVote p = -1
  · refine br_t c1 ⟨cd_vi hp, ?_⟩
    by_cases c2 : a_promised p = 0
    · rw [if_pos ⟨c1, c2⟩] at h
      exact br_t c2 (xw_pis hp (cx_eta h))
    · rw [if_neg (fun z => c2 z.2)] at h
      exact br_f c2 h
  · rw [if_neg (fun z => c1 z.1)] at h
    exact br_f c1 h
theorem xw_fq {post : Int32 → Prop} {m : Int32} (h : post (cd_fq m)) : wpX_fastQuorum post () m := ⟨by decide, h⟩
theorem xw_cq {post : Int32 → Prop} {m : Int32} (h : post (cd_cq m)) : wpX_classicQuorum post () m := ⟨by decide, h⟩
theorem xw_voteL {post : St2 → Prop} {p : Nat} (hp : p < 16) {x : Int32} (h1 : cd_fq (cd_ct (a_members p)) ≤ nI (cd_sm a_votes (p * 16) x 16) → post (cx_dec (f_rings, f_high, f_low, a_crashed, a_config, a_members, a_newestCut, a_reports, a_votes, a_myVote, a_promised, a_acceptedRound, a_acceptedValue, a_ownRound, a_phase, a_promisers, a_promiserRound, a_promiserValue, a_learnedRound, a_learnedFrom, a_learnedValue, a_slots) p x)) (h2 : ¬ cd_fq (cd_ct (a_members p)) ≤ nI (cd_sm a_votes (p * 16) x 16) → post (f_rings, f_high, f_low, a_crashed, a_config, a_members, a_newestCut, a_reports, a_votes, a_myVote, a_promised, a_acceptedRound, a_acceptedValue, a_ownRound, a_phase, a_promisers, a_promiserRound, a_promiserValue, a_learnedRound, a_learnedFrom, a_learnedValue, a_slots)) :
    ∀ d i, i + d = 16 → wX_onVote_34 post (nI p) x f_rings f_high f_low a_crashed a_config a_members a_newestCut a_reports a_votes a_myVote a_promised a_acceptedRound a_acceptedValue a_ownRound a_phase a_promisers a_promiserRound a_promiserValue a_learnedRound a_learnedFrom a_learnedValue a_slots (d + 1) (nI (cd_sm a_votes (p * 16) x i)) (nI i) := by
  intro d
  induction d with
  | zero =>
    intro i hi
    have e : i = 16 := by omega
    subst e
    refine br_t (cd_at16 rfl) ⟨cd_vi hp, xw_ct (xw_fq ?_)⟩
    rw [cd_cl hp]
    exact br_c (fun z => h2 (Int32.not_le.mpr z)) (fun z => xw_dec hp (cx_eta (h1 (Int32.not_lt.mp z))))
  | succ d ih =>
    intro i hi
    have ih := ih (i + 1) (by omega)
    refine br_f (cd_ge16 (by omega)) ⟨cd_vi16 hp (by omega), ?_⟩
    rw [cd_cl16 hp (by omega)]
    by_cases c : a_votes (p * 16 + i) = x
    · have e : cd_sm a_votes (p * 16) x (i + 1) = cd_sm a_votes (p * 16) x i + 1 := by rw [cd_smS, if_pos c]
      rw [e] at ih
      exact br_t c (nm_r (nI_1 _) (nm_r (nI_1 i) ih))
    · have e : cd_sm a_votes (p * 16) x (i + 1) = cd_sm a_votes (p * 16) x i := by rw [cd_smS, if_neg c]; rfl
      rw [e] at ih
      exact br_f c (nm_r (nI_1 i) ih)
theorem xw_vote {post : St2 → Prop} {p q : Nat} (hp : p < 16) (hq : q < 16) {x : Int32} (h : post (cx_vote (f_rings, f_high, f_low, a_crashed, a_config, a_members, a_newestCut, a_reports, a_votes, a_myVote, a_promised, a_acceptedRound, a_acceptedValue, a_ownRound, a_phase, a_promisers, a_promiserRound, a_promiserValue, a_learnedRound, a_learnedFrom, a_learnedValue, a_slots) p q x)) : wpX_onVote post (f_rings, f_high, f_low, a_crashed, a_config, a_members, a_newestCut, a_reports, a_votes, a_myVote, a_promised, a_acceptedRound, a_acceptedValue, a_ownRound, a_phase, a_promisers, a_promiserRound, a_promiserValue, a_learnedRound, a_learnedFrom, a_learnedValue, a_slots) (nI p) (nI q) x := by
  unfold wpX_onVote
  dsimp only
  rw [cd_cl16 hp hq]
  refine ⟨cd_vi16 hp hq, ?_⟩
  unfold cx_vote at h
  dsimp only at h
  by_cases c : a_votes (p * 16 + q) = -1
  · rw [if_pos c] at h
    refine br_t c ⟨cd_vi16 hp hq, nm_e ⟨17, ?_⟩⟩
    refine xw_voteL hp (fun z => ?_) (fun z => ?_) 16 0 rfl
    · rw [if_pos z] at h; exact h
    · rw [if_neg z] at h; exact h
  · rw [if_neg c] at h
    exact br_f c h
theorem xw_prep {post : St2 → Prop} {p q : Nat} (hp : p < 16) {x : Int32} (h : post (cx_prep (f_rings, f_high, f_low, a_crashed, a_config, a_members, a_newestCut, a_reports, a_votes, a_myVote, a_promised, a_acceptedRound, a_acceptedValue, a_ownRound, a_phase, a_promisers, a_promiserRound, a_promiserValue, a_learnedRound, a_learnedFrom, a_learnedValue, a_slots) p q x)) : wpX_onPrepare post (f_rings, f_high, f_low, a_crashed, a_config, a_members, a_newestCut, a_reports, a_votes, a_myVote, a_promised, a_acceptedRound, a_acceptedValue, a_ownRound, a_phase, a_promisers, a_promiserRound, a_promiserValue, a_learnedRound, a_learnedFrom, a_learnedValue, a_slots) (nI p) (nI q) x := by
  unfold wpX_onPrepare
  dsimp only
  rw [cd_cl hp]
  refine ⟨cd_vi hp, ?_⟩
  unfold cx_prep at h
  dsimp only at h
  by_cases c : x ≤ a_promised p
  · rw [if_neg (Int32.not_lt.mpr c)] at h
    exact br_t c h
  · rw [if_pos (Int32.not_le.mp c)] at h
    exact br_f c ⟨cd_vi hp, nm_e ⟨cd_vi hp, cd_vi hp, xw_send hp h⟩⟩
end CD5
