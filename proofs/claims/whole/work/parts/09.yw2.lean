section CD9
variable {f_rings f_high f_low : Int32} {a_crashed a_config a_members a_newestCut a_reports a_votes a_myVote a_promised a_acceptedRound a_acceptedValue a_ownRound a_phase a_promisers a_promiserRound a_promiserValue a_learnedRound a_learnedFrom a_learnedValue a_slots a_pr a_pv a_sm : Nat → Int32}
theorem yr_send {post : SY → Prop} {v : SY} (R : cy_R (f_rings, f_high, f_low, a_crashed, a_config, a_members, a_newestCut, a_reports, a_votes, a_myVote, a_promised, a_acceptedRound, a_acceptedValue, a_ownRound, a_phase, a_promisers, a_promiserRound, a_promiserValue, a_learnedRound, a_learnedFrom, a_learnedValue, a_slots) v) {p : Nat} (hp : p < 16) {kind x y z d : Int32} (hx : kind = 1 → ∃ j, j < 16 ∧ x = nI j) (h : ∀ v', cy_R (cx_send (f_rings, f_high, f_low, a_crashed, a_config, a_members, a_newestCut, a_reports, a_votes, a_myVote, a_promised, a_acceptedRound, a_acceptedValue, a_ownRound, a_phase, a_promisers, a_promiserRound, a_promiserValue, a_learnedRound, a_learnedFrom, a_learnedValue, a_slots) p kind x y z d) v' → post v') : wpY_send post v (nI p) kind x y z d := by
  obtain ⟨a_pr, a_pv, a_sm, rfl, hK, Q, S⟩ := R
  exact yw_send hp (h _ ⟨a_pr, a_pv, _, rfl, hK, Q, cy_S_send S hp hx⟩)
theorem cy_Q_fill {pm pr pv pr' pv' : Nat → Int32} (Q : cy_Q pm pr pv pr' pv') (p : Nat) : cy_Q (upd pm p 0) pr pv (cd_fill pr' (p * 16) 0 16) (cd_fill pv' (p * 16) 0 16) := by
  intro a q ha hq hb
  by_cases e : a = p
  · subst e
    rw [pk_us, b_0] at hb
    exact absurd hb (by decide)
  · rw [pk_un e] at hb
    rw [cd_fillO (by omega), cd_fillO (by omega)]
    exact Q a q ha hq hb
theorem yr_inst {post : SY → Prop} {v : SY} (R : cy_R (f_rings, f_high, f_low, a_crashed, a_config, a_members, a_newestCut, a_reports, a_votes, a_myVote, a_promised, a_acceptedRound, a_acceptedValue, a_ownRound, a_phase, a_promisers, a_promiserRound, a_promiserValue, a_learnedRound, a_learnedFrom, a_learnedValue, a_slots) v) {p : Nat} (hp : p < 16) {n s c : Int32} (h : ∀ v', cy_R (cx_inst (f_rings, f_high, f_low, a_crashed, a_config, a_members, a_newestCut, a_reports, a_votes, a_myVote, a_promised, a_acceptedRound, a_acceptedValue, a_ownRound, a_phase, a_promisers, a_promiserRound, a_promiserValue, a_learnedRound, a_learnedFrom, a_learnedValue, a_slots) p n s c) v' → post v') : wpY_install post v (nI p) n s c := by
  obtain ⟨a_pr, a_pv, a_sm, rfl, hK, Q, S⟩ := R
  unfold wpY_install
  dsimp only
  rw [cd_cl hp]
  exact ⟨cd_vi hp, nm_e ⟨cd_vi hp, nm_e ⟨cd_vi hp, nm_e (yw_reset hp (h _ ⟨_, _, a_sm, rfl, hK, cy_Q_fill Q p, S⟩))⟩⟩⟩
theorem yr_dec {post : SY → Prop} {v : SY} (R : cy_R (f_rings, f_high, f_low, a_crashed, a_config, a_members, a_newestCut, a_reports, a_votes, a_myVote, a_promised, a_acceptedRound, a_acceptedValue, a_ownRound, a_phase, a_promisers, a_promiserRound, a_promiserValue, a_learnedRound, a_learnedFrom, a_learnedValue, a_slots) v) {p : Nat} (hp : p < 16) {c : Int32} (h : ∀ v', cy_R (cx_dec (f_rings, f_high, f_low, a_crashed, a_config, a_members, a_newestCut, a_reports, a_votes, a_myVote, a_promised, a_acceptedRound, a_acceptedValue, a_ownRound, a_phase, a_promisers, a_promiserRound, a_promiserValue, a_learnedRound, a_learnedFrom, a_learnedValue, a_slots) p c) v' → post v') : wpY_decide post v (nI p) c := by
  obtain ⟨a_pr, a_pv, a_sm, rfl, hK, Q, S⟩ := R
  unfold wpY_decide
  dsimp only
  rw [cd_cl hp]
  refine ⟨cd_vi hp, nm_e ⟨cd_vi hp, yr_inst ⟨a_pr, a_pv, a_sm, rfl, hK, Q, S⟩ hp (fun v' R' => ?_)⟩⟩
  obtain ⟨b_pr, b_pv, b_sm, rfl, hK', Q', S'⟩ := R'
  dsimp only
  refine ⟨cd_vi hp, ?_⟩
  rw [pk_us]
  exact yr_send ⟨b_pr, b_pv, b_sm, rfl, hK', Q', S'⟩ hp (fun z => absurd z (by decide)) (fun v'' R'' => cy_eta (h v'' R''))
theorem yr_alertL {post : SY → Prop} (hK : ∃ K, K ≤ 6 ∧ f_rings = nI K) (Q : cy_Q a_promisers a_promiserRound a_promiserValue a_pr a_pv) (S : cy_S a_slots a_sm) {p : Nat} (hp : p < 16) (h : ∀ v', cy_R (cx_pis (f_rings, f_high, f_low, a_crashed, a_config, a_members, a_newestCut, a_reports, a_votes, a_myVote, a_promised, a_acceptedRound, a_acceptedValue, a_ownRound, a_phase, a_promisers, a_promiserRound, a_promiserValue, a_learnedRound, a_learnedFrom, a_learnedValue, a_slots) p) v' → post v') :
    ∀ d s m e, s + d = 16 → (cd_st a_reports (p * 16) f_high f_low s = some m ∧ e = 0) ∨ (cd_st a_reports (p * 16) f_high f_low s = none ∧ e = 1) → wY_onAlert_64 post (nI p) f_rings f_high f_low a_crashed a_config a_members a_newestCut a_myVote a_promised a_acceptedRound a_acceptedValue a_ownRound a_phase a_promisers a_learnedRound a_learnedFrom a_learnedValue a_reports a_votes a_pr a_pv a_sm (d + 1) m e (nI s) := by
  intro d
  induction d with
  | zero =>
    intro s m e hs I
    have e2 : s = 16 := by omega
    subst e2
    refine br_t (cd_at16 rfl) ?_
    rw [cd_cl hp]
    unfold cx_pis at h
    dsimp only at h
    rcases I with ⟨I, rfl⟩ | ⟨I, rfl⟩
    · rw [I] at h
      dsimp only at h
      by_cases z : m = 0
      · rw [if_pos z] at h
        exact br_t z (h _ ⟨a_pr, a_pv, a_sm, rfl, hK, Q, S⟩)
      · rw [if_neg z] at h
        exact br_f z (br_t rfl ⟨cd_vi hp, nm_e ⟨cd_vi hp, nm_e ⟨cd_vi hp, nm_e ⟨cd_vi hp, yr_send ⟨a_pr, a_pv, a_sm, rfl, hK, Q, S⟩ hp (fun z => absurd z (by decide)) (fun v' R' => cy_eta (h v' R'))⟩⟩⟩⟩)
    · rw [I] at h
      have hh := h _ ⟨a_pr, a_pv, a_sm, rfl, hK, Q, S⟩
      by_cases z : m = 0
      · exact br_t z hh
      · exact br_f z (br_f (by decide) hh)
  | succ d ih =>
    intro s m e hs I
    have ih := ih (s + 1)
    refine br_f (cd_ge16 (by omega)) ⟨cd_vi16 hp (by omega), yw_ct ?_⟩
    rw [cd_cl16 hp (by omega)]
    rcases I with ⟨I, rfl⟩ | ⟨I, rfl⟩
    · have step : cd_st a_reports (p * 16) f_high f_low (s + 1) = (if f_high ≤ cd_ct (a_reports (p * 16 + s)) then some (m ||| (1 <<< (nI s &&& 31))) else if f_low ≤ cd_ct (a_reports (p * 16 + s)) then none else some m) := by
        show (match cd_st a_reports (p * 16) f_high f_low s with
          | none => none
          | some m => if f_high ≤ cd_ct (a_reports (p * 16 + s)) then some (m ||| (1 <<< (nI s &&& 31))) else if f_low ≤ cd_ct (a_reports (p * 16 + s)) then none else some m) = _
        rw [I]
      by_cases c1 : cd_ct (a_reports (p * 16 + s)) < f_high
      · refine br_t c1 ?_
        rw [if_neg (Int32.not_le.mpr c1)] at step
        by_cases c2 : cd_ct (a_reports (p * 16 + s)) < f_low
        · rw [if_neg (Int32.not_le.mpr c2)] at step
          exact br_t c2 (nm_r (nI_1 s) (ih m 0 (by omega) (Or.inl ⟨step, rfl⟩)))
        · rw [if_pos (Int32.not_lt.mp c2)] at step
          exact br_f c2 (nm_r (nI_1 s) (ih m 1 (by omega) (Or.inr ⟨step, rfl⟩)))
      · rw [if_pos (Int32.not_lt.mp c1)] at step
        exact br_f c1 (nm_e (nm_r (nI_1 s) (ih _ 0 (by omega) (Or.inl ⟨step, rfl⟩))))
    · have step := cd_st_none I 1
      by_cases c1 : cd_ct (a_reports (p * 16 + s)) < f_high
      · refine br_t c1 ?_
        by_cases c2 : cd_ct (a_reports (p * 16 + s)) < f_low
        · exact br_t c2 (nm_r (nI_1 s) (ih m 1 (by omega) (Or.inr ⟨step, rfl⟩)))
        · exact br_f c2 (nm_r (nI_1 s) (ih m 1 (by omega) (Or.inr ⟨step, rfl⟩)))
      · exact br_f c1 (nm_e (nm_r (nI_1 s) (ih _ 1 (by omega) (Or.inr ⟨step, rfl⟩))))
theorem yr_alert {post : SY → Prop} {v : SY} (R : cy_R (f_rings, f_high, f_low, a_crashed, a_config, a_members, a_newestCut, a_reports, a_votes, a_myVote, a_promised, a_acceptedRound, a_acceptedValue, a_ownRound, a_phase, a_promisers, a_promiserRound, a_promiserValue, a_learnedRound, a_learnedFrom, a_learnedValue, a_slots) v) {p s : Nat} (hp : p < 16) (hs : s < 16) {y : Int32} (h : ∀ v', cy_R (cx_alert (f_rings, f_high, f_low, a_crashed, a_config, a_members, a_newestCut, a_reports, a_votes, a_myVote, a_promised, a_acceptedRound, a_acceptedValue, a_ownRound, a_phase, a_promisers, a_promiserRound, a_promiserValue, a_learnedRound, a_learnedFrom, a_learnedValue, a_slots) p s y) v' → post v') : wpY_onAlert post v (nI p) (nI s) y := by
  obtain ⟨a_pr, a_pv, a_sm, rfl, hK, Q, S⟩ := R
  unfold wpY_onAlert
  dsimp only
  rw [cd_cl hp, cd_cl16 hp hs]
  refine br_f (cd_j0 hs) (br_t (cd_l15 hs) ⟨cd_vi16 hp hs, cd_vi16 hp hs, nm_e ⟨cd_vi hp, ?_⟩⟩)
  unfold cx_alert at h
  dsimp only at h
  by_cases c1 : a_myVote p = -1
  · refine br_t c1 ⟨cd_vi hp, ?_⟩
    by_cases c2 : a_promised p = 0
    · rw [if_pos ⟨c1, c2⟩] at h
      exact br_t c2 ⟨17, yr_alertL hK Q S hp h 16 0 0 0 rfl (Or.inl ⟨rfl, rfl⟩)⟩
    · rw [if_neg (fun z => c2 z.2)] at h
      exact br_f c2 (h _ ⟨a_pr, a_pv, a_sm, rfl, hK, Q, S⟩)
  · rw [if_neg (fun z => c1 z.1)] at h
    exact br_f c1 (h _ ⟨a_pr, a_pv, a_sm, rfl, hK, Q, S⟩)
theorem yr_voteL {post : SY → Prop} (hK : ∃ K, K ≤ 6 ∧ f_rings = nI K) (Q : cy_Q a_promisers a_promiserRound a_promiserValue a_pr a_pv) (S : cy_S a_slots a_sm) {p : Nat} (hp : p < 16) {x fq : Int32} (h1 : fq ≤ nI (cd_sm a_votes (p * 16) x 16) → ∀ v', cy_R (cx_dec (f_rings, f_high, f_low, a_crashed, a_config, a_members, a_newestCut, a_reports, a_votes, a_myVote, a_promised, a_acceptedRound, a_acceptedValue, a_ownRound, a_phase, a_promisers, a_promiserRound, a_promiserValue, a_learnedRound, a_learnedFrom, a_learnedValue, a_slots) p x) v' → post v') (h2 : ¬ fq ≤ nI (cd_sm a_votes (p * 16) x 16) → post (f_rings, f_high, f_low, a_crashed, a_config, a_members, a_newestCut, a_myVote, a_promised, a_acceptedRound, a_acceptedValue, a_ownRound, a_phase, a_promisers, a_learnedRound, a_learnedFrom, a_learnedValue, a_reports, a_votes, a_pr, a_pv, a_sm)) :
    ∀ d i, i + d = 16 → wY_onVote_34 post (nI p) x fq f_rings f_high f_low a_crashed a_config a_members a_newestCut a_myVote a_promised a_acceptedRound a_acceptedValue a_ownRound a_phase a_promisers a_learnedRound a_learnedFrom a_learnedValue a_reports a_votes a_pr a_pv a_sm (d + 1) (nI (cd_sm a_votes (p * 16) x i)) (nI i) := by
  intro d
  induction d with
  | zero =>
    intro i hi
    have e : i = 16 := by omega
    subst e
    exact br_t (cd_at16 rfl) (br_c (fun z => h2 (Int32.not_le.mpr z)) (fun z => yr_dec ⟨a_pr, a_pv, a_sm, rfl, hK, Q, S⟩ hp (fun v' R' => cy_eta (h1 (Int32.not_lt.mp z) v' R'))))
  | succ d ih =>
    intro i hi
    have ih := ih (i + 1) (by omega)
    refine br_f (cd_ge16 (by omega)) ⟨cd_vi16 hp (by omega), ?_⟩
    rw [cd_cl16 hp (by omega)]
    by_cases c : a_votes (p * 16 + i) = x
    · have e : cd_sm a_votes (p * 16) x (i + 1) = cd_sm a_votes (p * 16) x i + 1 := by rw [cd_smS, if_pos c]
      rw [e] at ih
      exact br_t c (nm_r (nI_1 _) (nm_r (nI_1 i) ih))
    · have e : cd_sm a_votes (p * 16) x (i + 1) = cd_sm a_votes (p * 16) x i := by rw [cd_smS, if_neg c]; rfl
      rw [e] at ih
      exact br_f c (nm_r (nI_1 i) ih)
theorem yr_vote {post : SY → Prop} {v : SY} (R : cy_R (f_rings, f_high, f_low, a_crashed, a_config, a_members, a_newestCut, a_reports, a_votes, a_myVote, a_promised, a_acceptedRound, a_acceptedValue, a_ownRound, a_phase, a_promisers, a_promiserRound, a_promiserValue, a_learnedRound, a_learnedFrom, a_learnedValue, a_slots) v) {p q : Nat} (hp : p < 16) (hq : q < 16) {x : Int32} (h : ∀ v', cy_R (cx_vote (f_rings, f_high, f_low, a_crashed, a_config, a_members, a_newestCut, a_reports, a_votes, a_myVote, a_promised, a_acceptedRound, a_acceptedValue, a_ownRound, a_phase, a_promisers, a_promiserRound, a_promiserValue, a_learnedRound, a_learnedFrom, a_learnedValue, a_slots) p q x) v' → post v') : wpY_onVote post v (nI p) (nI q) x (cd_fq (cd_ct (a_members p))) := by
  obtain ⟨a_pr, a_pv, a_sm, rfl, hK, Q, S⟩ := R
  unfold wpY_onVote
  dsimp only
  rw [cd_cl16 hp hq]
  refine ⟨cd_vi16 hp hq, ?_⟩
  unfold cx_vote at h
  dsimp only at h
  by_cases c : a_votes (p * 16 + q) = -1
  · rw [if_pos c] at h
    refine br_t c ⟨cd_vi16 hp hq, nm_e ⟨17, ?_⟩⟩
    refine yr_voteL hK Q S hp (fun z => ?_) (fun z => ?_) 16 0 rfl
    · rw [if_pos z] at h; exact h
    · rw [if_neg z] at h; exact h _ ⟨a_pr, a_pv, a_sm, rfl, hK, Q, S⟩
  · rw [if_neg c] at h
    exact br_f c (h _ ⟨a_pr, a_pv, a_sm, rfl, hK, Q, S⟩)
theorem yr_lrn {post : SY → Prop} (hK : ∃ K, K ≤ 6 ∧ f_rings = nI K) (Q : cy_Q a_promisers a_promiserRound a_promiserValue a_pr a_pv) (S : cy_S a_slots a_sm) {p q : Nat} (hp : p < 16) {f : Nat → Int32} (hf : f = upd a_learnedFrom p (a_learnedFrom p ||| (1 <<< (nI q &&& 31)))) (h : ∀ v', cy_R (cx_lrn (f_rings, f_high, f_low, a_crashed, a_config, a_members, a_newestCut, a_reports, a_votes, a_myVote, a_promised, a_acceptedRound, a_acceptedValue, a_ownRound, a_phase, a_promisers, a_promiserRound, a_promiserValue, a_learnedRound, a_learnedFrom, a_learnedValue, a_slots) p q) v' → post v') : wY_onAccepted_67 post (nI p) (cd_cq (cd_ct (a_members p))) f_rings f_high f_low a_crashed a_config a_members a_newestCut a_myVote a_promised a_acceptedRound a_acceptedValue a_ownRound a_phase a_promisers a_learnedRound f a_learnedValue a_reports a_votes a_pr a_pv a_sm := by
  subst hf
  unfold wY_onAccepted_67
  rw [cd_cl hp, pk_us]
  refine ⟨cd_vi hp, yw_ct ?_⟩
  unfold cx_lrn at h
  dsimp only at h
  by_cases c : cd_ct (a_learnedFrom p ||| (1 <<< (nI q &&& 31))) < cd_cq (cd_ct (a_members p))
  · rw [if_neg (Int32.not_le.mpr c)] at h
    exact br_t c (h _ ⟨a_pr, a_pv, a_sm, rfl, hK, Q, S⟩)
  · rw [if_pos (Int32.not_lt.mp c)] at h
    exact br_f c ⟨cd_vi hp, yr_dec ⟨a_pr, a_pv, a_sm, rfl, hK, Q, S⟩ hp (fun v' R' => cy_eta (h v' R'))⟩
theorem cd_uu {a : Nat → Int32} {p : Nat} {x y : Int32} : upd (upd a p x) p y = upd a p y := by
  funext j
  by_cases e : j = p
  · subst e; rw [pk_us, pk_us]
  · rw [pk_un e, pk_un e, pk_un e]
theorem yr_acd {post : SY → Prop} {v : SY} (R : cy_R (f_rings, f_high, f_low, a_crashed, a_config, a_members, a_newestCut, a_reports, a_votes, a_myVote, a_promised, a_acceptedRound, a_acceptedValue, a_ownRound, a_phase, a_promisers, a_promiserRound, a_promiserValue, a_learnedRound, a_learnedFrom, a_learnedValue, a_slots) v) {p q : Nat} (hp : p < 16) {x y : Int32} (h : ∀ v', cy_R (cx_acd (f_rings, f_high, f_low, a_crashed, a_config, a_members, a_newestCut, a_reports, a_votes, a_myVote, a_promised, a_acceptedRound, a_acceptedValue, a_ownRound, a_phase, a_promisers, a_promiserRound, a_promiserValue, a_learnedRound, a_learnedFrom, a_learnedValue, a_slots) p q x y) v' → post v') : wpY_onAccepted post v (nI p) (nI q) x y (cd_cq (cd_ct (a_members p))) := by
  obtain ⟨a_pr, a_pv, a_sm, rfl, hK, Q, S⟩ := R
  unfold wpY_onAccepted
  dsimp only
  rw [cd_cl hp]
  refine ⟨cd_vi hp, ?_⟩
  unfold cx_acd at h
  dsimp only at h
  by_cases c : x ≤ a_learnedRound p
  · refine br_t c ⟨cd_vi hp, ?_⟩
    by_cases c2 : x = a_learnedRound p
    · rw [if_neg (by rw [c2]; exact Int32.lt_irrefl), if_neg (by rw [c2]; exact Int32.lt_irrefl)] at h
      exact br_t c2 ⟨cd_vi hp, cd_vi hp, nm_e (yr_lrn hK Q S hp rfl h)⟩
    · have lt : x < a_learnedRound p := by
        rcases Int32.lt_or_eq_of_le c with a | a
        · exact a
        · exact absurd a c2
      rw [if_pos lt] at h
      exact br_f c2 (h _ ⟨a_pr, a_pv, a_sm, rfl, hK, Q, S⟩)
  · have lt := Int32.not_le.mp c
    rw [if_neg (fun z => Int32.lt_irrefl (Int32.lt_trans lt z)), if_pos lt] at h
    refine br_f c ⟨cd_vi hp, nm_e ⟨cd_vi hp, nm_e ⟨cd_vi hp, nm_e (yr_lrn hK Q S hp ?_ h)⟩⟩⟩
    rw [cd_uu, pk_us, Int32.zero_or]
end CD9
