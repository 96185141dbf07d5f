section CD6
variable {f_rings f_high f_low : Int32} {a_crashed a_config a_members a_newestCut a_reports a_votes a_myVote a_promised a_acceptedRound a_acceptedValue a_ownRound a_phase a_promisers a_promiserRound a_promiserValue a_learnedRound a_learnedFrom a_learnedValue a_slots : Nat → Int32}
theorem xw_ncL {post : Int32 → Prop} {p : Nat} (hp : p < 16) (h : post (cd_oi (cd_nc (a_promisers p) a_promiserRound (p * 16) 16).1)) : ∀ d q, q + d = 16 → wX_newestClassicPromiser_8 post (nI p) f_rings f_high f_low a_crashed a_config a_members a_newestCut a_reports a_votes a_myVote a_promised a_acceptedRound a_acceptedValue a_ownRound a_phase a_promisers a_promiserRound a_promiserValue a_learnedRound a_learnedFrom a_learnedValue a_slots (d + 1) (cd_oi (cd_nc (a_promisers p) a_promiserRound (p * 16) q).1) (cd_nc (a_promisers p) a_promiserRound (p * 16) q).2 (nI q) := by
  intro d
  induction d with
  | zero =>
    intro q hq
    have e : q = 16 := by omega
    subst e
    exact br_t (cd_at16 rfl) h
  | succ d ih =>
    intro q hq
    have ih := ih (q + 1) (by omega)
    refine br_f (cd_ge16 (by omega)) ⟨cd_vi hp, ?_⟩
    rw [cd_cl hp, cd_cl16 hp (by omega)]
    refine xw_has (by omega) (fun hb => ?_) (fun hb => ?_)
    · have e : cd_nc (a_promisers p) a_promiserRound (p * 16) (q + 1) = cd_nc (a_promisers p) a_promiserRound (p * 16) q := if_neg (fun z => by rw [hb] at z; exact absurd z.1 (by decide))
      rw [e] at ih
      exact br_t rfl (nm_r (nI_1 q) ih)
    · refine br_f (by decide) ⟨cd_vi16 hp (by omega), ?_⟩
      by_cases c : a_promiserRound (p * 16 + q) ≤ (cd_nc (a_promisers p) a_promiserRound (p * 16) q).2
      · have e : cd_nc (a_promisers p) a_promiserRound (p * 16) (q + 1) = cd_nc (a_promisers p) a_promiserRound (p * 16) q := if_neg (fun z => Int32.not_lt.mpr c z.2)
        rw [e] at ih
        exact br_t c (nm_r (nI_1 q) ih)
      · have e : cd_nc (a_promisers p) a_promiserRound (p * 16) (q + 1) = (some q, a_promiserRound (p * 16 + q)) := if_pos ⟨hb, Int32.not_le.mp c⟩
        rw [e] at ih
        exact br_f c ⟨cd_vi16 hp (by omega), nm_e (nm_r (nI_1 q) ih)⟩
theorem xw_nc {post : Int32 → Prop} {p : Nat} (hp : p < 16) (h : post (cd_oi (cd_nc (a_promisers p) a_promiserRound (p * 16) 16).1)) : wpX_newestClassicPromiser post (f_rings, f_high, f_low, a_crashed, a_config, a_members, a_newestCut, a_reports, a_votes, a_myVote, a_promised, a_acceptedRound, a_acceptedValue, a_ownRound, a_phase, a_promisers, a_promiserRound, a_promiserValue, a_learnedRound, a_learnedFrom, a_learnedValue, a_slots) (nI p) := ⟨17, xw_ncL hp h 16 0 rfl⟩
theorem xw_fpL {post : Int32 → Prop} {p : Nat} (hp : p < 16) (h : post (cd_fp (a_promisers p) a_promiserRound (p * 16) 16)) : ∀ d q, q + d = 16 → wX_fastPromisers_4 post (nI p) f_rings f_high f_low a_crashed a_config a_members a_newestCut a_reports a_votes a_myVote a_promised a_acceptedRound a_acceptedValue a_ownRound a_phase a_promisers a_promiserRound a_promiserValue a_learnedRound a_learnedFrom a_learnedValue a_slots (d + 1) (cd_fp (a_promisers p) a_promiserRound (p * 16) q) (nI q) := by
  intro d
  induction d with
  | zero =>
    intro q hq
    have e : q = 16 := by omega
    subst e
    exact br_t (cd_at16 rfl) h
  | succ d ih =>
    intro q hq
    have ih := ih (q + 1) (by omega)
    refine br_f (cd_ge16 (by omega)) ⟨cd_vi hp, ?_⟩
    rw [cd_cl hp, cd_cl16 hp (by omega)]
    refine xw_has (by omega) (fun hb => ?_) (fun hb => ?_)
    · have e : cd_fp (a_promisers p) a_promiserRound (p * 16) (q + 1) = cd_fp (a_promisers p) a_promiserRound (p * 16) q := if_neg (fun z => by rw [hb] at z; exact absurd z.1 (by decide))
      rw [e] at ih
      exact br_t rfl (nm_r (nI_1 q) ih)
    · refine br_f (by decide) ⟨cd_vi16 hp (by omega), ?_⟩
      by_cases c : a_promiserRound (p * 16 + q) = 0
      · have e : cd_fp (a_promisers p) a_promiserRound (p * 16) (q + 1) = cd_fp (a_promisers p) a_promiserRound (p * 16) q ||| (1 <<< (nI q &&& 31)) := if_pos ⟨hb, c⟩
        rw [e] at ih
        exact br_t c (nm_e (nm_r (nI_1 q) ih))
      · have e : cd_fp (a_promisers p) a_promiserRound (p * 16) (q + 1) = cd_fp (a_promisers p) a_promiserRound (p * 16) q := if_neg (fun z => c z.2)
        rw [e] at ih
        exact br_f c (nm_r (nI_1 q) ih)
theorem xw_fp {post : Int32 → Prop} {p : Nat} (hp : p < 16) (h : post (cd_fp (a_promisers p) a_promiserRound (p * 16) 16)) : wpX_fastPromisers post (f_rings, f_high, f_low, a_crashed, a_config, a_members, a_newestCut, a_reports, a_votes, a_myVote, a_promised, a_acceptedRound, a_acceptedValue, a_ownRound, a_phase, a_promisers, a_promiserRound, a_promiserValue, a_learnedRound, a_learnedFrom, a_learnedValue, a_slots) (nI p) := ⟨17, xw_fpL hp h 16 0 rfl⟩
theorem cd_svS {vs : Int32} {pv : Nat → Int32} {b : Nat} {w : Int32} {i : Nat} : cd_sv vs pv b w (i + 1) = cd_sv vs pv b w i + (if bt vs i = true ∧ pv (b + i) = w then 1 else 0) := rfl
theorem xw_pdI {post : Int32 → Prop} {J : Int32 → Prop} {p q : Nat} (hp : p < 16) (hq : q < 16) {vs en : Int32}
    (h1 : bt vs q = true ∧ en ≤ nI (cd_sv vs a_promiserValue (p * 16) (a_promiserValue (p * 16 + q)) 16) → post (nI q))
    (h2 : ¬ (bt vs q = true ∧ en ≤ nI (cd_sv vs a_promiserValue (p * 16) (a_promiserValue (p * 16 + q)) 16)) → J (nI (q + 1))) :
    ∀ d i, i + d = 16 → wX_possiblyDecisiveVoter_39 post J (nI p) vs en (nI q) f_rings f_high f_low a_crashed a_config a_members a_newestCut a_reports a_votes a_myVote a_promised a_acceptedRound a_acceptedValue a_ownRound a_phase a_promisers a_promiserRound a_promiserValue a_learnedRound a_learnedFrom a_learnedValue a_slots (d + 1) (nI (cd_sv vs a_promiserValue (p * 16) (a_promiserValue (p * 16 + q)) i)) (nI i) := by
  intro d
  induction d with
  | zero =>
    intro i hi
    have e : i = 16 := by omega
    subst e
    refine br_t (cd_at16 rfl) (xw_has (by omega) (fun hb => ?_) (fun hb => ?_))
    · exact br_t rfl (nm_r (nI_1 q) (h2 (fun z => by rw [hb] at z; exact absurd z.1 (by decide))))
    · refine br_f (by decide) (br_c (fun z => nm_r (nI_1 q) (h2 (fun y => Int32.not_le.mpr z y.2))) (fun z => h1 ⟨hb, Int32.not_lt.mp z⟩))
  | succ d ih =>
    intro i hi
    have ih := ih (i + 1) (by omega)
    refine br_f (cd_ge16 (by omega)) ?_
    rw [cd_cl16 hp hq, cd_cl16 hp (show i < 16 by omega)]
    rw [cd_svS] at ih
    refine xw_has (by omega) (fun hb => ?_) (fun hb => ?_)
    · rw [if_neg (fun z => by rw [hb] at z; exact absurd z.1 (by decide))] at ih
      exact br_t rfl (nm_r (nI_1 i) ih)
    · refine br_f (by decide) ⟨cd_vi16 hp (by omega), cd_vi16 hp hq, ?_⟩
      by_cases c : a_promiserValue (p * 16 + i) = a_promiserValue (p * 16 + q)
      · rw [if_pos ⟨hb, c⟩] at ih
        exact br_t c (nm_r (nI_1 _) (nm_r (nI_1 i) ih))
      · rw [if_neg (fun z => c z.2)] at ih
        exact br_f c (nm_r (nI_1 i) ih)
theorem xw_pdL {post : Int32 → Prop} {p : Nat} (hp : p < 16) {vs en : Int32} : ∀ d j, j + d = 16 → post (cd_oi (cd_pd vs a_promiserValue (p * 16) en d j)) → wX_possiblyDecisiveVoter_26 post (nI p) vs en f_rings f_high f_low a_crashed a_config a_members a_newestCut a_reports a_votes a_myVote a_promised a_acceptedRound a_acceptedValue a_ownRound a_phase a_promisers a_promiserRound a_promiserValue a_learnedRound a_learnedFrom a_learnedValue a_slots (d + 1) (nI j) := by
  intro d
  induction d with
  | zero =>
    intro j hj h
    have e : j = 16 := by omega
    subst e
    exact br_t (cd_at16 rfl) h
  | succ d ih =>
    intro j hj h
    refine br_f (cd_ge16 (by omega)) ⟨17, ?_⟩
    unfold cd_pd at h
    refine xw_pdI hp (by omega) (fun z => ?_) (fun z => ?_) 16 0 rfl
    · rw [if_pos z] at h; exact h
    · rw [if_neg z] at h; exact ih (j + 1) (by omega) h
theorem xw_pd {post : Int32 → Prop} {p : Nat} (hp : p < 16) {vs : Int32} (h : post (cd_oi (cd_pd vs a_promiserValue (p * 16) (cd_en (cd_ct (a_members p))) 16 0))) : wpX_possiblyDecisiveVoter post (f_rings, f_high, f_low, a_crashed, a_config, a_members, a_newestCut, a_reports, a_votes, a_myVote, a_promised, a_acceptedRound, a_acceptedValue, a_ownRound, a_phase, a_promisers, a_promiserRound, a_promiserValue, a_learnedRound, a_learnedFrom, a_learnedValue, a_slots) (nI p) vs := by
  unfold wpX_possiblyDecisiveVoter
  refine ⟨cd_vi hp, xw_ct (xw_fq (xw_cq ?_))⟩
  rw [cd_cl hp]
  exact nm_r (e' := cd_en (cd_ct (a_members p))) rfl ⟨17, xw_pdL hp 16 0 rfl h⟩
theorem xw_loL {post : Int32 → Prop} {vs : Int32} : ∀ d j, j + d = 16 → post (cd_oi (cd_lo vs d j)) → wX_leastOf_2 post vs (d + 1) (nI j) := by
  intro d
  induction d with
  | zero =>
    intro j hj h
    have e : j = 16 := by omega
    subst e
    exact br_t (cd_at16 rfl) h
  | succ d ih =>
    intro j hj h
    unfold cd_lo at h
    refine br_f (cd_ge16 (by omega)) (xw_has (by omega) (fun hb => ?_) (fun hb => ?_))
    · rw [if_neg (by rw [hb]; decide)] at h
      exact br_t rfl (nm_r (nI_1 j) (ih (j + 1) (by omega) h))
    · rw [if_pos hb] at h
      exact br_f (by decide) h
theorem xw_lo {post : Int32 → Prop} {vs : Int32} (h : post (cd_oi (cd_lo vs 16 0))) : wpX_leastOf post () vs := ⟨17, xw_loL 16 0 rfl h⟩
theorem cd_nc_lt {pm : Int32} {pr : Nat → Int32} {b : Nat} : ∀ n q0, (cd_nc pm pr b n).1 = some q0 → q0 < n := by
  intro n
  induction n with
  | zero => intro q0 h; exact absurd h (by unfold cd_nc; simp)
  | succ n ih =>
    intro q0 h
    unfold cd_nc at h
    by_cases c : bt pm n = true ∧ (cd_nc pm pr b n).2 < pr (b + n)
    · rw [if_pos c] at h
      cases h
      omega
    · rw [if_neg c] at h
      have := ih q0 h
      omega
theorem cd_pd_lt {vs en : Int32} {pv : Nat → Int32} {b : Nat} : ∀ d j q0, cd_pd vs pv b en d j = some q0 → q0 < j + d := by
  intro d
  induction d with
  | zero => intro j q0 h; exact absurd h (by unfold cd_pd; simp)
  | succ d ih =>
    intro j q0 h
    unfold cd_pd at h
    by_cases c : bt vs j = true ∧ en ≤ nI (cd_sv vs pv b (pv (b + j)) 16)
    · rw [if_pos c] at h
      cases h
      omega
    · rw [if_neg c] at h
      have := ih (j + 1) q0 h
      omega
theorem cd_lo_lt {vs : Int32} : ∀ d j q0, cd_lo vs d j = some q0 → q0 < j + d := by
  intro d
  induction d with
  | zero => intro j q0 h; exact absurd h (by unfold cd_lo; simp)
  | succ d ih =>
    intro j q0 h
    unfold cd_lo at h
    by_cases c : bt vs j = true
    · rw [if_pos c] at h
      cases h
      omega
    · rw [if_neg c] at h
      have := ih (j + 1) q0 h
      omega
theorem cd_ch_lt {pm m : Int32} {pr pv : Nat → Int32} {b q0 : Nat} (h : cd_ch pm m pr pv b = some q0) : q0 < 16 := by
  unfold cd_ch at h
  cases e1 : (cd_nc pm pr b 16).1 with
  | some q => rw [e1] at h; cases h; exact cd_nc_lt 16 q0 e1
  | none =>
    rw [e1] at h
    dsimp only at h
    cases e2 : cd_pd (cd_fp pm pr b 16) pv b (cd_en (cd_ct m)) 16 0 with
    | some q => rw [e2] at h; cases h; have := cd_pd_lt 16 0 q0 e2; omega
    | none => rw [e2] at h; have := cd_lo_lt 16 0 q0 h; omega
theorem xw_ch {post : Int32 → Prop} {p : Nat} (hp : p < 16) (h : post (cd_oi (cd_ch (a_promisers p) (a_members p) a_promiserRound a_promiserValue (p * 16)))) : wpX_chosenPromiser post (f_rings, f_high, f_low, a_crashed, a_config, a_members, a_newestCut, a_reports, a_votes, a_myVote, a_promised, a_acceptedRound, a_acceptedValue, a_ownRound, a_phase, a_promisers, a_promiserRound, a_promiserValue, a_learnedRound, a_learnedFrom, a_learnedValue, a_slots) (nI p) := by
  unfold wpX_chosenPromiser
  refine xw_nc hp ?_
  unfold cd_ch at h
  cases e1 : (cd_nc (a_promisers p) a_promiserRound (p * 16) 16).1 with
  | some q =>
    rw [e1] at h
    have := cd_nc_lt 16 q e1
    exact br_f (cd_ne1 (by omega)) h
  | none =>
    rw [e1] at h
    dsimp only at h
    refine br_t rfl (xw_fp hp (xw_pd hp ?_))
    cases e2 : cd_pd (cd_fp (a_promisers p) a_promiserRound (p * 16) 16) a_promiserValue (p * 16) (cd_en (cd_ct (a_members p))) 16 0 with
    | some q =>
      rw [e2] at h
      have := cd_pd_lt 16 0 q e2
      exact br_f (cd_ne1 (by omega)) h
    | none =>
      rw [e2] at h
      exact br_t rfl (xw_lo h)
theorem xw_prom {post : St2 → Prop} {p q : Nat} (hp : p < 16) (hq : q < 16) {x y z : Int32} (h : post (cx_prom (f_rings, f_high, f_low, a_crashed, a_config, a_members, a_newestCut, a_reports, a_votes, a_myVote, a_promised, a_acceptedRound, a_acceptedValue, a_ownRound, a_phase, a_promisers, a_promiserRound, a_promiserValue, a_learnedRound, a_learnedFrom, a_learnedValue, a_slots) p q x y z)) : wpX_onPromise post (f_rings, f_high, f_low, a_crashed, a_config, a_members, a_newestCut, a_reports, a_votes, a_myVote, a_promised, a_acceptedRound, a_acceptedValue, a_ownRound, a_phase, a_promisers, a_promiserRound, a_promiserValue, a_learnedRound, a_learnedFrom, a_learnedValue, a_slots) (nI p) (nI q) x y z := by
  unfold wpX_onPromise
  dsimp only
  rw [cd_cl hp, cd_cl16 hp hq]
  refine ⟨cd_vi hp, ?_⟩
  unfold cx_prom at h
  dsimp only at h
  by_cases c1 : a_phase p = 1
  · refine br_t c1 ⟨cd_vi hp, ?_⟩
    by_cases c2 : x = a_ownRound p
    · refine br_t c2 ⟨cd_vi hp, xw_has (by omega) (fun hb => ?_) (fun hb => ?_)⟩
      · rw [if_pos ⟨c1, c2, hb⟩] at h
        refine br_t rfl ⟨cd_vi hp, cd_vi hp, nm_e ⟨cd_vi16 hp hq, nm_e ⟨cd_vi16 hp hq, nm_e ⟨cd_vi hp, xw_ct ⟨cd_vi hp, ?_⟩⟩⟩⟩⟩
        rw [pk_us]
        refine xw_ct (xw_cq ?_)
        by_cases c3 : cd_ct (a_promisers p ||| (1 <<< (nI q &&& 31))) = cd_cq (cd_ct (a_members p))
        · rw [if_pos c3] at h
          refine br_t c3 (xw_ch hp ?_)
          unfold cx_choose at h
          dsimp only at h
          cases e : cd_ch (upd a_promisers p (a_promisers p ||| (1 <<< (nI q &&& 31))) p) (a_members p) (upd a_promiserRound (p * 16 + q) y) (upd a_promiserValue (p * 16 + q) z) (p * 16) with
          | some q0 =>
            rw [e] at h
            have h16 := cd_ch_lt e
            refine br_f (cd_ne1 (by omega)) (br_f (cd_ne1 (by omega)) ⟨cd_vi16 hp h16, ?_⟩)
            rw [show cd_oi (some q0) = nI q0 from rfl, cd_cl16 hp h16]
            unfold wX_onPromise_159
            rw [cd_cl hp]
            exact ⟨cd_vi hp, nm_e ⟨cd_vi hp, cd_vi hp, xw_send hp h⟩⟩
          | none =>
            rw [e] at h
            dsimp only at h
            refine br_t rfl ⟨cd_vi hp, ?_⟩
            by_cases c4 : a_myVote p = -1
            · rw [if_pos c4] at h
              exact br_t c4 ⟨cd_vi hp, nm_e h⟩
            · rw [if_neg c4] at h
              refine br_f c4 (br_t rfl ⟨cd_vi hp, ?_⟩)
              unfold wX_onPromise_159
              rw [cd_cl hp]
              exact ⟨cd_vi hp, nm_e ⟨cd_vi hp, cd_vi hp, xw_send hp h⟩⟩
        · rw [if_neg c3] at h
          exact br_f c3 h
      · rw [if_neg (fun w => by rw [hb] at w; exact absurd w.2.2 (by decide))] at h
        exact br_f (by decide) h
    · rw [if_neg (fun w => c2 w.2.1)] at h
      exact br_f c2 h
  · rw [if_neg (fun w => c1 w.1)] at h
    exact br_f c1 h
theorem xw_acc {post : St2 → Prop} {p : Nat} (hp : p < 16) {x y : Int32} (h : post (cx_acc (f_rings, f_high, f_low, a_crashed, a_config, a_members, a_newestCut, a_reports, a_votes, a_myVote, a_promised, a_acceptedRound, a_acceptedValue, a_ownRound, a_phase, a_promisers, a_promiserRound, a_promiserValue, a_learnedRound, a_learnedFrom, a_learnedValue, a_slots) p x y)) : wpX_onAccept post (f_rings, f_high, f_low, a_crashed, a_config, a_members, a_newestCut, a_reports, a_votes, a_myVote, a_promised, a_acceptedRound, a_acceptedValue, a_ownRound, a_phase, a_promisers, a_promiserRound, a_promiserValue, a_learnedRound, a_learnedFrom, a_learnedValue, a_slots) (nI p) x y := by
  unfold wpX_onAccept
  dsimp only
  rw [cd_cl hp]
  refine ⟨cd_vi hp, ?_⟩
  unfold cx_acc at h
  dsimp only at h
  by_cases c : x < a_promised p
  · rw [if_neg (Int32.not_le.mpr c)] at h
    exact br_t c h
  · rw [if_pos (Int32.not_lt.mp c)] at h
    exact br_f c ⟨cd_vi hp, nm_e ⟨cd_vi hp, nm_e ⟨cd_vi hp, nm_e ⟨cd_vi hp, xw_send hp h⟩⟩⟩⟩
theorem xw_lrn {post : St2 → Prop} {p q : Nat} (hp : p < 16) (h : post (cx_lrn (f_rings, f_high, f_low, a_crashed, a_config, a_members, a_newestCut, a_reports, a_votes, a_myVote, a_promised, a_acceptedRound, a_acceptedValue, a_ownRound, a_phase, a_promisers, a_promiserRound, a_promiserValue, a_learnedRound, a_learnedFrom, a_learnedValue, a_slots) p q)) : wX_onAccepted_43 post (nI p) (nI q) f_rings f_high f_low a_crashed a_config a_members a_newestCut a_reports a_votes a_myVote a_promised a_acceptedRound a_acceptedValue a_ownRound a_phase a_promisers a_promiserRound a_promiserValue a_learnedRound a_learnedFrom a_learnedValue a_slots := by
  unfold wX_onAccepted_43
  rw [cd_cl hp]
  refine ⟨cd_vi hp, cd_vi hp, nm_e ⟨cd_vi hp, xw_ct ⟨cd_vi hp, ?_⟩⟩⟩
  rw [pk_us]
  refine xw_ct (xw_cq ?_)
  unfold cx_lrn at h
  dsimp only at h
  by_cases c : cd_ct (a_learnedFrom p ||| (1 <<< (nI q &&& 31))) < cd_cq (cd_ct (a_members p))
  · rw [if_neg (Int32.not_le.mpr c)] at h
    exact br_t c h
  · rw [if_pos (Int32.not_lt.mp c)] at h
    exact br_f c ⟨cd_vi hp, xw_dec hp (cx_eta h)⟩
theorem xw_acd {post : St2 → Prop} {p q : Nat} (hp : p < 16) {x y : Int32} (h : post (cx_acd (f_rings, f_high, f_low, a_crashed, a_config, a_members, a_newestCut, a_reports, a_votes, a_myVote, a_promised, a_acceptedRound, a_acceptedValue, a_ownRound, a_phase, a_promisers, a_promiserRound, a_promiserValue, a_learnedRound, a_learnedFrom, a_learnedValue, a_slots) p q x y)) : wpX_onAccepted post (f_rings, f_high, f_low, a_crashed, a_config, a_members, a_newestCut, a_reports, a_votes, a_myVote, a_promised, a_acceptedRound, a_acceptedValue, a_ownRound, a_phase, a_promisers, a_promiserRound, a_promiserValue, a_learnedRound, a_learnedFrom, a_learnedValue, a_slots) (nI p) (nI q) x y := by
  unfold wpX_onAccepted
  dsimp only
  rw [cd_cl hp]
  refine ⟨cd_vi hp, ?_⟩
  unfold cx_acd at h
  dsimp only at h
  by_cases c : a_learnedRound p ≤ x
  · rw [if_neg (Int32.not_lt.mpr c)] at h
    refine br_t c ⟨cd_vi hp, ?_⟩
    by_cases c2 : x ≤ a_learnedRound p
    · rw [if_neg (Int32.not_lt.mpr c2)] at h
      exact br_t c2 (xw_lrn hp h)
    · rw [if_pos (Int32.not_le.mp c2)] at h
      exact br_f c2 ⟨cd_vi hp, nm_e ⟨cd_vi hp, nm_e ⟨cd_vi hp, nm_e (xw_lrn hp h)⟩⟩⟩
  · rw [if_pos (Int32.not_le.mp c)] at h
    exact br_f c h
theorem xw_mem {post : St2 → Prop} {p q : Nat} (hp : p < 16) (hq : q < 16) {kind c x y z : Int32} (hx : kind = 1 → ∃ s, s < 16 ∧ x = nI s) (h : post (cx_mem (f_rings, f_high, f_low, a_crashed, a_config, a_members, a_newestCut, a_reports, a_votes, a_myVote, a_promised, a_acceptedRound, a_acceptedValue, a_ownRound, a_phase, a_promisers, a_promiserRound, a_promiserValue, a_learnedRound, a_learnedFrom, a_learnedValue, a_slots) p q kind c x y z)) : wpX_receiveAsMember post (f_rings, f_high, f_low, a_crashed, a_config, a_members, a_newestCut, a_reports, a_votes, a_myVote, a_promised, a_acceptedRound, a_acceptedValue, a_ownRound, a_phase, a_promisers, a_promiserRound, a_promiserValue, a_learnedRound, a_learnedFrom, a_learnedValue, a_slots) (nI p) kind (nI q) c x y z := by
  unfold wpX_receiveAsMember
  dsimp only
  rw [cd_cl hp]
  refine ⟨cd_vi hp, ?_⟩
  unfold cx_mem at h
  dsimp only at h
  by_cases c1 : a_config p ≤ c
  · rw [if_neg (Int32.not_lt.mpr c1)] at h
    refine br_t c1 ⟨cd_vi hp, ?_⟩
    by_cases c2 : c ≤ a_config p
    · rw [if_neg (Int32.not_lt.mpr c2)] at h
      refine br_t c2 ?_
      by_cases k0 : kind < 1
      · have n : ∀ j : Int32, 1 ≤ j → ¬ kind = j := fun j hj e => absurd (Int32.lt_of_lt_of_le k0 (Int32.le_trans hj (by rw [e]; exact Int32.le_refl _))) (Int32.lt_irrefl)
        rw [if_neg (n 1 (by decide)), if_neg (n 2 (by decide)), if_neg (n 3 (by decide)), if_neg (n 4 (by decide)), if_neg (n 5 (by decide)), if_neg (n 6 (by decide))] at h
        exact br_t k0 h
      refine br_f k0 ?_
      by_cases k7 : 6 < kind
      · have n : ∀ j : Int32, j ≤ 6 → ¬ kind = j := fun j hj e => absurd (Int32.lt_of_lt_of_le k7 (by rw [e]; exact hj)) (Int32.lt_irrefl)
        rw [if_neg (n 1 (by decide)), if_neg (n 2 (by decide)), if_neg (n 3 (by decide)), if_neg (n 4 (by decide)), if_neg (n 5 (by decide)), if_neg (n 6 (by decide))] at h
        exact br_t k7 h
      refine br_f k7 ?_
      by_cases k1 : kind = 1
      · rw [if_pos k1] at h
        obtain ⟨s, hs, e⟩ := hx k1
        subst e
        rw [cd_cl hs] at h
        exact br_t k1 (xw_alert hp hs (cx_eta h))
      rw [if_neg k1] at h
      refine br_f k1 ?_
      by_cases k2 : kind = 2
      · rw [if_pos k2] at h
        exact br_t k2 (xw_vote hp hq (cx_eta h))
      rw [if_neg k2] at h
      refine br_f k2 ?_
      by_cases k3 : kind = 3
      · rw [if_pos k3] at h
        exact br_t k3 (xw_prep hp (cx_eta h))
      rw [if_neg k3] at h
      refine br_f k3 ?_
      by_cases k4 : kind = 4
      · rw [if_pos k4] at h
        exact br_t k4 (xw_prom hp hq (cx_eta h))
      rw [if_neg k4] at h
      refine br_f k4 ?_
      by_cases k5 : kind = 5
      · rw [if_pos k5] at h
        exact br_t k5 (xw_acc hp (cx_eta h))
      rw [if_neg k5] at h
      refine br_f k5 ?_
      by_cases k6 : kind = 6
      · rw [if_pos k6] at h
        exact br_t k6 (xw_acd hp (cx_eta h))
      · exact br_f k6 trivial
    · rw [if_pos (Int32.not_le.mp c2)] at h
      exact br_f c2 h
  · rw [if_pos (Int32.not_le.mp c1)] at h
    refine br_f c1 ?_
    by_cases e : q = p
    · rw [if_pos e] at h
      exact br_t (by rw [e]) h
    · rw [if_neg e] at h
      exact br_f (fun z => e ((nI_eq (by omega) (by omega)).mp z)) ⟨cd_vi hp, cd_vi hp, xw_send hp h⟩
end CD6
