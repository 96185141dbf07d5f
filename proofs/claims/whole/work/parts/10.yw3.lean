section CD10
variable {f_rings f_high f_low : Int32} {a_crashed a_config a_members a_newestCut a_reports a_votes a_myVote a_promised a_acceptedRound a_acceptedValue a_ownRound a_phase a_promisers a_promiserRound a_promiserValue a_learnedRound a_learnedFrom a_learnedValue a_slots a_pr a_pv a_sm : Nat → Int32}
theorem cd_fp_bt {pm : Int32} {pr : Nat → Int32} {b : Nat} : ∀ n, n ≤ 32 → ∀ q, q < 32 → (bt (cd_fp pm pr b n) q = true ↔ q < n ∧ bt pm q = true ∧ pr (b + q) = 0) := by
  intro n
  induction n with
  | zero =>
    intro _ q _
    unfold cd_fp
    rw [b_0]
    exact ⟨fun z => absurd z (by decide), fun z => absurd z.1 (Nat.not_lt_zero q)⟩
  | succ n ih =>
    intro hn q hq
    have ih := ih (by omega) q hq
    have e0 : cd_fp pm pr b (n + 1) = if bt pm n = true ∧ pr (b + n) = 0 then cd_fp pm pr b n ||| (1 <<< (nI n &&& 31)) else cd_fp pm pr b n := rfl
    rw [e0]
    by_cases c : bt pm n = true ∧ pr (b + n) = 0
    · rw [if_pos c, b_or, cd_shl1 n (by omega) hq, Bool.or_eq_true_iff, ih, decide_eq_true_iff]
      constructor
      · rintro (a | a)
        · exact ⟨by omega, a.2⟩
        · subst a; exact ⟨by omega, c⟩
      · intro a
        by_cases e : q = n
        · exact Or.inr e
        · exact Or.inl ⟨by omega, a.2⟩
    · rw [if_neg c, ih]
      constructor
      · intro a; exact ⟨by omega, a.2⟩
      · intro a
        by_cases e : q = n
        · subst e; exact absurd a.2 c
        · exact ⟨by omega, a.2⟩
theorem cd_fp_b {pm : Int32} {pr : Nat → Int32} {b q : Nat} (hq : q < 16) : bt (cd_fp pm pr b 16) q = true ↔ bt pm q = true ∧ pr (b + q) = 0 := by
  rw [cd_fp_bt 16 (by omega) q (by omega)]
  exact ⟨fun z => z.2, fun z => ⟨hq, z⟩⟩
theorem yr_f1 {post : SY → Prop} (hK : ∃ K, K ≤ 6 ∧ f_rings = nI K) (Q : cy_Q a_promisers a_promiserRound a_promiserValue a_pr a_pv) (S : cy_S a_slots a_sm) {p : Nat} (hp : p < 16) {v : Int32} (h : ∀ v', cy_R (cx_send (f_rings, f_high, f_low, a_crashed, a_config, a_members, a_newestCut, a_reports, a_votes, a_myVote, a_promised, a_acceptedRound, a_acceptedValue, a_ownRound, upd a_phase p 2, a_promisers, a_promiserRound, a_promiserValue, a_learnedRound, a_learnedFrom, a_learnedValue, a_slots) p 5 (a_ownRound p) v 0 (a_members p)) v' → post v') : wY_choose_341 post (nI p) v 1 f_rings f_high f_low a_crashed a_config a_members a_newestCut a_myVote a_promised a_acceptedRound a_acceptedValue a_ownRound a_phase a_promisers a_learnedRound a_learnedFrom a_learnedValue a_reports a_votes a_pr a_pv a_sm := by
  unfold wY_choose_341
  rw [cd_cl hp]
  exact br_f (by decide) ⟨cd_vi hp, nm_e ⟨cd_vi hp, cd_vi hp, yr_send ⟨a_pr, a_pv, a_sm, rfl, hK, Q, S⟩ hp (fun z => absurd z (by decide)) (fun v' R' => cy_eta (h v' R'))⟩⟩
theorem yr_f0 {post : SY → Prop} {p : Nat} (hp : p < 16) {v : Int32} (h : post (f_rings, f_high, f_low, a_crashed, a_config, a_members, a_newestCut, a_myVote, a_promised, a_acceptedRound, a_acceptedValue, a_ownRound, upd a_phase p 0, a_promisers, a_learnedRound, a_learnedFrom, a_learnedValue, a_reports, a_votes, a_pr, a_pv, a_sm)) : wY_choose_341 post (nI p) v 0 f_rings f_high f_low a_crashed a_config a_members a_newestCut a_myVote a_promised a_acceptedRound a_acceptedValue a_ownRound a_phase a_promisers a_learnedRound a_learnedFrom a_learnedValue a_reports a_votes a_pr a_pv a_sm := by
  unfold wY_choose_341
  rw [cd_cl hp]
  exact br_t rfl ⟨cd_vi hp, nm_e h⟩
theorem yr_c3i {post : SY → Prop} {x v : Int32} (h : wY_choose_341 post x v 1 f_rings f_high f_low a_crashed a_config a_members a_newestCut a_myVote a_promised a_acceptedRound a_acceptedValue a_ownRound a_phase a_promisers a_learnedRound a_learnedFrom a_learnedValue a_reports a_votes a_pr a_pv a_sm) : ∀ d j, j + d = 16 → wY_choose_252 post x f_rings f_high f_low a_crashed a_config a_members a_newestCut a_myVote a_promised a_acceptedRound a_acceptedValue a_ownRound a_phase a_promisers a_learnedRound a_learnedFrom a_learnedValue a_reports a_votes a_pr a_pv a_sm (d + 1) v 1 (nI j) := by
  intro d
  induction d with
  | zero =>
    intro j hj
    exact br_t (cd_at16 (by omega)) (br_f (by decide) h)
  | succ d ih =>
    intro j hj
    exact br_f (cd_ge16 (by omega)) (br_f (by decide) (nm_r (nI_1 j) (ih (j + 1) (by omega))))
theorem yr_c3 {post : SY → Prop} (Q : cy_Q a_promisers a_promiserRound a_promiserValue a_pr a_pv) {p : Nat} (hp : p < 16) :
    ∀ d j v0, j + d = 16 → ((cd_lo (cd_fp (a_promisers p) a_promiserRound (p * 16) 16) d j = none ∧ (a_myVote p = -1 → ∀ v0, wY_choose_341 post (nI p) v0 0 f_rings f_high f_low a_crashed a_config a_members a_newestCut a_myVote a_promised a_acceptedRound a_acceptedValue a_ownRound a_phase a_promisers a_learnedRound a_learnedFrom a_learnedValue a_reports a_votes a_pr a_pv a_sm) ∧ (¬ a_myVote p = -1 → wY_choose_341 post (nI p) (a_myVote p) 1 f_rings f_high f_low a_crashed a_config a_members a_newestCut a_myVote a_promised a_acceptedRound a_acceptedValue a_ownRound a_phase a_promisers a_learnedRound a_learnedFrom a_learnedValue a_reports a_votes a_pr a_pv a_sm)) ∨ ∃ q, cd_lo (cd_fp (a_promisers p) a_promiserRound (p * 16) 16) d j = some q ∧ wY_choose_341 post (nI p) (a_promiserValue (p * 16 + q)) 1 f_rings f_high f_low a_crashed a_config a_members a_newestCut a_myVote a_promised a_acceptedRound a_acceptedValue a_ownRound a_phase a_promisers a_learnedRound a_learnedFrom a_learnedValue a_reports a_votes a_pr a_pv a_sm) → wY_choose_252 post (nI p) f_rings f_high f_low a_crashed a_config a_members a_newestCut a_myVote a_promised a_acceptedRound a_acceptedValue a_ownRound a_phase a_promisers a_learnedRound a_learnedFrom a_learnedValue a_reports a_votes a_pr a_pv a_sm (d + 1) v0 0 (nI j) := by
  intro d
  induction d with
  | zero =>
    intro j v0 hj h
    refine br_t (cd_at16 (by omega)) (br_t rfl ⟨cd_vi hp, ?_⟩)
    rw [cd_cl hp]
    rcases h with ⟨_, hN1, hN2⟩ | ⟨q, h, _⟩
    · exact br_c (fun z => hN1 z v0) (fun z => ⟨cd_vi hp, nm_e (hN2 z)⟩)
    · exact absurd h (by unfold cd_lo; simp)
  | succ d ih =>
    intro j v0 hj h
    have hv := cd_fp_b (pm := a_promisers p) (pr := a_promiserRound) (b := p * 16) (show j < 16 by omega)
    have e0 : cd_lo (cd_fp (a_promisers p) a_promiserRound (p * 16) 16) (d + 1) j = if bt (cd_fp (a_promisers p) a_promiserRound (p * 16) 16) j = true then some j else cd_lo (cd_fp (a_promisers p) a_promiserRound (p * 16) 16) d (j + 1) := rfl
    rw [e0] at h
    refine br_f (cd_ge16 (by omega)) (br_t rfl ⟨cd_vi hp, ?_⟩)
    rw [cd_cl hp, cd_cl16 hp (show j < 16 by omega)]
    refine yw_has (by omega) (fun hb => ?_) (fun hb => ?_)
    · rw [if_neg (fun z => by rw [hv, hb] at z; exact absurd z.1 (by decide))] at h
      exact br_t rfl (nm_r (nI_1 j) (ih (j + 1) v0 (by omega) h))
    · obtain ⟨e1, e2⟩ := Q p j hp (by omega) hb
      refine br_f (by decide) ⟨cd_vi16 hp (by omega), ?_⟩
      rw [e1]
      by_cases z : a_promiserRound (p * 16 + j) = 0
      · rw [if_pos (hv.mpr ⟨hb, z⟩)] at h
        rcases h with h | ⟨q, h, hh⟩
        · exact absurd h.1 (by simp)
        · cases h
          refine br_t z ⟨cd_vi16 hp (by omega), nm_r e2 (nm_r (nI_1 j) ?_)⟩
          exact yr_c3i hh d (j + 1) (by omega)
      · rw [if_neg (fun w => z (hv.mp w).2)] at h
        exact br_f z (nm_r (nI_1 j) (ih (j + 1) v0 (by omega) h))
theorem yr_c2i {post : SY → Prop} {x t v : Int32} (h : wY_choose_341 post x v 1 f_rings f_high f_low a_crashed a_config a_members a_newestCut a_myVote a_promised a_acceptedRound a_acceptedValue a_ownRound a_phase a_promisers a_learnedRound a_learnedFrom a_learnedValue a_reports a_votes a_pr a_pv a_sm) : ∀ d j, j + d = 16 → wY_choose_106 post x t f_rings f_high f_low a_crashed a_config a_members a_newestCut a_myVote a_promised a_acceptedRound a_acceptedValue a_ownRound a_phase a_promisers a_learnedRound a_learnedFrom a_learnedValue a_reports a_votes a_pr a_pv a_sm (d + 1) v 1 (nI j) := by
  intro d
  induction d with
  | zero =>
    intro j hj
    exact br_t (cd_at16 (by omega)) ⟨17, yr_c3i h 16 0 rfl⟩
  | succ d ih =>
    intro j hj
    exact br_f (cd_ge16 (by omega)) (br_f (by decide) (nm_r (nI_1 j) (ih (j + 1) (by omega))))
theorem yr_c2n {post : SY → Prop} {J : Int32 → Int32 → Int32 → Prop} (Q : cy_Q a_promisers a_promiserRound a_promiserValue a_pr a_pv) {p : Nat} (hp : p < 16) {j : Nat} {t v0 w : Int32}
    (h1 : t ≤ nI (cd_sv (cd_fp (a_promisers p) a_promiserRound (p * 16) 16) a_promiserValue (p * 16) w 16) → J w 1 (nI (j + 1)))
    (h2 : ¬ t ≤ nI (cd_sv (cd_fp (a_promisers p) a_promiserRound (p * 16) 16) a_promiserValue (p * 16) w 16) → J v0 0 (nI (j + 1))) :
    ∀ d i, i + d = 16 → wY_choose_168 post J (nI p) t v0 0 (nI j) w f_rings f_high f_low a_crashed a_config a_members a_newestCut a_myVote a_promised a_acceptedRound a_acceptedValue a_ownRound a_phase a_promisers a_learnedRound a_learnedFrom a_learnedValue a_reports a_votes a_pr a_pv a_sm (d + 1) (nI (cd_sv (cd_fp (a_promisers p) a_promiserRound (p * 16) 16) a_promiserValue (p * 16) w i)) (nI i) := by
  intro d
  induction d with
  | zero =>
    intro i hi
    have e : i = 16 := by omega
    subst e
    exact br_t (cd_at16 rfl) (br_c (fun z => nm_r (nI_1 j) (h2 (Int32.not_le.mpr z))) (fun z => nm_r (nI_1 j) (h1 (Int32.not_lt.mp z))))
  | succ d ih =>
    intro i hi
    have ih := ih (i + 1) (by omega)
    have hv := cd_fp_b (pm := a_promisers p) (pr := a_promiserRound) (b := p * 16) (show i < 16 by omega)
    rw [cd_svS] at ih
    refine br_f (cd_ge16 (by omega)) ⟨cd_vi hp, ?_⟩
    rw [cd_cl hp, cd_cl16 hp (show i < 16 by omega)]
    refine yw_has (by omega) (fun hb => ?_) (fun hb => ?_)
    · rw [if_neg (fun z => by rw [hv, hb] at z; exact absurd z.1.1 (by decide))] at ih
      exact br_t rfl (nm_r (nI_1 i) ih)
    · obtain ⟨e1, e2⟩ := Q p i hp (by omega) hb
      refine br_f (by decide) ⟨cd_vi16 hp (by omega), ?_⟩
      rw [e1, e2]
      by_cases z : a_promiserRound (p * 16 + i) = 0
      · refine br_t z ⟨cd_vi16 hp (by omega), ?_⟩
        by_cases z2 : a_promiserValue (p * 16 + i) = w
        · rw [if_pos ⟨hv.mpr ⟨hb, z⟩, z2⟩] at ih
          exact br_t z2 (nm_r (nI_1 _) (nm_r (nI_1 i) ih))
        · rw [if_neg (fun y => z2 y.2)] at ih
          exact br_f z2 (nm_r (nI_1 i) ih)
      · rw [if_neg (fun y => z (hv.mp y.1).2)] at ih
        exact br_f z (nm_r (nI_1 i) ih)
theorem yr_c2 {post : SY → Prop} (Q : cy_Q a_promisers a_promiserRound a_promiserValue a_pr a_pv) {p : Nat} (hp : p < 16) {t : Int32} :
    ∀ d j v0, j + d = 16 → ((cd_pd (cd_fp (a_promisers p) a_promiserRound (p * 16) 16) a_promiserValue (p * 16) t d j = none ∧ ∃ n, wY_choose_252 post (nI p) f_rings f_high f_low a_crashed a_config a_members a_newestCut a_myVote a_promised a_acceptedRound a_acceptedValue a_ownRound a_phase a_promisers a_learnedRound a_learnedFrom a_learnedValue a_reports a_votes a_pr a_pv a_sm n v0 0 0) ∨ ∃ q, cd_pd (cd_fp (a_promisers p) a_promiserRound (p * 16) 16) a_promiserValue (p * 16) t d j = some q ∧ wY_choose_341 post (nI p) (a_promiserValue (p * 16 + q)) 1 f_rings f_high f_low a_crashed a_config a_members a_newestCut a_myVote a_promised a_acceptedRound a_acceptedValue a_ownRound a_phase a_promisers a_learnedRound a_learnedFrom a_learnedValue a_reports a_votes a_pr a_pv a_sm) → wY_choose_106 post (nI p) t f_rings f_high f_low a_crashed a_config a_members a_newestCut a_myVote a_promised a_acceptedRound a_acceptedValue a_ownRound a_phase a_promisers a_learnedRound a_learnedFrom a_learnedValue a_reports a_votes a_pr a_pv a_sm (d + 1) v0 0 (nI j) := by
  intro d
  induction d with
  | zero =>
    intro j v0 hj h
    rcases h with h | ⟨q, h, _⟩
    · exact br_t (cd_at16 (by omega)) h.2
    · exact absurd h (by unfold cd_pd; simp)
  | succ d ih =>
    intro j v0 hj h
    have hv := cd_fp_b (pm := a_promisers p) (pr := a_promiserRound) (b := p * 16) (show j < 16 by omega)
    have e0 : cd_pd (cd_fp (a_promisers p) a_promiserRound (p * 16) 16) a_promiserValue (p * 16) t (d + 1) j = if bt (cd_fp (a_promisers p) a_promiserRound (p * 16) 16) j = true ∧ t ≤ nI (cd_sv (cd_fp (a_promisers p) a_promiserRound (p * 16) 16) a_promiserValue (p * 16) (a_promiserValue (p * 16 + j)) 16) then some j else cd_pd (cd_fp (a_promisers p) a_promiserRound (p * 16) 16) a_promiserValue (p * 16) t d (j + 1) := rfl
    rw [e0] at h
    refine br_f (cd_ge16 (by omega)) (br_t rfl ⟨cd_vi hp, ?_⟩)
    rw [cd_cl hp, cd_cl16 hp (show j < 16 by omega)]
    refine yw_has (by omega) (fun hb => ?_) (fun hb => ?_)
    · rw [if_neg (fun z => by rw [hv, hb] at z; exact absurd z.1.1 (by decide))] at h
      exact br_t rfl (nm_r (nI_1 j) (ih (j + 1) v0 (by omega) h))
    · obtain ⟨e1, e2⟩ := Q p j hp (by omega) hb
      refine br_f (by decide) ⟨cd_vi16 hp (by omega), ?_⟩
      rw [e1]
      by_cases z : a_promiserRound (p * 16 + j) = 0
      · refine br_t z ⟨cd_vi16 hp (by omega), nm_r e2 ⟨17, ?_⟩⟩
        refine yr_c2n Q hp (fun g => ?_) (fun g => ?_) 16 0 rfl
        · rw [if_pos ⟨hv.mpr ⟨hb, z⟩, g⟩] at h
          rcases h with h | ⟨q, h, hh⟩
          · exact absurd h.1 (by simp)
          · cases h
            exact yr_c2i hh d (j + 1) (by omega)
        · rw [if_neg (fun w => g w.2)] at h
          exact ih (j + 1) v0 (by omega) h
      · rw [if_neg (fun w => z (hv.mp w.1).2)] at h
        exact br_f z (nm_r (nI_1 j) (ih (j + 1) v0 (by omega) h))
theorem cd_15 (x : Int32) : (15 : Int32) < x ↔ ¬ x < 16 := by
  rw [Int32.not_lt, Int32.lt_iff_toInt_lt, Int32.le_iff_toInt_le]
  have h1 : (15 : Int32).toInt = 15 := by decide
  have h2 : (16 : Int32).toInt = 16 := by decide
  rw [h1, h2]
  omega
theorem yr_c1 {post : SY → Prop} (Q : cy_Q a_promisers a_promiserRound a_promiserValue a_pr a_pv) {p : Nat} (hp : p < 16) {t : Int32}
    (h : ((cd_nc (a_promisers p) a_promiserRound (p * 16) 16).1 = none ∧ ∃ n, wY_choose_106 post (nI p) t f_rings f_high f_low a_crashed a_config a_members a_newestCut a_myVote a_promised a_acceptedRound a_acceptedValue a_ownRound a_phase a_promisers a_learnedRound a_learnedFrom a_learnedValue a_reports a_votes a_pr a_pv a_sm n 0 0 0) ∨ ∃ q, (cd_nc (a_promisers p) a_promiserRound (p * 16) 16).1 = some q ∧ wY_choose_341 post (nI p) (a_promiserValue (p * 16 + q)) 1 f_rings f_high f_low a_crashed a_config a_members a_newestCut a_myVote a_promised a_acceptedRound a_acceptedValue a_ownRound a_phase a_promisers a_learnedRound a_learnedFrom a_learnedValue a_reports a_votes a_pr a_pv a_sm) :
    ∀ d j v e b, j + d = 16 → (cd_nc (a_promisers p) a_promiserRound (p * 16) j = (none, 15) ∧ v = 0 ∧ e = 0 ∧ b = -1) ∨ (∃ q, cd_nc (a_promisers p) a_promiserRound (p * 16) j = (some q, b) ∧ ¬ b < 16 ∧ e = 1 ∧ v = a_promiserValue (p * 16 + q)) → wY_choose_11 post (nI p) t f_rings f_high f_low a_crashed a_config a_members a_newestCut a_myVote a_promised a_acceptedRound a_acceptedValue a_ownRound a_phase a_promisers a_learnedRound a_learnedFrom a_learnedValue a_reports a_votes a_pr a_pv a_sm (d + 1) v e b (nI j) := by
  intro d
  induction d with
  | zero =>
    intro j v e b hj I
    have e2 : j = 16 := by omega
    subst e2
    refine br_t (cd_at16 rfl) ?_
    rcases I with ⟨I, rfl, rfl, _⟩ | ⟨q, I, _, rfl, rfl⟩
    · rcases h with h | ⟨q, h, _⟩
      · exact h.2
      · rw [I] at h; exact absurd h (by simp)
    · rcases h with h | ⟨q2, h, hh⟩
      · rw [I] at h; exact absurd h.1 (by simp)
      · rw [I] at h
        cases h
        exact ⟨17, yr_c2i hh 16 0 rfl⟩
  | succ d ih =>
    intro j v e b hj I
    have ih := ih (j + 1)
    have e0 : cd_nc (a_promisers p) a_promiserRound (p * 16) (j + 1) = if bt (a_promisers p) j = true ∧ (cd_nc (a_promisers p) a_promiserRound (p * 16) j).2 < a_promiserRound (p * 16 + j) then (some j, a_promiserRound (p * 16 + j)) else cd_nc (a_promisers p) a_promiserRound (p * 16) j := rfl
    refine br_f (cd_ge16 (by omega)) ⟨cd_vi hp, ?_⟩
    rw [cd_cl hp, cd_cl16 hp (show j < 16 by omega)]
    refine yw_has (by omega) (fun hb => ?_) (fun hb => ?_)
    · rw [if_neg (fun z => by rw [hb] at z; exact absurd z.1 (by decide))] at e0
      rw [← e0] at I
      exact br_t rfl (nm_r (nI_1 j) (ih v e b (by omega) I))
    · obtain ⟨e1, e2⟩ := Q p j hp (by omega) hb
      refine br_f (by decide) ⟨cd_vi16 hp (by omega), ?_⟩
      rw [e1]
      by_cases z : a_promiserRound (p * 16 + j) < 16
      · have nn : ¬ (cd_nc (a_promisers p) a_promiserRound (p * 16) j).2 < a_promiserRound (p * 16 + j) := by
          rcases I with ⟨I, _⟩ | ⟨q, I, hb16, _⟩
          · rw [I]; exact fun w => (cd_15 _).mp w z
          · rw [I]; exact fun w => hb16 (Int32.lt_trans w z)
        rw [if_neg (fun w => nn w.2)] at e0
        rw [← e0] at I
        exact br_t z (nm_r (nI_1 j) (ih v e b (by omega) I))
      · refine br_f z ⟨cd_vi16 hp (by omega), ?_⟩
        by_cases z2 : a_promiserRound (p * 16 + j) ≤ b
        · rcases I with ⟨I, rfl, rfl, rfl⟩ | I
          · exfalso
            exact z (Int32.lt_of_le_of_lt z2 (by decide))
          · have nn : ¬ (cd_nc (a_promisers p) a_promiserRound (p * 16) j).2 < a_promiserRound (p * 16 + j) := by
              obtain ⟨q, I, _⟩ := I
              rw [I]; exact Int32.not_lt.mpr z2
            rw [if_neg (fun w => nn w.2)] at e0
            rw [← e0] at I
            exact br_t z2 (nm_r (nI_1 j) (ih v e b (by omega) (Or.inr I)))
        · have yy : (cd_nc (a_promisers p) a_promiserRound (p * 16) j).2 < a_promiserRound (p * 16 + j) := by
            rcases I with ⟨I, _⟩ | ⟨q, I, _⟩
            · rw [I]; exact (cd_15 _).mpr z
            · rw [I]; exact Int32.not_le.mp z2
          rw [if_pos ⟨hb, yy⟩] at e0
          exact br_f z2 ⟨cd_vi16 hp (by omega), nm_e ⟨cd_vi16 hp (by omega), nm_r e2 (nm_r (nI_1 j) (ih _ 1 _ (by omega) (Or.inr ⟨j, e0, z, rfl, rfl⟩)))⟩⟩
theorem yr_choose {post : SY → Prop} {v : SY} (R : cy_R (f_rings, f_high, f_low, a_crashed, a_config, a_members, a_newestCut, a_reports, a_votes, a_myVote, a_promised, a_acceptedRound, a_acceptedValue, a_ownRound, a_phase, a_promisers, a_promiserRound, a_promiserValue, a_learnedRound, a_learnedFrom, a_learnedValue, a_slots) v) {p : Nat} (hp : p < 16) (h : ∀ v', cy_R (cx_choose (f_rings, f_high, f_low, a_crashed, a_config, a_members, a_newestCut, a_reports, a_votes, a_myVote, a_promised, a_acceptedRound, a_acceptedValue, a_ownRound, a_phase, a_promisers, a_promiserRound, a_promiserValue, a_learnedRound, a_learnedFrom, a_learnedValue, a_slots) p) v' → post v') : wpY_choose post v (nI p) (cd_en (cd_ct (a_members p))) := by
  obtain ⟨a_pr, a_pv, a_sm, rfl, hK, Q, S⟩ := R
  refine ⟨17, yr_c1 Q hp ?_ 16 0 0 0 (-1) rfl (Or.inl ⟨rfl, rfl, rfl, rfl⟩)⟩
  have hS : ∀ q, cd_ch (a_promisers p) (a_members p) a_promiserRound a_promiserValue (p * 16) = some q → wY_choose_341 post (nI p) (a_promiserValue (p * 16 + q)) 1 f_rings f_high f_low a_crashed a_config a_members a_newestCut a_myVote a_promised a_acceptedRound a_acceptedValue a_ownRound a_phase a_promisers a_learnedRound a_learnedFrom a_learnedValue a_reports a_votes a_pr a_pv a_sm := by
    intro q e
    unfold cx_choose at h
    dsimp only at h
    rw [e] at h
    exact yr_f1 hK Q S hp h
  have hN1 : cd_ch (a_promisers p) (a_members p) a_promiserRound a_promiserValue (p * 16) = none → a_myVote p = -1 → ∀ v0, wY_choose_341 post (nI p) v0 0 f_rings f_high f_low a_crashed a_config a_members a_newestCut a_myVote a_promised a_acceptedRound a_acceptedValue a_ownRound a_phase a_promisers a_learnedRound a_learnedFrom a_learnedValue a_reports a_votes a_pr a_pv a_sm := by
    intro e z v0
    unfold cx_choose at h
    dsimp only at h
    rw [e] at h
    dsimp only at h
    rw [if_pos z] at h
    exact yr_f0 hp (h _ ⟨a_pr, a_pv, a_sm, rfl, hK, Q, S⟩)
  have hN2 : cd_ch (a_promisers p) (a_members p) a_promiserRound a_promiserValue (p * 16) = none → ¬ a_myVote p = -1 → wY_choose_341 post (nI p) (a_myVote p) 1 f_rings f_high f_low a_crashed a_config a_members a_newestCut a_myVote a_promised a_acceptedRound a_acceptedValue a_ownRound a_phase a_promisers a_learnedRound a_learnedFrom a_learnedValue a_reports a_votes a_pr a_pv a_sm := by
    intro e z
    unfold cx_choose at h
    dsimp only at h
    rw [e] at h
    dsimp only at h
    rw [if_neg z] at h
    exact yr_f1 hK Q S hp h
  clear h
  unfold cd_ch at hS hN1 hN2
  cases e1 : (cd_nc (a_promisers p) a_promiserRound (p * 16) 16).1 with
  | some q =>
    rw [e1] at hS
    exact Or.inr ⟨q, rfl, hS q rfl⟩
  | none =>
    rw [e1] at hS hN1 hN2
    dsimp only at hS hN1 hN2
    refine Or.inl ⟨rfl, 17, yr_c2 Q hp 16 0 0 rfl ?_⟩
    cases e2 : cd_pd (cd_fp (a_promisers p) a_promiserRound (p * 16) 16) a_promiserValue (p * 16) (cd_en (cd_ct (a_members p))) 16 0 with
    | some q =>
      rw [e2] at hS
      exact Or.inr ⟨q, rfl, hS q rfl⟩
    | none =>
      rw [e2] at hS hN1 hN2
      dsimp only at hS hN1 hN2
      refine Or.inl ⟨rfl, 17, ?_⟩
      cases e3 : cd_lo (cd_fp (a_promisers p) a_promiserRound (p * 16) 16) 16 0 with
      | none => exact yr_c3 Q hp 16 0 0 rfl (Or.inl ⟨e3, hN1 e3, hN2 e3⟩)
      | some q => exact yr_c3 Q hp 16 0 0 rfl (Or.inr ⟨q, e3, hS q e3⟩)
end CD10
