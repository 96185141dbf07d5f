section PG15
variable {f_rings f_high f_low : Int32} {a_crashed a_config a_members a_newestCut a_reports a_votes a_myVote a_promised a_acceptedRound a_acceptedValue a_ownRound a_phase a_promisers a_promiserRound a_promiserValue a_learnedRound a_learnedFrom a_learnedValue a_slots : Nat → Int32}
variable {post : Int32 → Prop} {L : Nat} {xs : Nat → Int32} {J91 : lq_91} {J : lq_548} {x1 x3 x4 kn ov x18 x19 now : Int32} {kc ks : Nat} {g : pg_G} {KN : Nat → Prop} {WT : Nat → Int32 → Prop} {A B p0 p1 p2 q : Nat}
theorem lb_R_wt {WT' : Nat → Int32 → Prop} (R : lq_R KN g WT A B p0 p1 p2 kn ov) (h : ∀ c, c ≤ 2 → ∀ x, WT' c x → WT c x) : lq_R KN g WT' A B p0 p1 p2 kn ov := by
  obtain ⟨r1, r2, r3, r4, r5, r6, r7, r8⟩ := R
  refine ⟨r1, r2, r3, r4, r5, r6, r7, fun c hc => ?_⟩
  rcases r8 c hc with a | a
  · exact Or.inl a
  · exact Or.inr (fun x hx => a x (h c hc x hx))
theorem lb_839 {WT' : Nat → Int32 → Prop} (R : lq_R KN g WT A B p0 p1 p2 kn ov) {c v : Nat} (hc : c ≤ 2) (hv1 : 1 ≤ v) (hv2 : v ≤ 65535) (hW0 : ∀ c' x, WT c' x → ¬ x = 0) (hW : ∀ c', c' ≤ 2 → ∀ x, WT' c' x → WT c' x ∨ (c' = c ∧ x = nI v))
    (hJ : ∀ p0' p1' p2' ov', lq_R KN g WT' A B p0' p1' p2' kn ov' → J (lN A) (lN B) (lN p0') (lN p1') (lN p2') kn ov' now (nI (q + 1))) :
    wL_law_839 post L xs J91 J x1 x3 x4 (lN A) (lN B) (lN p0) (lN p1) (lN p2) kn ov x18 x19 now (nI q) (nI c) (nI v) (lN (lq_ps p0 p1 p2 c)) kc ks f_rings f_high f_low a_crashed a_config a_members a_newestCut a_reports a_votes a_myVote a_promised a_acceptedRound a_acceptedValue a_ownRound a_phase a_promisers a_promiserRound a_promiserValue a_learnedRound a_learnedFrom a_learnedValue a_slots := by
  obtain ⟨r1, r2, r3, r4, r5, r6, r7, r8⟩ := R
  have hn : lq_ps p0 p1 p2 c < 2 ^ 64 := by
    unfold lq_ps
    split
    · exact r3
    · split
      · exact r4
      · exact r5
  refine lf_fits hn (fun hz => br_f (by decide) (lf_put hn (by omega) hz (fun n' hn' hin hkeep => ?_))) (br_t rfl (nm_e (nm_r (nI_1 q) (hJ p0 p1 p2 _ ⟨r1, r2, r3, r4, r5, r6, r7, fun c' hc' => ?_⟩))))
  · have key : ∀ p0' p1' p2', p0' < 2 ^ 64 → p1' < 2 ^ 64 → p2' < 2 ^ 64 → (∀ c', c' ≤ 2 → lq_ps p0' p1' p2' c' = if c' = c then n' else lq_ps p0 p1 p2 c') → lq_R KN g WT' A B p0' p1' p2' kn ov := by
      intro p0' p1' p2' q0 q1 q2 he
      refine ⟨r1, r2, q0, q1, q2, r6, r7, fun c' hc' => ?_⟩
      rcases r8 c' hc' with a | a
      · exact Or.inl a
      · refine Or.inr (fun x hx => ?_)
        rw [he c' hc']
        by_cases e : c' = c
        · rw [if_pos e]
          rcases hW c' hc' x hx with w | w
          · have w2 := a x w
            rw [e] at w2
            exact hkeep x (hW0 c' x w) w2
          · rw [w.2]; exact hin
        · rw [if_neg e]
          rcases hW c' hc' x hx with w | w
          · exact a x w
          · exact absurd w.1 e
    by_cases e0 : c = 0
    · subst e0
      refine br_t rfl (nm_r (nI_1 q) (hJ n' p1 p2 ov (key n' p1 p2 hn' r4 r5 (fun c' hc' => ?_))))
      unfold lq_ps
      by_cases z : c' = 0
      · rw [if_pos z, if_pos z]
      · rw [if_neg z, if_neg z, if_neg z]
    refine br_f (nI_ne0 (by omega) (by omega)) ?_
    by_cases e1 : c = 1
    · subst e1
      refine br_t rfl (nm_r (nI_1 q) (hJ p0 n' p2 ov (key p0 n' p2 r3 hn' r5 (fun c' hc' => ?_))))
      unfold lq_ps
      by_cases z : c' = 0
      · rw [if_pos z, if_neg (by omega), if_pos z]
      · rw [if_neg z]
        by_cases z1 : c' = 1
        · rw [if_pos z1, if_pos z1]
        · rw [if_neg z1, if_neg z1, if_neg z, if_neg z1]
    have e2 : c = 2 := by omega
    subst e2
    refine br_f (by decide) (nm_r (nI_1 q) (hJ p0 p1 n' ov (key p0 p1 n' r3 r4 hn' (fun c' hc' => ?_))))
    unfold lq_ps
    by_cases z : c' = 0
    · rw [if_pos z, if_neg (by omega), if_pos z]
    · rw [if_neg z]
      by_cases z1 : c' = 1
      · rw [if_pos z1, if_neg (by omega), if_neg z, if_pos z1]
      · rw [if_neg z1, if_pos (by omega)]
  · by_cases e : c' = c
    · refine Or.inl ?_
      rw [b_or, e, cd_shl1 c (by omega) (by omega), decide_eq_true rfl, Bool.or_true]
    · rcases r8 c' hc' with a | a
      · refine Or.inl ?_
        rw [b_or, a, Bool.true_or]
      · refine Or.inr (fun x hx => ?_)
        rcases hW c' hc' x hx with w | w
        · exact a x w
        · exact absurd w.1 e
theorem lb_792 {WT' : Nat → Int32 → Prop} (R : lq_R KN g WT A B p0 p1 p2 kn ov) {c v : Nat} (hc : c ≤ 300) (hv1 : 1 ≤ v) (hv2 : v ≤ 65535) (hW0 : ∀ c' x, WT c' x → ¬ x = 0) (hW : ∀ c', c' ≤ 2 → ∀ x, WT' c' x → WT c' x ∨ (c' = c ∧ x = nI v))
    (hJ : ∀ p0' p1' p2' ov', lq_R KN g WT' A B p0' p1' p2' kn ov' → J (lN A) (lN B) (lN p0') (lN p1') (lN p2') kn ov' now (nI (q + 1))) :
    wL_law_792 post L xs J91 J x1 x3 x4 (lN A) (lN B) (lN p0) (lN p1) (lN p2) kn ov x18 x19 now (nI q) (nI c) (nI v) kc ks f_rings f_high f_low a_crashed a_config a_members a_newestCut a_reports a_votes a_myVote a_promised a_acceptedRound a_acceptedValue a_ownRound a_phase a_promisers a_promiserRound a_promiserValue a_learnedRound a_learnedFrom a_learnedValue a_slots := by
  refine br_f (nI_pos (by omega)) ?_
  by_cases c2 : 2 < c
  · refine br_t (nI_lt (a := 2) c2 (by omega)) (nm_r (nI_1 q) (hJ p0 p1 p2 ov (lb_R_wt R (fun c' hc' x hx => ?_))))
    rcases hW c' hc' x hx with w | w
    · exact w
    · omega
  refine br_f (nI_nlt (a := 2) (b := c) (by omega) (by decide)) (br_f (nI_nlt (b := 1) (by omega) (by omega)) (br_f (nI_nlt (a := 65535) (b := v) (by omega) (by decide)) ?_))
  have H := lb_839 (post := post) (L := L) (xs := xs) (J91 := J91) (x1 := x1) (x3 := x3) (x4 := x4) (x18 := x18) (x19 := x19) (kc := kc) (ks := ks) (f_rings := f_rings) (f_high := f_high) (f_low := f_low) (a_crashed := a_crashed) (a_config := a_config) (a_members := a_members) (a_newestCut := a_newestCut) (a_reports := a_reports) (a_votes := a_votes) (a_myVote := a_myVote) (a_promised := a_promised) (a_acceptedRound := a_acceptedRound) (a_acceptedValue := a_acceptedValue) (a_ownRound := a_ownRound) (a_phase := a_phase) (a_promisers := a_promisers) (a_promiserRound := a_promiserRound) (a_promiserValue := a_promiserValue) (a_learnedRound := a_learnedRound) (a_learnedFrom := a_learnedFrom) (a_learnedValue := a_learnedValue) (a_slots := a_slots) R (show c ≤ 2 by omega) hv1 hv2 hW0 hW hJ
  unfold lq_ps at H
  by_cases e0 : c = 0
  · subst e0
    exact br_t rfl H
  refine br_f (nI_ne0 (by omega) (by omega)) ?_
  rw [if_neg e0] at H
  by_cases e1 : c = 1
  · subst e1
    exact br_t rfl H
  rw [if_neg e1] at H
  have e2 : c = 2 := by omega
  subst e2
  exact br_f (by decide) H
theorem lb_732 {c v m : Nat} (hq : q < 16) (e : cd_st a_reports (q * 16) x3 x4 16 = some (nI v))
    (H : wL_law_792 post L xs J91 J x1 x3 x4 (lN A) (lN B) (lN p0) (lN p1) (lN p2) kn ov x18 x19 now (nI q) (nI c) (nI v) kc ks f_rings f_high f_low a_crashed a_config a_members a_newestCut a_reports a_votes a_myVote a_promised a_acceptedRound a_acceptedValue a_ownRound a_phase a_promisers a_promiserRound a_promiserValue a_learnedRound a_learnedFrom a_learnedValue a_slots) :
    ∀ d s m, s + d = 16 → cd_st a_reports (q * 16) x3 x4 s = some m → wL_law_732 post L xs J91 J x1 x3 x4 (lN A) (lN B) (lN p0) (lN p1) (lN p2) kn ov x18 x19 now (nI q) (nI c) (nI v) kc ks f_rings f_high f_low a_crashed a_config a_members a_newestCut a_reports a_votes a_myVote a_promised a_acceptedRound a_acceptedValue a_ownRound a_phase a_promisers a_promiserRound a_promiserValue a_learnedRound a_learnedFrom a_learnedValue a_slots (d + 1) m (nI s) := by
  intro d
  induction d with
  | zero =>
    intro s m hs em
    have e2 : s = 16 := by omega
    subst e2
    rw [e] at em
    cases em
    exact br_t (cd_at16 rfl) (br_t rfl H)
  | succ d ih =>
    intro s m hs em
    have ih := ih (s + 1)
    have step : cd_st a_reports (q * 16) x3 x4 (s + 1) = (if x3 ≤ cd_ct (a_reports (q * 16 + s)) then some (m ||| (1 <<< (nI s &&& 31))) else if x4 ≤ cd_ct (a_reports (q * 16 + s)) then none else some m) := by
      show (match cd_st a_reports (q * 16) x3 x4 s with
        | none => none
        | some m => if x3 ≤ cd_ct (a_reports (q * 16 + s)) then some (m ||| (1 <<< (nI s &&& 31))) else if x4 ≤ cd_ct (a_reports (q * 16 + s)) then none else some m) = _
      rw [em]
    refine br_f (cd_ge16 (by omega)) (sw_rep hq (by omega) ?_)
    by_cases c1 : cd_ct (a_reports (q * 16 + s)) < x3
    · refine br_t c1 ?_
      rw [if_neg (Int32.not_le.mpr c1)] at step
      by_cases c2 : cd_ct (a_reports (q * 16 + s)) < x4
      · rw [if_neg (Int32.not_le.mpr c2)] at step
        exact br_t c2 (nm_r (nI_1 s) (ih m (by omega) step))
      · rw [if_pos (Int32.not_lt.mp c2)] at step
        have e16 := cd_st_none step d
        rw [show s + 1 + d = 16 from by omega, e] at e16
        exact absurd e16 (by simp)
    · rw [if_pos (Int32.not_lt.mp c1)] at step
      exact br_f c1 (nm_e (nm_r (nI_1 s) (ih _ (by omega) step)))
/-- q's proposal -/
theorem lb_692 {WT' : Nat → Int32 → Prop} (R : lq_R KN g WT A B p0 p1 p2 kn ov) {c : Nat} (hq : q < 16) (hc : c ≤ 300) (hv : ¬ a_myVote q = -1 → ∃ v, 1 ≤ v ∧ v ≤ 65535 ∧ a_myVote q = nI v) (hN : bt x18 q = false → ¬ a_myVote q = -1 → cd_st a_reports (q * 16) x3 x4 16 = some (a_myVote q)) (hW0 : ∀ c' x, WT c' x → ¬ x = 0) (hW : ∀ c', c' ≤ 2 → ∀ x, WT' c' x → WT c' x ∨ (c' = c ∧ x = a_myVote q ∧ ¬ x = -1))
    (hJ : ∀ p0' p1' p2' ov' now', lq_R KN g WT' A B p0' p1' p2' kn ov' → (∀ i, i < 16 → (bt now' i = true ↔ bt now i = true ∨ (i = q ∧ ¬ a_myVote q = -1))) → J (lN A) (lN B) (lN p0') (lN p1') (lN p2') kn ov' now' (nI (q + 1))) :
    wL_law_692 post L xs J91 J x1 x3 x4 (lN A) (lN B) (lN p0) (lN p1) (lN p2) kn ov x18 x19 now (nI q) (nI c) kc ks f_rings f_high f_low a_crashed a_config a_members a_newestCut a_reports a_votes a_myVote a_promised a_acceptedRound a_acceptedValue a_ownRound a_phase a_promisers a_promiserRound a_promiserValue a_learnedRound a_learnedFrom a_learnedValue a_slots := by
  refine sw_pro hq ?_
  by_cases m : a_myVote q = -1
  · refine br_t m (nm_r (nI_1 q) (hJ p0 p1 p2 ov now (lb_R_wt R (fun c' hc' x hx => ?_)) (fun i _ => ⟨fun h => Or.inl h, fun h => ?_⟩)))
    · rcases hW c' hc' x hx with w | w
      · exact w
      · exact absurd (w.2.1.trans m) w.2.2
    · rcases h with h | h
      · exact h
      · exact absurd m h.2
  refine br_f m (nm_e ?_)
  obtain ⟨v, v1, v2, ev⟩ := hv m
  have H : wL_law_792 post L xs J91 J x1 x3 x4 (lN A) (lN B) (lN p0) (lN p1) (lN p2) kn ov x18 x19 (now ||| (1 <<< (nI q &&& 31))) (nI q) (nI c) (nI v) kc ks f_rings f_high f_low a_crashed a_config a_members a_newestCut a_reports a_votes a_myVote a_promised a_acceptedRound a_acceptedValue a_ownRound a_phase a_promisers a_promiserRound a_promiserValue a_learnedRound a_learnedFrom a_learnedValue a_slots := by
    refine lb_792 R hc v1 v2 hW0 (fun c' hc' x hx => ?_) (fun p0' p1' p2' ov' R' => hJ p0' p1' p2' ov' _ R' (fun i hi => ?_))
    · rcases hW c' hc' x hx with w | w
      · exact Or.inl w
      · exact Or.inr ⟨w.1, w.2.1.trans ev⟩
    · rw [b_or, cd_shl1 q (by omega) (by omega), Bool.or_eq_true_iff, decide_eq_true_iff]
      constructor
      · rintro (a | a)
        · exact Or.inl a
        · exact Or.inr ⟨a, m⟩
      · rintro (a | a)
        · exact Or.inl a
        · exact Or.inr a.1
  refine br_c (fun z => ⟨17, ?_⟩) (fun _ => by rw [ev]; exact H)
  have e := hN ((cd_has (by omega)).mp z) m
  rw [ev] at e ⊢
  exact lb_732 (m := 0) hq e H 16 0 0 rfl rfl
end PG15
