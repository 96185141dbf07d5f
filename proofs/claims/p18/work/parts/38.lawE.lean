section PG18
variable {f_rings f_high f_low : Int32} {a_crashed a_config a_members a_newestCut a_reports a_votes a_myVote a_promised a_acceptedRound a_acceptedValue a_ownRound a_phase a_promisers a_promiserRound a_promiserValue a_learnedRound a_learnedFrom a_learnedValue a_slots : Nat → Int32}
variable {post : Int32 → Prop} {L : Nat} {xs : Nat → Int32} {J91 : lq_91} {x6 x8 x10 x12 x14 : Int64} {x1 x3 x4 kn ov x18 x19 x20 : Int32} {kc ks : Nat} {g : pg_G} {k : Nat}
abbrev lq_174 : Type := Int32 → Int32 → Int32 → Int32 → Int32 → (Nat → Int32) → (Nat → Int32) → (Nat → Int32) → (Nat → Int32) → (Nat → Int32) → (Nat → Int32) → (Nat → Int32) → (Nat → Int32) → (Nat → Int32) → (Nat → Int32) → (Nat → Int32) → (Nat → Int32) → (Nat → Int32) → (Nat → Int32) → (Nat → Int32) → (Nat → Int32) → (Nat → Int32) → (Nat → Int32) → (Nat → Int32) → Prop
theorem ld_218d {J : lq_174} {x23 x24 x27 x28 : Int32} {j : Nat} (h : J 1 (nI (j + 1)) f_rings f_high f_low a_crashed a_config a_members a_newestCut a_reports a_votes a_myVote a_promised a_acceptedRound a_acceptedValue a_ownRound a_phase a_promisers a_promiserRound a_promiserValue a_learnedRound a_learnedFrom a_learnedValue a_slots) (d r : Nat) : wL_law_218 post L xs J91 J x1 x3 x4 x6 x8 x10 x12 x14 kn ov x18 x19 x20 x23 x24 (nI j) x27 x28 kc ks (d + 1) 1 (nI r) f_rings f_high f_low a_crashed a_config a_members a_newestCut a_reports a_votes a_myVote a_promised a_acceptedRound a_acceptedValue a_ownRound a_phase a_promisers a_promiserRound a_promiserValue a_learnedRound a_learnedFrom a_learnedValue a_slots :=
  br_c (fun _ => nm_r (nI_1 j) h) (fun _ => br_f (by decide) (nm_r (nI_1 j) h))
theorem ld_218 {J : lq_174} {x23 : Int32} {sl st0 j : Nat} (hk : k ≤ 200) (st : pg_st g k (f_rings, f_high, f_low, a_crashed, a_config, a_members, a_newestCut, a_reports, a_votes, a_myVote, a_promised, a_acceptedRound, a_acceptedValue, a_ownRound, a_phase, a_promisers, a_promiserRound, a_promiserValue, a_learnedRound, a_learnedFrom, a_learnedValue, a_slots)) (hs : sl < 32) (hst : st0 < 16) (h0 : J 0 (nI (j + 1)) f_rings f_high f_low a_crashed a_config a_members a_newestCut a_reports a_votes a_myVote a_promised a_acceptedRound a_acceptedValue a_ownRound a_phase a_promisers a_promiserRound a_promiserValue a_learnedRound a_learnedFrom a_learnedValue a_slots) (h1 : ∀ u', pg_next g k (f_rings, f_high, f_low, a_crashed, a_config, a_members, a_newestCut, a_reports, a_votes, a_myVote, a_promised, a_acceptedRound, a_acceptedValue, a_ownRound, a_phase, a_promisers, a_promiserRound, a_promiserValue, a_learnedRound, a_learnedFrom, a_learnedValue, a_slots) u' → (match u' with | (f_rings2, f_high2, f_low2, a_crashed2, a_config2, a_members2, a_newestCut2, a_reports2, a_votes2, a_myVote2, a_promised2, a_acceptedRound2, a_acceptedValue2, a_ownRound2, a_phase2, a_promisers2, a_promiserRound2, a_promiserValue2, a_learnedRound2, a_learnedFrom2, a_learnedValue2, a_slots2) => J 1 (nI (j + 1)) f_rings2 f_high2 f_low2 a_crashed2 a_config2 a_members2 a_newestCut2 a_reports2 a_votes2 a_myVote2 a_promised2 a_acceptedRound2 a_acceptedValue2 a_ownRound2 a_phase2 a_promisers2 a_promiserRound2 a_promiserValue2 a_learnedRound2 a_learnedFrom2 a_learnedValue2 a_slots2)) :
    ∀ d r, r + d = 16 → wL_law_218 post L xs J91 J x1 x3 x4 x6 x8 x10 x12 x14 kn ov x18 x19 x20 x23 (nI st0) (nI j) (nI sl) (a_slots (sl * 7 + 6)) kc ks (d + 1) 0 (nI r) f_rings f_high f_low a_crashed a_config a_members a_newestCut a_reports a_votes a_myVote a_promised a_acceptedRound a_acceptedValue a_ownRound a_phase a_promisers a_promiserRound a_promiserValue a_learnedRound a_learnedFrom a_learnedValue a_slots := by
  intro d
  induction d with
  | zero =>
    intro r hr
    exact br_t (cd_at16 (by omega)) (nm_r (nI_1 j) h0)
  | succ d ih =>
    intro r hr
    have ih := ih (r + 1) (by omega)
    have e : (nI st0 + nI r) - (nI st0 + nI r) / 16 * 16 = nI ((st0 + r) % 16) := by
      rw [nI_add]
      exact pk_rem (d := 16) (by omega) (by omega) (by omega)
    have hp : (st0 + r) % 16 < 16 := Nat.mod_lt _ (by omega)
    refine br_f (cd_ge16 (by omega)) (br_t rfl ⟨by decide, nm_r e ?_⟩)
    refine br_c (fun _ => nm_r (nI_1 r) ih) (fun z => ?_)
    have hb := (cd_hasn (by omega)).mp z
    have H : ∀ u', pg_next g k (f_rings, f_high, f_low, a_crashed, a_config, a_members, a_newestCut, a_reports, a_votes, a_myVote, a_promised, a_acceptedRound, a_acceptedValue, a_ownRound, a_phase, a_promisers, a_promiserRound, a_promiserValue, a_learnedRound, a_learnedFrom, a_learnedValue, a_slots) u' → (match u' with | (f_rings2, f_high2, f_low2, a_crashed2, a_config2, a_members2, a_newestCut2, a_reports2, a_votes2, a_myVote2, a_promised2, a_acceptedRound2, a_acceptedValue2, a_ownRound2, a_phase2, a_promisers2, a_promiserRound2, a_promiserValue2, a_learnedRound2, a_learnedFrom2, a_learnedValue2, a_slots2) => ∀ x, x = nI r + 1 → wL_law_218 post L xs J91 J x1 x3 x4 x6 x8 x10 x12 x14 kn ov x18 x19 x20 x23 (nI st0) (nI j) (nI sl) (a_slots (sl * 7 + 6)) kc ks (d + 1) 1 x f_rings2 f_high2 f_low2 a_crashed2 a_config2 a_members2 a_newestCut2 a_reports2 a_votes2 a_myVote2 a_promised2 a_acceptedRound2 a_acceptedValue2 a_ownRound2 a_phase2 a_promisers2 a_promiserRound2 a_promiserValue2 a_learnedRound2 a_learnedFrom2 a_learnedValue2 a_slots2) := by
      intro u' N
      have h := h1 u' N
      obtain ⟨f_rings2, f_high2, f_low2, a_crashed2, a_config2, a_members2, a_newestCut2, a_reports2, a_votes2, a_myVote2, a_promised2, a_acceptedRound2, a_acceptedValue2, a_ownRound2, a_phase2, a_promisers2, a_promiserRound2, a_promiserValue2, a_learnedRound2, a_learnedFrom2, a_learnedValue2, a_slots2⟩ := u'
      exact nm_r (nI_1 r) (ld_218d h d (r + 1))
    exact br_c (fun _ => sw_drop st hs hp (fun _ u' N => H u' N)) (fun _ => sw_del st hk hs hp hb (fun _ u' N => H u' N))
theorem ld_174d {x23 x24 : Int32} (h : ∃ fu, wL_law_375 post L xs J91 x1 x3 x4 x6 x8 x10 x12 x14 kn ov x18 x19 kc ks f_rings f_high f_low a_crashed a_config a_members a_newestCut a_reports a_votes a_myVote a_promised a_acceptedRound a_acceptedValue a_ownRound a_phase a_promisers a_promiserRound a_promiserValue a_learnedRound a_learnedFrom a_learnedValue a_slots fu 0) (d : Nat) (x : Int32) : wL_law_174 post L xs J91 x1 x3 x4 x6 x8 x10 x12 x14 kn ov x18 x19 x20 x23 x24 kc ks (d + 1) 1 x f_rings f_high f_low a_crashed a_config a_members a_newestCut a_reports a_votes a_myVote a_promised a_acceptedRound a_acceptedValue a_ownRound a_phase a_promisers a_promiserRound a_promiserValue a_learnedRound a_learnedFrom a_learnedValue a_slots :=
  br_c (fun _ => h) (fun _ => br_f (by decide) h)
theorem ld_174 {a0 st0 : Nat} (hk : k ≤ 200) (st : pg_st g k (f_rings, f_high, f_low, a_crashed, a_config, a_members, a_newestCut, a_reports, a_votes, a_myVote, a_promised, a_acceptedRound, a_acceptedValue, a_ownRound, a_phase, a_promisers, a_promiserRound, a_promiserValue, a_learnedRound, a_learnedFrom, a_learnedValue, a_slots)) (ha : a0 < 32) (hst : st0 < 16)
    (HC : ∀ u', pg_next g k (f_rings, f_high, f_low, a_crashed, a_config, a_members, a_newestCut, a_reports, a_votes, a_myVote, a_promised, a_acceptedRound, a_acceptedValue, a_ownRound, a_phase, a_promisers, a_promiserRound, a_promiserValue, a_learnedRound, a_learnedFrom, a_learnedValue, a_slots) u' → (match u' with | (f_rings2, f_high2, f_low2, a_crashed2, a_config2, a_members2, a_newestCut2, a_reports2, a_votes2, a_myVote2, a_promised2, a_acceptedRound2, a_acceptedValue2, a_ownRound2, a_phase2, a_promisers2, a_promiserRound2, a_promiserValue2, a_learnedRound2, a_learnedFrom2, a_learnedValue2, a_slots2) => ∃ fu, wL_law_375 post L xs J91 x1 x3 x4 x6 x8 x10 x12 x14 kn ov x18 x19 kc ks f_rings2 f_high2 f_low2 a_crashed2 a_config2 a_members2 a_newestCut2 a_reports2 a_votes2 a_myVote2 a_promised2 a_acceptedRound2 a_acceptedValue2 a_ownRound2 a_phase2 a_promisers2 a_promiserRound2 a_promiserValue2 a_learnedRound2 a_learnedFrom2 a_learnedValue2 a_slots2 fu 0)) :
    ∀ d j, j + d = 32 → wL_law_174 post L xs J91 x1 x3 x4 x6 x8 x10 x12 x14 kn ov x18 x19 x20 (nI a0) (nI st0) kc ks (d + 1) 0 (nI j) f_rings f_high f_low a_crashed a_config a_members a_newestCut a_reports a_votes a_myVote a_promised a_acceptedRound a_acceptedValue a_ownRound a_phase a_promisers a_promiserRound a_promiserValue a_learnedRound a_learnedFrom a_learnedValue a_slots := by
  have H0 := HC (f_rings, f_high, f_low, a_crashed, a_config, a_members, a_newestCut, a_reports, a_votes, a_myVote, a_promised, a_acceptedRound, a_acceptedValue, a_ownRound, a_phase, a_promisers, a_promiserRound, a_promiserValue, a_learnedRound, a_learnedFrom, a_learnedValue, a_slots) (st_same st)
  intro d
  induction d with
  | zero =>
    intro j hj
    have e : j = 32 := by omega
    subst e
    exact br_t (by decide) H0
  | succ d ih =>
    intro j hj
    have ih := ih (j + 1) (by omega)
    have e : (nI a0 + nI j) - (nI a0 + nI j) / 32 * 32 = nI ((a0 + j) % 32) := by
      rw [nI_add]
      exact pk_rem (d := 32) (by omega) (by omega) (by omega)
    have hs : (a0 + j) % 32 < 32 := Nat.mod_lt _ (by omega)
    refine br_f (nI_ge (b := 32) (by omega) (by decide)) (br_t rfl ⟨by decide, nm_r e (sw_msg hs ?_)⟩)
    refine br_c (fun _ => nm_r (nI_1 j) ih) (fun _ => ⟨17, ld_218 hk st hs hst ih (fun u' N => ?_) 16 0 rfl⟩)
    have h := HC u' N
    obtain ⟨f_rings2, f_high2, f_low2, a_crashed2, a_config2, a_members2, a_newestCut2, a_reports2, a_votes2, a_myVote2, a_promised2, a_acceptedRound2, a_acceptedValue2, a_ownRound2, a_phase2, a_promisers2, a_promiserRound2, a_promiserValue2, a_learnedRound2, a_learnedFrom2, a_learnedValue2, a_slots2⟩ := u'
    exact ld_174d h d _
theorem le_104 {nn i : Nat} (hL : L ≤ 260) (hk : k ≤ 200) (st : pg_st g k (f_rings, f_high, f_low, a_crashed, a_config, a_members, a_newestCut, a_reports, a_votes, a_myVote, a_promised, a_acceptedRound, a_acceptedValue, a_ownRound, a_phase, a_promisers, a_promiserRound, a_promiserValue, a_learnedRound, a_learnedFrom, a_learnedValue, a_slots)) {K : Nat} (hK : K ≤ 6) (hr : f_rings = nI K) (hn3 : 3 ≤ nn) (hn8 : nn ≤ 8) (hi : i < 1000)
    (HC : ∀ u', pg_next g k (f_rings, f_high, f_low, a_crashed, a_config, a_members, a_newestCut, a_reports, a_votes, a_myVote, a_promised, a_acceptedRound, a_acceptedValue, a_ownRound, a_phase, a_promisers, a_promiserRound, a_promiserValue, a_learnedRound, a_learnedFrom, a_learnedValue, a_slots) u' → (match u' with | (f_rings2, f_high2, f_low2, a_crashed2, a_config2, a_members2, a_newestCut2, a_reports2, a_votes2, a_myVote2, a_promised2, a_acceptedRound2, a_acceptedValue2, a_ownRound2, a_phase2, a_promisers2, a_promiserRound2, a_promiserValue2, a_learnedRound2, a_learnedFrom2, a_learnedValue2, a_slots2) => ∃ fu, wL_law_375 post L xs J91 (nI nn) x3 x4 x6 x8 x10 x12 x14 kn ov x18 (nI i) kc ks f_rings2 f_high2 f_low2 a_crashed2 a_config2 a_members2 a_newestCut2 a_reports2 a_votes2 a_myVote2 a_promised2 a_acceptedRound2 a_acceptedValue2 a_ownRound2 a_phase2 a_promisers2 a_promiserRound2 a_promiserValue2 a_learnedRound2 a_learnedFrom2 a_learnedValue2 a_slots2 fu 0)) :
    wL_law_104 post L xs J91 (nI nn) x3 x4 x6 x8 x10 x12 x14 kn ov x18 (nI i) kc ks f_rings f_high f_low a_crashed a_config a_members a_newestCut a_reports a_votes a_myVote a_promised a_acceptedRound a_acceptedValue a_ownRound a_phase a_promisers a_promiserRound a_promiserValue a_learnedRound a_learnedFrom a_learnedValue a_slots := by
  have H0 := HC (f_rings, f_high, f_low, a_crashed, a_config, a_members, a_newestCut, a_reports, a_votes, a_myVote, a_promised, a_acceptedRound, a_acceptedValue, a_ownRound, a_phase, a_promisers, a_promiserRound, a_promiserValue, a_learnedRound, a_learnedFrom, a_learnedValue, a_slots) (st_same st)
  unfold wL_law_104
  rw [nI_1 i, cd_a2 i, cd_a2 nn]
  refine br_c (fun _ => H0) (fun _ => ?_)
  refine lf_cell hL (by omega) (fun _ => lf_pos (M := 16) (by omega) (by omega) (fun op hop => lf_cell hL (by omega) (fun _ => lf_cell hL (by omega) (fun _ => ?_))))
  refine br_c (fun _ => br_c (fun _ => br_c (fun _ => ?_) (fun _ => ?_)) (fun _ => ?_)) (fun _ => ?_)
  · refine lf_pos (M := 2) (by omega) (by omega) (fun _ _ => br_c (fun _ => ?_) (fun _ => H0))
    exact lf_pos (M := 16) (by omega) (by omega) (fun t ht => sw_crash st ht (fun _ u' N => HC u' N))
  · exact lf_pos (by omega) (by omega) (fun t ht => sw_fb st hk (by omega) (fun _ u' N => HC u' N))
  · exact lf_pos (by omega) (by omega) (fun t ht => lf_pos (by omega) (by omega) (fun t2 ht2 => sw_obs st hK hr (by omega) (by omega) (fun _ u' N => HC u' N)))
  · exact lf_pos (M := 32) (by omega) (by omega) (fun t ht => lf_pos (M := 16) (by omega) (by omega) (fun t2 ht2 => ⟨33, ld_174 hk st ht ht2 HC 32 0 rfl⟩))
end PG18
