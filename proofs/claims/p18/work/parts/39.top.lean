section PG19
variable {f_rings f_high f_low : Int32} {a_crashed a_config a_members a_newestCut a_reports a_votes a_myVote a_promised a_acceptedRound a_acceptedValue a_ownRound a_phase a_promisers a_promiserRound a_promiserValue a_learnedRound a_learnedFrom a_learnedValue a_slots : Nat → Int32}
variable {post : Int32 → Prop} {L : Nat} {xs : Nat → Int32} {x3 x4 : Int32} {kc ks : Nat}
theorem lf_loop {nn : Nat} (hL : L ≤ 260) (hpost : post 1) (hn3 : 3 ≤ nn) (hn8 : nn ≤ 8) : ∀ d j, 1 ≤ j → j + d = 87 → ∀ (g : pg_G) (k A B p0 p1 p2 : Nat) (kn ov had : Int32) (u : St2), k ≤ j → lq_I True g k x3 x4 A B p0 p1 p2 kn ov had u →
    (match u with | (f_rings, f_high, f_low, a_crashed, a_config, a_members, a_newestCut, a_reports, a_votes, a_myVote, a_promised, a_acceptedRound, a_acceptedValue, a_ownRound, a_phase, a_promisers, a_promiserRound, a_promiserValue, a_learnedRound, a_learnedFrom, a_learnedValue, a_slots) => wL_law_91 post L xs (nI nn) x3 x4 kc ks (d + 1) (lN A) (lN B) (lN p0) (lN p1) (lN p2) kn ov had (nI (1 + 3 * j)) f_rings f_high f_low a_crashed a_config a_members a_newestCut a_reports a_votes a_myVote a_promised a_acceptedRound a_acceptedValue a_ownRound a_phase a_promisers a_promiserRound a_promiserValue a_learnedRound a_learnedFrom a_learnedValue a_slots) := by
  intro d
  induction d with
  | zero =>
    intro j h1 hj g k A B p0 p1 p2 kn ov had u hk I
    obtain ⟨f_rings, f_high, f_low, a_crashed, a_config, a_members, a_newestCut, a_reports, a_votes, a_myVote, a_promised, a_acceptedRound, a_acceptedValue, a_ownRound, a_phase, a_promisers, a_promiserRound, a_promiserValue, a_learnedRound, a_learnedFrom, a_learnedValue, a_slots⟩ := u
    have n1 : ¬ nI (1 + 3 * j) = 1 := fun z => by
      have := (nI_eq (b := 1) (by omega) (by decide)).mp z
      omega
    exact br_f n1 (br_t (nI_le (by omega) (by omega)) hpost)
  | succ d ih =>
    intro j h1 hj g k A B p0 p1 p2 kn ov had u hk I
    have ih := ih (j + 1) (by omega) (by omega)
    obtain ⟨f_rings, f_high, f_low, a_crashed, a_config, a_members, a_newestCut, a_reports, a_votes, a_myVote, a_promised, a_acceptedRound, a_acceptedValue, a_ownRound, a_phase, a_promisers, a_promiserRound, a_promiserValue, a_learnedRound, a_learnedFrom, a_learnedValue, a_slots⟩ := u
    have n1 : ¬ nI (1 + 3 * j) = 1 := fun z => by
      have := (nI_eq (b := 1) (by omega) (by decide)).mp z
      omega
    refine br_f n1 ?_
    by_cases c : L ≤ 1 + 3 * j
    · exact br_t (nI_le c (by omega)) hpost
    refine br_f (nI_ge (by omega) (by omega)) ?_
    have I0 := I
    obtain ⟨st, eh, el, ⟨K, hK6, eK⟩, _⟩ := I
    refine le_104 hL (by omega) st hK6 eK hn3 hn8 (by omega) (fun u' N => ?_)
    obtain ⟨f_rings2, f_high2, f_low2, a_crashed2, a_config2, a_members2, a_newestCut2, a_reports2, a_votes2, a_myVote2, a_promised2, a_acceptedRound2, a_acceptedValue2, a_ownRound2, a_phase2, a_promisers2, a_promiserRound2, a_promiserValue2, a_learnedRound2, a_learnedFrom2, a_learnedValue2, a_slots2⟩ := u'
    refine lc_check (by omega) I0 N (Or.inl trivial) (fun A' B' p0' p1' p2' kn' ov' had' g' I' => ?_)
    have H := ih g' (k + 1) A' B' p0' p1' p2' kn' ov' had' (f_rings2, f_high2, f_low2, a_crashed2, a_config2, a_members2, a_newestCut2, a_reports2, a_votes2, a_myVote2, a_promised2, a_acceptedRound2, a_acceptedValue2, a_ownRound2, a_phase2, a_promisers2, a_promiserRound2, a_promiserValue2, a_learnedRound2, a_learnedFrom2, a_learnedValue2, a_slots2) (by omega) I'
    rw [cd_a3, show 1 + 3 * j + 3 = 1 + 3 * (j + 1) from by omega]
    exact H
theorem lf_first {nn : Nat} (hL : L ≤ 260) (hpost : post 1) (hn3 : 3 ≤ nn) (hn8 : nn ≤ 8) {f r : Int32} {K : Nat} (hK : K ≤ 6) (hr : r = nI K) :
    (match cx_0 r x3 x4 f 16 with | (f_rings, f_high, f_low, a_crashed, a_config, a_members, a_newestCut, a_reports, a_votes, a_myVote, a_promised, a_acceptedRound, a_acceptedValue, a_ownRound, a_phase, a_promisers, a_promiserRound, a_promiserValue, a_learnedRound, a_learnedFrom, a_learnedValue, a_slots) => ∃ fu, wL_law_91 post L xs (nI nn) x3 x4 kc ks fu 0 0 0 0 0 0 0 0 1 f_rings f_high f_low a_crashed a_config a_members a_newestCut a_reports a_votes a_myVote a_promised a_acceptedRound a_acceptedValue a_ownRound a_phase a_promisers a_promiserRound a_promiserValue a_learnedRound a_learnedFrom a_learnedValue a_slots) := by
  have st0 : pg_st (pg_0 f) 0 (cx_0 r x3 x4 f 16) := pg_st0
  have I0 : lq_I False (pg_0 f) 0 x3 x4 0 0 0 0 0 0 0 0 (cx_0 r x3 x4 f 16) := by
    refine ⟨st0, rfl, rfl, ⟨K, hK, hr⟩, ⟨by decide, by decide, by decide, by decide, by decide, fun c _ => ?_, fun c _ => ⟨fun z => absurd z.1 id, fun _ => ?_⟩, fun c _ => Or.inr (fun x hx => absurd hx.1 id)⟩, fun q hq => ?_, Or.inr ⟨rfl, fun _ _ _ => rfl⟩⟩
    · rw [b_0]
      exact ⟨fun z => absurd z (by decide), fun z => absurd z.1 id⟩
    · unfold lq_ag
      split <;> exact pf_0 _ _
    · rw [b_0, cd_rowI hq]
      exact ⟨fun z => absurd z (by decide), fun z => absurd rfl z⟩
  unfold cx_0 at st0 I0 ⊢
  dsimp only
  refine ⟨88, ?_⟩
  refine br_t rfl ?_
  refine br_t (by decide) ?_
  refine lc_check (A := 0) (B := 0) (p0 := 0) (p1 := 0) (p2 := 0) (x19 := nI 1) (by omega) I0 (st_same st0) (Or.inr (fun _ _ => rfl)) (fun A' B' p0' p1' p2' kn' ov' had' g' I' => ?_)
  exact lf_loop hL hpost hn3 hn8 86 1 (by omega) (by omega) g' 1 A' B' p0' p1' p2' kn' ov' had' _ (by omega) I'
end PG19
