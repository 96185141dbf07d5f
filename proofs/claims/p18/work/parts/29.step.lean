section PG9
variable {f_rings f_high f_low : Int32} {a_crashed a_config a_members a_newestCut a_reports a_votes a_myVote a_promised a_acceptedRound a_acceptedValue a_ownRound a_phase a_promisers a_promiserRound a_promiserValue a_learnedRound a_learnedFrom a_learnedValue a_slots : Nat → Int32}
variable {g : pg_G} {k p : Nat}
theorem pg_ot_sl {s : Nat → Int32} : pg_ot p (f_rings, f_high, f_low, a_crashed, a_config, a_members, a_newestCut, a_reports, a_votes, a_myVote, a_promised, a_acceptedRound, a_acceptedValue, a_ownRound, a_phase, a_promisers, a_promiserRound, a_promiserValue, a_learnedRound, a_learnedFrom, a_learnedValue, a_slots) (f_rings, f_high, f_low, a_crashed, a_config, a_members, a_newestCut, a_reports, a_votes, a_myVote, a_promised, a_acceptedRound, a_acceptedValue, a_ownRound, a_phase, a_promisers, a_promiserRound, a_promiserValue, a_learnedRound, a_learnedFrom, a_learnedValue, s) := fun q _ _ => ⟨rfl, rfl, rfl, rfl, rfl, rfl, rfl, rfl, rfl, rfl, rfl, rfl, rfl, fun _ _ => rfl, fun _ _ => rfl, fun _ _ => rfl⟩
theorem pr_lrn (I : pg_I g) (hp : p < 16) (hk : k ≤ 200) {b1 b2 b3 : Nat → Int32} {q c0 : Nat} (A : pg_at g k (f_rings, f_high, f_low, a_crashed, a_config, a_members, a_newestCut, a_reports, a_votes, a_myVote, a_promised, a_acceptedRound, a_acceptedValue, a_ownRound, a_phase, a_promisers, a_promiserRound, a_promiserValue, a_learnedRound, upd a_learnedFrom p (a_learnedFrom p ||| (1 <<< (nI q &&& 31))), a_learnedValue, a_slots) p) (S : pg_sl g k a_slots) (ot : pg_ot p (f_rings, f_high, f_low, a_crashed, a_config, a_members, a_newestCut, a_reports, a_votes, a_myVote, a_promised, a_acceptedRound, a_acceptedValue, a_ownRound, a_phase, a_promisers, a_promiserRound, a_promiserValue, b1, b2, b3, a_slots) (f_rings, f_high, f_low, a_crashed, a_config, a_members, a_newestCut, a_reports, a_votes, a_myVote, a_promised, a_acceptedRound, a_acceptedValue, a_ownRound, a_phase, a_promisers, a_promiserRound, a_promiserValue, a_learnedRound, upd a_learnedFrom p (a_learnedFrom p ||| (1 <<< (nI q &&& 31))), a_learnedValue, a_slots)) (hc0 : a_config p = nI c0) (hc0k : c0 ≤ k) (hd : cd_cq (cd_ct (a_members p)) ≤ cd_ct (a_learnedFrom p ||| (1 <<< (nI q &&& 31))) → pg_dec g c0 (a_learnedValue p)) : pg_res g k p (f_rings, f_high, f_low, a_crashed, a_config, a_members, a_newestCut, a_reports, a_votes, a_myVote, a_promised, a_acceptedRound, a_acceptedValue, a_ownRound, a_phase, a_promisers, a_promiserRound, a_promiserValue, b1, b2, b3, a_slots) (cx_lrn (f_rings, f_high, f_low, a_crashed, a_config, a_members, a_newestCut, a_reports, a_votes, a_myVote, a_promised, a_acceptedRound, a_acceptedValue, a_ownRound, a_phase, a_promisers, a_promiserRound, a_promiserValue, a_learnedRound, a_learnedFrom, a_learnedValue, a_slots) p q) := by
  unfold cx_lrn
  dsimp only
  by_cases d : cd_cq (cd_ct (a_members p)) ≤ cd_ct (a_learnedFrom p ||| (1 <<< (nI q &&& 31)))
  · rw [if_pos d]
    obtain ⟨o, g', I', L, O, E1, E2, P, SL⟩ := pr_dec (a_votes' := a_votes) (a_learnedFrom' := a_votes) (a_learnedRound' := a_votes) (a_learnedValue' := a_votes) I hp hk A S ot hc0 hc0k (hd d)
    refine ⟨rfl, rfl, rfl, o, fun _ n => absurd pk_us n, g', I', L, O, E1, ?_, P, SL⟩
    rw [pk_us, pk_us]; exact E2
  · rw [if_neg d]
    exact ⟨rfl, rfl, rfl, ot, fun a b => absurd a b, g, I, pg_le_rf g, pg_own_rf p g, pg_e1_rf I rfl rfl rfl, pg_e2_rf rfl (Or.inl rfl), po_id I hp A, pg_sl_up (pg_le_rf g) (Nat.le_succ k) S⟩
theorem cd_orq {x : Int32} {q j : Nat} (hq : q < 16) (hj : j < 16) (h : bt (x ||| (1 <<< (nI q &&& 31))) j = true) : j = q ∨ bt x j = true := by
  rw [b_or, cd_shl1 q (by omega) (by omega), Bool.or_eq_true_iff, decide_eq_true_iff] at h
  rcases h with a | a
  · exact Or.inr a
  · exact Or.inl a
theorem pr_acd (I : pg_I g) (hp : p < 16) (hk : k ≤ 200) (A : pg_at g k (f_rings, f_high, f_low, a_crashed, a_config, a_members, a_newestCut, a_reports, a_votes, a_myVote, a_promised, a_acceptedRound, a_acceptedValue, a_ownRound, a_phase, a_promisers, a_promiserRound, a_promiserValue, a_learnedRound, a_learnedFrom, a_learnedValue, a_slots) p) (S : pg_sl g k a_slots) {q r c0 : Nat} {y : Int32} (hq : q < 16) (hr : 16 ≤ r) (hrk : r ≤ 16 * k + 15) (hc0 : a_config p = nI c0) (hc0k : c0 ≤ k) (hy : y = pg_W g c0 r) (hw : ¬ pg_W g c0 r = -1) (hA : pg_A g c0 q r = true) : pg_res g k p (f_rings, f_high, f_low, a_crashed, a_config, a_members, a_newestCut, a_reports, a_votes, a_myVote, a_promised, a_acceptedRound, a_acceptedValue, a_ownRound, a_phase, a_promisers, a_promiserRound, a_promiserValue, a_learnedRound, a_learnedFrom, a_learnedValue, a_slots) (cx_acd (f_rings, f_high, f_low, a_crashed, a_config, a_members, a_newestCut, a_reports, a_votes, a_myVote, a_promised, a_acceptedRound, a_acceptedValue, a_ownRound, a_phase, a_promisers, a_promiserRound, a_promiserValue, a_learnedRound, a_learnedFrom, a_learnedValue, a_slots) p q (nI r) y) := by
  unfold cx_acd
  dsimp only
  by_cases c : nI r < a_learnedRound p
  · rw [if_pos c]; exact pr_same I hp A S
  rw [if_neg c]
  by_cases c2 : a_learnedRound p < nI r
  · rw [if_pos c2]
    obtain ⟨P, D⟩ := po_lrn (lr' := nI r) (lf' := (0 : Int32) ||| (1 <<< (nI q &&& 31))) (lv' := y) A hk hq hr hrk hc0 hc0k hy hw hA (Or.inr ⟨rfl, rfl, fun j hj hb => by
      rcases cd_orq hq hj hb with a | a
      · exact a
      · rw [b_0] at a; exact absurd a (by decide)⟩)
    refine pr_lrn (b1 := a_learnedRound) (b2 := a_learnedFrom) (b3 := a_learnedValue) I hp hk ?_ S ?_ hc0 hc0k ?_
    · unfold pg_at
      dsimp only
      rw [pk_us, pk_us, pk_us, pk_us]; exact P
    · exact fun j hj hne => ⟨rfl, rfl, rfl, rfl, rfl, rfl, rfl, rfl, rfl, rfl, pk_un hne, (pk_un hne).trans (pk_un hne), pk_un hne, fun _ _ => rfl, fun _ _ => rfl, fun _ _ => rfl⟩
    · rw [pk_us, pk_us]; exact D
  · rw [if_neg c2]
    have e : a_learnedRound p = nI r := Int32.le_antisymm (Int32.not_lt.mp c) (Int32.not_lt.mp c2)
    obtain ⟨P, D⟩ := po_lrn (lr' := a_learnedRound p) (lf' := a_learnedFrom p ||| (1 <<< (nI q &&& 31))) (lv' := a_learnedValue p) A hk hq hr hrk hc0 hc0k hy hw hA (Or.inl ⟨e, rfl, rfl, fun j hj hb => cd_orq hq hj hb⟩)
    refine pr_lrn (b1 := a_learnedRound) (b2 := a_learnedFrom) (b3 := a_learnedValue) I hp hk ?_ S ?_ hc0 hc0k D
    · unfold pg_at
      dsimp only
      rw [pk_us]; exact P
    · exact fun j hj hne => ⟨rfl, rfl, rfl, rfl, rfl, rfl, rfl, rfl, rfl, rfl, rfl, pk_un hne, rfl, fun _ _ => rfl, fun _ _ => rfl, fun _ _ => rfl⟩
end PG9
