section PG10
variable {f_rings f_high f_low : Int32} {a_crashed a_config a_members a_newestCut a_reports a_votes a_myVote a_promised a_acceptedRound a_acceptedValue a_ownRound a_phase a_promisers a_promiserRound a_promiserValue a_learnedRound a_learnedFrom a_learnedValue a_slots : Nat → Int32}
variable {g : pg_G} {k p : Nat}
theorem pr_mem (I : pg_I g) (hp : p < 16) (hk : k ≤ 200) (A : pg_at g k (f_rings, f_high, f_low, a_crashed, a_config, a_members, a_newestCut, a_reports, a_votes, a_myVote, a_promised, a_acceptedRound, a_acceptedValue, a_ownRound, a_phase, a_promisers, a_promiserRound, a_promiserValue, a_learnedRound, a_learnedFrom, a_learnedValue, a_slots) p) (S : pg_sl g k a_slots) (hm : bt (a_members p) p = true) {q : Nat} (hq : q < 16) {kind c x y z : Int32} (M : pg_ms g k kind (nI q) c x y z) : pg_res g k p (f_rings, f_high, f_low, a_crashed, a_config, a_members, a_newestCut, a_reports, a_votes, a_myVote, a_promised, a_acceptedRound, a_acceptedValue, a_ownRound, a_phase, a_promisers, a_promiserRound, a_promiserValue, a_learnedRound, a_learnedFrom, a_learnedValue, a_slots) (cx_mem (f_rings, f_high, f_low, a_crashed, a_config, a_members, a_newestCut, a_reports, a_votes, a_myVote, a_promised, a_acceptedRound, a_acceptedValue, a_ownRound, a_phase, a_promisers, a_promiserRound, a_promiserValue, a_learnedRound, a_learnedFrom, a_learnedValue, a_slots) p q kind c x y z) := by
  unfold cx_mem
  dsimp only
  by_cases c1 : c < a_config p
  · rw [if_pos c1]
    by_cases e : q = p
    · rw [if_pos e]; exact pr_same I hp A S
    · rw [if_neg e]
      exact ⟨rfl, rfl, rfl, pg_ot_sl, fun a b => absurd a b, g, I, pg_le_rf g, pg_own_rf p g, pg_e1_rf I rfl rfl rfl, pg_e2_rf rfl (Or.inl rfl), po_id I hp A, pg_sl_send (pg_sl_up (pg_le_rf g) (Nat.le_succ k) S) (po_tell hp A)⟩
  rw [if_neg c1]
  by_cases c2 : a_config p < c
  · rw [if_pos c2]; exact pr_same I hp A S
  rw [if_neg c2]
  obtain ⟨q', c0, hq', eq, ec, hck, hcK, h⟩ := M
  have e1 : q = q' := (nI_eq (by omega) (by omega)).mp eq
  subst e1
  have hc0 : a_config p = nI c0 := by
    rw [← ec]
    exact Int32.le_antisymm (Int32.not_lt.mp c1) (Int32.not_lt.mp c2)
  rcases h with ⟨e, s, hs, ex⟩ | ⟨e, ex, hv⟩ | ⟨e, r, h1, h2, h3⟩ | ⟨e, r, h1, h2, h3, h4⟩ | ⟨e, r, h1, h2, h3, h4, h5⟩ | ⟨e, r, h1, h2, h3, h4, h5, h6⟩ | ⟨e, h1, h2⟩
  · subst e
    rw [if_pos rfl]
    exact pr_alert I hp hk A S hm
  · subst e
    rw [if_neg (by decide), if_pos rfl]
    exact pr_vote I hp hk A S hq hc0 hck ex hv
  · subst e h3
    rw [if_neg (by decide), if_neg (by decide), if_pos rfl]
    exact pr_prep I hp hk A S hm h1 h2
  · subst e h3
    rw [if_neg (by decide), if_neg (by decide), if_neg (by decide), if_pos rfl]
    exact pr_prom I hp hk A S hq h2 hc0 hck h4
  · subst e h3
    rw [if_neg (by decide), if_neg (by decide), if_neg (by decide), if_neg (by decide), if_pos rfl]
    exact pr_acc I hp hk A S hm h1 h2 hc0 hck h4 h5
  · subst e h3
    rw [if_neg (by decide), if_neg (by decide), if_neg (by decide), if_neg (by decide), if_neg (by decide), if_pos rfl]
    exact pr_acd I hp hk A S hq h1 h2 hc0 hck h4 h5 h6
  · subst e
    rw [if_neg (by decide), if_neg (by decide), if_neg (by decide), if_neg (by decide), if_neg (by decide), if_neg (by decide)]
    exact pr_same I hp A S
theorem pr_recv (I : pg_I g) (hp : p < 16) (hk : k ≤ 200) (A : pg_at g k (f_rings, f_high, f_low, a_crashed, a_config, a_members, a_newestCut, a_reports, a_votes, a_myVote, a_promised, a_acceptedRound, a_acceptedValue, a_ownRound, a_phase, a_promisers, a_promiserRound, a_promiserValue, a_learnedRound, a_learnedFrom, a_learnedValue, a_slots) p) (S : pg_sl g k a_slots) {q : Nat} (hq : q < 16) {kind c x y z : Int32} (M : pg_ms g k kind (nI q) c x y z) : pg_res g k p (f_rings, f_high, f_low, a_crashed, a_config, a_members, a_newestCut, a_reports, a_votes, a_myVote, a_promised, a_acceptedRound, a_acceptedValue, a_ownRound, a_phase, a_promisers, a_promiserRound, a_promiserValue, a_learnedRound, a_learnedFrom, a_learnedValue, a_slots) (cx_recv (f_rings, f_high, f_low, a_crashed, a_config, a_members, a_newestCut, a_reports, a_votes, a_myVote, a_promised, a_acceptedRound, a_acceptedValue, a_ownRound, a_phase, a_promisers, a_promiserRound, a_promiserValue, a_learnedRound, a_learnedFrom, a_learnedValue, a_slots) p q kind c x y z) := by
  unfold cx_recv
  dsimp only
  by_cases cr : a_crashed p = 0
  rotate_left
  · rw [if_neg cr]; exact pr_same I hp A S
  rw [if_pos cr]
  by_cases k7 : kind = 7
  · rw [if_pos k7]
    by_cases c1 : a_config p < c
    · rw [if_pos c1]
      obtain ⟨q', c0, hq', eq, ec, hck, hcK, h⟩ := M
      have hh : x = pg_M g c0 ∧ y = pg_C g c0 := by
        rw [k7] at h
        rcases h with ⟨e, _⟩ | ⟨e, _⟩ | ⟨e, _⟩ | ⟨e, _⟩ | ⟨e, _⟩ | ⟨e, _⟩ | ⟨_, h⟩
        · exact absurd e (by decide)
        · exact absurd e (by decide)
        · exact absurd e (by decide)
        · exact absurd e (by decide)
        · exact absurd e (by decide)
        · exact absurd e (by decide)
        · exact h
      obtain ⟨rfl, rfl⟩ := hh
      subst ec
      have P := po_wel (prr' := fun q => a_promiserRound (p * 16 + q)) (prv' := fun q => a_promiserValue (p * 16 + q)) I hp hk A hck hcK c1 (vt' := fun q => cd_fill a_votes (p * 16) (-1) 16 (p * 16 + q)) (fun j hj => cd_fillI (by omega) (by omega))
      refine ⟨rfl, rfl, rfl, pg_ot_inst (pg_ot_rf p (f_rings, f_high, f_low, a_crashed, a_config, a_members, a_newestCut, a_reports, a_votes, a_myVote, a_promised, a_acceptedRound, a_acceptedValue, a_ownRound, a_phase, a_promisers, a_promiserRound, a_promiserValue, a_learnedRound, a_learnedFrom, a_learnedValue, a_slots)), fun _ n => absurd pk_us n, g, I, pg_le_rf g, pg_own_rf p g, pg_e1_rf I rfl rfl rfl, pg_e2_rf rfl (Or.inl rfl), ?_, pg_sl_up (pg_le_rf g) (Nat.le_succ k) S⟩
      unfold pg_at
      dsimp only
      simp only [pk_us]
      exact P
    · rw [if_neg c1]; exact pr_same I hp A S
  rw [if_neg k7]
  by_cases hm : bt (a_members p) p = true
  · rw [if_pos hm]; exact pr_mem I hp hk A S hm hq M
  · rw [if_neg hm]; exact pr_same I hp A S
end PG10
