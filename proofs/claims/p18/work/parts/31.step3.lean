section PG11
variable {f_rings f_high f_low : Int32} {a_crashed a_config a_members a_newestCut a_reports a_votes a_myVote a_promised a_acceptedRound a_acceptedValue a_ownRound a_phase a_promisers a_promiserRound a_promiserValue a_learnedRound a_learnedFrom a_learnedValue a_slots : Nat → Int32}
variable {g : pg_G} {k p : Nat}
theorem pg_res_sl {s : Nat → Int32} {u' : St2} (h : pg_res g k p (f_rings, f_high, f_low, a_crashed, a_config, a_members, a_newestCut, a_reports, a_votes, a_myVote, a_promised, a_acceptedRound, a_acceptedValue, a_ownRound, a_phase, a_promisers, a_promiserRound, a_promiserValue, a_learnedRound, a_learnedFrom, a_learnedValue, s) u') : pg_res g k p (f_rings, f_high, f_low, a_crashed, a_config, a_members, a_newestCut, a_reports, a_votes, a_myVote, a_promised, a_acceptedRound, a_acceptedValue, a_ownRound, a_phase, a_promisers, a_promiserRound, a_promiserValue, a_learnedRound, a_learnedFrom, a_learnedValue, a_slots) u' := by
  obtain ⟨f_rings2, f_high2, f_low2, a_crashed2, a_config2, a_members2, a_newestCut2, a_reports2, a_votes2, a_myVote2, a_promised2, a_acceptedRound2, a_acceptedValue2, a_ownRound2, a_phase2, a_promisers2, a_promiserRound2, a_promiserValue2, a_learnedRound2, a_learnedFrom2, a_learnedValue2, a_slots2⟩ := u'
  obtain ⟨h1, h2, h3, ot, h5, h6⟩ := h
  refine ⟨h1, h2, h3, fun q hq hne => ?_, h5, h6⟩
  obtain ⟨e1, e2, e3, e4, e5, e6, e7, e8, e9, e10, e11, e12, e13, e14, e15, e16⟩ := ot q hq hne
  exact ⟨e1, e2, e3, e4, e5, e6, e7, e8, e9, e10, e11, e12, e13, e14, e15, e16⟩
theorem pg_at_i : pg_at g k (f_rings, f_high, f_low, a_crashed, a_config, a_members, a_newestCut, a_reports, a_votes, a_myVote, a_promised, a_acceptedRound, a_acceptedValue, a_ownRound, a_phase, a_promisers, a_promiserRound, a_promiserValue, a_learnedRound, a_learnedFrom, a_learnedValue, a_slots) p = pg_p g k p (a_config p) (a_members p) (a_newestCut p) (a_myVote p) (a_promised p) (a_acceptedRound p) (a_acceptedValue p) (a_ownRound p) (a_phase p) (a_promisers p) (a_learnedRound p) (a_learnedFrom p) (a_learnedValue p) (fun q => a_votes (p * 16 + q)) (fun q => a_promiserRound (p * 16 + q)) (fun q => a_promiserValue (p * 16 + q)) := rfl
theorem pg_at_sl {s : Nat → Int32} (A : pg_at g k (f_rings, f_high, f_low, a_crashed, a_config, a_members, a_newestCut, a_reports, a_votes, a_myVote, a_promised, a_acceptedRound, a_acceptedValue, a_ownRound, a_phase, a_promisers, a_promiserRound, a_promiserValue, a_learnedRound, a_learnedFrom, a_learnedValue, a_slots) p) : pg_at g k (f_rings, f_high, f_low, a_crashed, a_config, a_members, a_newestCut, a_reports, a_votes, a_myVote, a_promised, a_acceptedRound, a_acceptedValue, a_ownRound, a_phase, a_promisers, a_promiserRound, a_promiserValue, a_learnedRound, a_learnedFrom, a_learnedValue, s) p := by
  rw [pg_at_i] at A ⊢
  exact A
theorem pr_del (I : pg_I g) (hp : p < 16) (hk : k ≤ 200) (A : pg_at g k (f_rings, f_high, f_low, a_crashed, a_config, a_members, a_newestCut, a_reports, a_votes, a_myVote, a_promised, a_acceptedRound, a_acceptedValue, a_ownRound, a_phase, a_promisers, a_promiserRound, a_promiserValue, a_learnedRound, a_learnedFrom, a_learnedValue, a_slots) p) (S : pg_sl g k a_slots) {i : Nat} (hi : i < 32) (hb : bt (a_slots (i * 7 + 6)) p = true) : (∃ q, q < 16 ∧ a_slots (i * 7 + 1) = nI q) ∧ (a_slots (i * 7) = 1 → ∃ s, s < 16 ∧ a_slots (i * 7 + 3) = nI s) ∧ pg_res g k p (f_rings, f_high, f_low, a_crashed, a_config, a_members, a_newestCut, a_reports, a_votes, a_myVote, a_promised, a_acceptedRound, a_acceptedValue, a_ownRound, a_phase, a_promisers, a_promiserRound, a_promiserValue, a_learnedRound, a_learnedFrom, a_learnedValue, a_slots) (cx_del (f_rings, f_high, f_low, a_crashed, a_config, a_members, a_newestCut, a_reports, a_votes, a_myVote, a_promised, a_acceptedRound, a_acceptedValue, a_ownRound, a_phase, a_promisers, a_promiserRound, a_promiserValue, a_learnedRound, a_learnedFrom, a_learnedValue, a_slots) i p) := by
  have M := S i hi (cd_bt0 hb)
  have M0 := M
  obtain ⟨q, c0, hq, eq, ec, hck, hcK, h⟩ := M
  refine ⟨⟨q, hq, eq⟩, fun e => ?_, ?_⟩
  · rw [e] at h
    rcases h with ⟨_, h⟩ | ⟨e, _⟩ | ⟨e, _⟩ | ⟨e, _⟩ | ⟨e, _⟩ | ⟨e, _⟩ | ⟨e, h⟩
    · exact h
    · exact absurd e (by decide)
    · exact absurd e (by decide)
    · exact absurd e (by decide)
    · exact absurd e (by decide)
    · exact absurd e (by decide)
    · exact absurd e (by decide)
  · unfold cx_del
    dsimp only
    rw [eq, cd_cl hq]
    rw [eq] at M0
    exact pg_res_sl (pr_recv (a_slots := cd_off a_slots i p) I hp hk (pg_at_sl A) (pg_sl_off S) hq M0)
theorem pr_drop (I : pg_I g) (hp : p < 16) (A : pg_at g k (f_rings, f_high, f_low, a_crashed, a_config, a_members, a_newestCut, a_reports, a_votes, a_myVote, a_promised, a_acceptedRound, a_acceptedValue, a_ownRound, a_phase, a_promisers, a_promiserRound, a_promiserValue, a_learnedRound, a_learnedFrom, a_learnedValue, a_slots) p) (S : pg_sl g k a_slots) {i a : Nat} : pg_res g k p (f_rings, f_high, f_low, a_crashed, a_config, a_members, a_newestCut, a_reports, a_votes, a_myVote, a_promised, a_acceptedRound, a_acceptedValue, a_ownRound, a_phase, a_promisers, a_promiserRound, a_promiserValue, a_learnedRound, a_learnedFrom, a_learnedValue, a_slots) (cx_off (f_rings, f_high, f_low, a_crashed, a_config, a_members, a_newestCut, a_reports, a_votes, a_myVote, a_promised, a_acceptedRound, a_acceptedValue, a_ownRound, a_phase, a_promisers, a_promiserRound, a_promiserValue, a_learnedRound, a_learnedFrom, a_learnedValue, a_slots) i a) :=
  pg_res_sl (pr_same (a_slots := cd_off a_slots i a) I hp (pg_at_sl A) (pg_sl_off S))
theorem pr_crash (I : pg_I g) (hp : p < 16) (A : pg_at g k (f_rings, f_high, f_low, a_crashed, a_config, a_members, a_newestCut, a_reports, a_votes, a_myVote, a_promised, a_acceptedRound, a_acceptedValue, a_ownRound, a_phase, a_promisers, a_promiserRound, a_promiserValue, a_learnedRound, a_learnedFrom, a_learnedValue, a_slots) p) (S : pg_sl g k a_slots) {b : Nat → Int32} : pg_res g k p (f_rings, f_high, f_low, a_crashed, a_config, a_members, a_newestCut, a_reports, a_votes, a_myVote, a_promised, a_acceptedRound, a_acceptedValue, a_ownRound, a_phase, a_promisers, a_promiserRound, a_promiserValue, a_learnedRound, a_learnedFrom, a_learnedValue, a_slots) (f_rings, f_high, f_low, b, a_config, a_members, a_newestCut, a_reports, a_votes, a_myVote, a_promised, a_acceptedRound, a_acceptedValue, a_ownRound, a_phase, a_promisers, a_promiserRound, a_promiserValue, a_learnedRound, a_learnedFrom, a_learnedValue, a_slots) :=
  ⟨rfl, rfl, rfl, fun q hq hne => ⟨rfl, rfl, rfl, rfl, rfl, rfl, rfl, rfl, rfl, rfl, rfl, rfl, rfl, fun _ _ => rfl, fun _ _ => rfl, fun _ _ => rfl⟩, fun a b => absurd a b, g, I, pg_le_rf g, pg_own_rf p g, pg_e1_rf I rfl rfl rfl, pg_e2_rf rfl (Or.inl rfl), po_id I hp A, pg_sl_up (pg_le_rf g) (Nat.le_succ k) S⟩
theorem pr_obs (I : pg_I g) (hp : p < 16) (A : pg_at g k (f_rings, f_high, f_low, a_crashed, a_config, a_members, a_newestCut, a_reports, a_votes, a_myVote, a_promised, a_acceptedRound, a_acceptedValue, a_ownRound, a_phase, a_promisers, a_promiserRound, a_promiserValue, a_learnedRound, a_learnedFrom, a_learnedValue, a_slots) p) (S : pg_sl g k a_slots) {s : Nat} (hs : s < 16) {w : Int32} : pg_res g k p (f_rings, f_high, f_low, a_crashed, a_config, a_members, a_newestCut, a_reports, a_votes, a_myVote, a_promised, a_acceptedRound, a_acceptedValue, a_ownRound, a_phase, a_promisers, a_promiserRound, a_promiserValue, a_learnedRound, a_learnedFrom, a_learnedValue, a_slots) (cx_send (f_rings, f_high, f_low, a_crashed, a_config, a_members, a_newestCut, a_reports, a_votes, a_myVote, a_promised, a_acceptedRound, a_acceptedValue, a_ownRound, a_phase, a_promisers, a_promiserRound, a_promiserValue, a_learnedRound, a_learnedFrom, a_learnedValue, a_slots) p 1 (nI s) w 0 (a_members p)) := by
  have A0 := A
  obtain ⟨c, rc, h1, h2, h3, _⟩ := A
  exact ⟨rfl, rfl, rfl, pg_ot_sl, fun a b => absurd a b, g, I, pg_le_rf g, pg_own_rf p g, pg_e1_rf I rfl rfl rfl, pg_e2_rf rfl (Or.inl rfl), po_id I hp A0, pg_sl_send (pg_sl_up (pg_le_rf g) (Nat.le_succ k) S) ⟨p, c, hp, rfl, h1, by omega, h3, Or.inl ⟨rfl, s, hs, rfl⟩⟩⟩
theorem pr_fb (I : pg_I g) (hp : p < 16) (hk : k ≤ 200) (A : pg_at g k (f_rings, f_high, f_low, a_crashed, a_config, a_members, a_newestCut, a_reports, a_votes, a_myVote, a_promised, a_acceptedRound, a_acceptedValue, a_ownRound, a_phase, a_promisers, a_promiserRound, a_promiserValue, a_learnedRound, a_learnedFrom, a_learnedValue, a_slots) p) (S : pg_sl g k a_slots) {b : Int32} (hb : b = (if a_promised p ≤ a_ownRound p then a_ownRound p else a_promised p)) : pg_res g k p (f_rings, f_high, f_low, a_crashed, a_config, a_members, a_newestCut, a_reports, a_votes, a_myVote, a_promised, a_acceptedRound, a_acceptedValue, a_ownRound, a_phase, a_promisers, a_promiserRound, a_promiserValue, a_learnedRound, a_learnedFrom, a_learnedValue, a_slots) (cx_fb (f_rings, f_high, f_low, a_crashed, a_config, a_members, a_newestCut, a_reports, a_votes, a_myVote, a_promised, a_acceptedRound, a_acceptedValue, a_ownRound, a_phase, a_promisers, a_promiserRound, a_promiserValue, a_learnedRound, a_learnedFrom, a_learnedValue, a_slots) p ((b / 16 + 1) * 16 + nI p)) := by
  obtain ⟨P, M⟩ := po_fb I hp hk A hb
  refine ⟨rfl, rfl, rfl, fun q hq hne => ⟨rfl, rfl, rfl, rfl, rfl, rfl, rfl, pk_un hne, pk_un hne, pk_un hne, rfl, rfl, rfl, fun _ _ => rfl, fun _ _ => rfl, fun _ _ => rfl⟩, fun a b => absurd a b, g, I, pg_le_rf g, pg_own_rf p g, pg_e1_rf I rfl rfl rfl, pg_e2_rf rfl (Or.inl rfl), ?_, pg_sl_send (pg_sl_up (pg_le_rf g) (Nat.le_succ k) S) M⟩
  unfold pg_at
  dsimp only
  rw [pk_us, pk_us, pk_us]; exact P
def pg_out (g g' : pg_G) (u u' : St2) : Prop := match u with
  | (f_rings, f_high, f_low, a_crashed, a_config, a_members, a_newestCut, a_reports, a_votes, a_myVote, a_promised, a_acceptedRound, a_acceptedValue, a_ownRound, a_phase, a_promisers, a_promiserRound, a_promiserValue, a_learnedRound, a_learnedFrom, a_learnedValue, a_slots) => match u' with
    | (f_rings2, f_high2, f_low2, a_crashed2, a_config2, a_members2, a_newestCut2, a_reports2, a_votes2, a_myVote2, a_promised2, a_acceptedRound2, a_acceptedValue2, a_ownRound2, a_phase2, a_promisers2, a_promiserRound2, a_promiserValue2, a_learnedRound2, a_learnedFrom2, a_learnedValue2, a_slots2) => f_rings2 = f_rings ∧ f_high2 = f_high ∧ f_low2 = f_low ∧ pg_e1 g g' ∧ (pg_K g' = pg_K g ∨ ∃ q, q < 16 ∧ a_config2 q = nI (pg_K g')) ∧ (∀ c q, q < 16 → pg_V g' c q = pg_V g c q ∨ (a_config2 q = nI c ∧ a_myVote2 q = pg_V g' c q)) ∧ (∀ q, q < 16 → a_myVote q = -1 → ¬ a_myVote2 q = -1 → cd_st a_reports2 (q * 16) f_high f_low 16 = some (a_myVote2 q))
theorem pg_fin {u u' : St2} (hp : p < 16) (st : pg_st g k u) (h : pg_res g k p u u') : ∃ g', pg_le g g' ∧ pg_st g' (k + 1) u' ∧ pg_out g g' u u' := by
  obtain ⟨f_rings, f_high, f_low, a_crashed, a_config, a_members, a_newestCut, a_reports, a_votes, a_myVote, a_promised, a_acceptedRound, a_acceptedValue, a_ownRound, a_phase, a_promisers, a_promiserRound, a_promiserValue, a_learnedRound, a_learnedFrom, a_learnedValue, a_slots⟩ := u
  obtain ⟨f_rings2, f_high2, f_low2, a_crashed2, a_config2, a_members2, a_newestCut2, a_reports2, a_votes2, a_myVote2, a_promised2, a_acceptedRound2, a_acceptedValue2, a_ownRound2, a_phase2, a_promisers2, a_promiserRound2, a_promiserValue2, a_learnedRound2, a_learnedFrom2, a_learnedValue2, a_slots2⟩ := u'
  obtain ⟨I, P, S⟩ := st
  obtain ⟨h1, h2, h3, ot, h5, g', I', L, O, E1, E2, A, SL⟩ := h
  refine ⟨g', L, ⟨I', fun q hq => ?_, SL⟩, h1, h2, h3, E1, ?_, fun c q hq => ?_, fun q hq a b => ?_⟩
  · by_cases e : q = p
    · subst e; exact A
    · exact pg_at_eq (ot q hq e) (pg_p_up I L O (Nat.le_succ k) hq e (P q hq))
  · rcases E2.1 with e | e
    · exact Or.inl e
    · exact Or.inr ⟨p, hp, e⟩
  · rcases E2.2 c q hq with e | ⟨e1, e2, e3⟩
    · exact Or.inl e
    · subst e1
      exact Or.inr ⟨e2, e3⟩
  · by_cases e : q = p
    · subst e; exact h5 a b
    · obtain ⟨_, _, _, e4, _⟩ := ot q hq e
      exact absurd (e4.trans a) b
end PG11
