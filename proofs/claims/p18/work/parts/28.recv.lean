section PG8
variable {f_rings f_high f_low : Int32} {a_crashed a_config a_members a_newestCut a_reports a_votes a_myVote a_promised a_acceptedRound a_acceptedValue a_ownRound a_phase a_promisers a_promiserRound a_promiserValue a_learnedRound a_learnedFrom a_learnedValue a_slots : Nat → Int32}
variable {g : pg_G} {k p : Nat}
/-- nothing of the process's own history has changed -/
theorem pr_same (I : pg_I g) (hp : p < 16) (A : pg_at g k (f_rings, f_high, f_low, a_crashed, a_config, a_members, a_newestCut, a_reports, a_votes, a_myVote, a_promised, a_acceptedRound, a_acceptedValue, a_ownRound, a_phase, a_promisers, a_promiserRound, a_promiserValue, a_learnedRound, a_learnedFrom, a_learnedValue, a_slots) p) (S : pg_sl g k a_slots) : pg_res g k p (f_rings, f_high, f_low, a_crashed, a_config, a_members, a_newestCut, a_reports, a_votes, a_myVote, a_promised, a_acceptedRound, a_acceptedValue, a_ownRound, a_phase, a_promisers, a_promiserRound, a_promiserValue, a_learnedRound, a_learnedFrom, a_learnedValue, a_slots) (f_rings, f_high, f_low, a_crashed, a_config, a_members, a_newestCut, a_reports, a_votes, a_myVote, a_promised, a_acceptedRound, a_acceptedValue, a_ownRound, a_phase, a_promisers, a_promiserRound, a_promiserValue, a_learnedRound, a_learnedFrom, a_learnedValue, a_slots) :=
  ⟨rfl, rfl, rfl, pg_ot_rf p _, fun a b => absurd a b, g, I, pg_le_rf g, pg_own_rf p g, pg_e1_rf I rfl rfl rfl, pg_e2_rf rfl (Or.inl rfl), po_id I hp A, pg_sl_up (pg_le_rf g) (Nat.le_succ k) S⟩
theorem pr_pis (I : pg_I g) (hp : p < 16) (hk : k ≤ 200) (A : pg_at g k (f_rings, f_high, f_low, a_crashed, a_config, a_members, a_newestCut, a_reports, a_votes, a_myVote, a_promised, a_acceptedRound, a_acceptedValue, a_ownRound, a_phase, a_promisers, a_promiserRound, a_promiserValue, a_learnedRound, a_learnedFrom, a_learnedValue, a_slots) p) (S : pg_sl g k a_slots) (hm : bt (a_members p) p = true) (h1 : a_myVote p = -1) (h2 : a_promised p = 0) : pg_res g k p (f_rings, f_high, f_low, a_crashed, a_config, a_members, a_newestCut, a_reports, a_votes, a_myVote, a_promised, a_acceptedRound, a_acceptedValue, a_ownRound, a_phase, a_promisers, a_promiserRound, a_promiserValue, a_learnedRound, a_learnedFrom, a_learnedValue, a_slots) (cx_pis (f_rings, f_high, f_low, a_crashed, a_config, a_members, a_newestCut, a_reports, a_votes, a_myVote, a_promised, a_acceptedRound, a_acceptedValue, a_ownRound, a_phase, a_promisers, a_promiserRound, a_promiserValue, a_learnedRound, a_learnedFrom, a_learnedValue, a_slots) p) := by
  unfold cx_pis
  dsimp only
  cases e : cd_st a_reports (p * 16) f_high f_low 16 with
  | none => exact pr_same I hp A S
  | some m =>
    dsimp only
    by_cases z : m = 0
    · rw [if_pos z]; exact pr_same I hp A S
    · rw [if_neg z]
      obtain ⟨g', I', L, O, E1, E2, P, M⟩ := po_vote I hp hk A h1 h2 hm z (cd_st_16 e)
      refine ⟨rfl, rfl, rfl, fun q hq hne => ⟨rfl, rfl, rfl, pk_un hne, rfl, pk_un hne, pk_un hne, rfl, rfl, rfl, rfl, rfl, rfl, fun _ _ => rfl, fun _ _ => rfl, fun _ _ => rfl⟩, fun _ _ => ?_, g', I', L, O, E1, ?_, ?_, pg_sl_send (pg_sl_up L (Nat.le_succ k) S) M⟩
      · rw [pk_us]; exact e
      · rw [pk_us]; exact E2
      · unfold pg_at
        dsimp only
        rw [pk_us, pk_us, pk_us]; exact P
theorem pr_alert (I : pg_I g) (hp : p < 16) (hk : k ≤ 200) (A : pg_at g k (f_rings, f_high, f_low, a_crashed, a_config, a_members, a_newestCut, a_reports, a_votes, a_myVote, a_promised, a_acceptedRound, a_acceptedValue, a_ownRound, a_phase, a_promisers, a_promiserRound, a_promiserValue, a_learnedRound, a_learnedFrom, a_learnedValue, a_slots) p) (S : pg_sl g k a_slots) (hm : bt (a_members p) p = true) {s : Nat} {y : Int32} : pg_res g k p (f_rings, f_high, f_low, a_crashed, a_config, a_members, a_newestCut, a_reports, a_votes, a_myVote, a_promised, a_acceptedRound, a_acceptedValue, a_ownRound, a_phase, a_promisers, a_promiserRound, a_promiserValue, a_learnedRound, a_learnedFrom, a_learnedValue, a_slots) (cx_alert (f_rings, f_high, f_low, a_crashed, a_config, a_members, a_newestCut, a_reports, a_votes, a_myVote, a_promised, a_acceptedRound, a_acceptedValue, a_ownRound, a_phase, a_promisers, a_promiserRound, a_promiserValue, a_learnedRound, a_learnedFrom, a_learnedValue, a_slots) p s y) := by
  unfold cx_alert
  dsimp only
  by_cases c : a_myVote p = -1 ∧ a_promised p = 0
  · rw [if_pos c]
    exact pr_pis (a_reports := upd a_reports (p * 16 + s) (a_reports (p * 16 + s) ||| y)) I hp hk A S hm c.1 c.2
  · rw [if_neg c]
    exact pr_same (a_reports := upd a_reports (p * 16 + s) (a_reports (p * 16 + s) ||| y)) I hp A S
theorem pr_dec (I : pg_I g) (hp : p < 16) (hk : k ≤ 200) {u : St2} {a_votes' a_learnedFrom' a_learnedRound' a_learnedValue' : Nat → Int32} (A : pg_at g k (f_rings, f_high, f_low, a_crashed, a_config, a_members, a_newestCut, a_reports, a_votes, a_myVote, a_promised, a_acceptedRound, a_acceptedValue, a_ownRound, a_phase, a_promisers, a_promiserRound, a_promiserValue, a_learnedRound, a_learnedFrom, a_learnedValue, a_slots) p) (S : pg_sl g k a_slots) (ot : pg_ot p u (f_rings, f_high, f_low, a_crashed, a_config, a_members, a_newestCut, a_reports, a_votes, a_myVote, a_promised, a_acceptedRound, a_acceptedValue, a_ownRound, a_phase, a_promisers, a_promiserRound, a_promiserValue, a_learnedRound, a_learnedFrom, a_learnedValue, a_slots)) {x : Int32} {c0 : Nat} (hc0 : a_config p = nI c0) (hc0k : c0 ≤ k) (hd : pg_dec g c0 x) :
    pg_ot p u (cx_dec (f_rings, f_high, f_low, a_crashed, a_config, a_members, a_newestCut, a_reports, a_votes, a_myVote, a_promised, a_acceptedRound, a_acceptedValue, a_ownRound, a_phase, a_promisers, a_promiserRound, a_promiserValue, a_learnedRound, a_learnedFrom, a_learnedValue, a_slots) p x) ∧ ∃ g', pg_I g' ∧ pg_le g g' ∧ pg_own p g g' ∧ pg_e1 g g' ∧ pg_e2 g g' p (a_config p + 1) (-1) ∧ pg_at g' (k + 1) (cx_dec (f_rings, f_high, f_low, a_crashed, a_config, a_members, a_newestCut, a_reports, a_votes, a_myVote, a_promised, a_acceptedRound, a_acceptedValue, a_ownRound, a_phase, a_promisers, a_promiserRound, a_promiserValue, a_learnedRound, a_learnedFrom, a_learnedValue, a_slots) p x) p ∧ pg_sl g' (k + 1) (cd_sd a_slots (nI p) (upd a_config p (a_config p + 1) p) 7 (a_members p ^^^ x) x 0 (x &&& cd_not p)) := by
  refine ⟨pg_ot_send (pg_ot_inst ot), ?_⟩
  obtain ⟨g', I', L, O, E1, E2, P, M⟩ := po_dec I hp hk A hc0 hc0k hd (vt' := fun q => cd_fill a_votes (p * 16) (-1) 16 (p * 16 + q)) (fun j hj => cd_fillI (by omega) (by omega)) (prr' := fun q => a_promiserRound (p * 16 + q)) (prv' := fun q => a_promiserValue (p * 16 + q))
  refine ⟨g', I', L, O, E1, E2, ?_, ?_⟩
  · unfold pg_at cx_dec cx_send cx_inst
    dsimp only
    simp only [pk_us]
    exact P
  · rw [pk_us]
    exact pg_sl_send (pg_sl_up L (Nat.le_succ k) S) M
theorem pr_vote (I : pg_I g) (hp : p < 16) (hk : k ≤ 200) (A : pg_at g k (f_rings, f_high, f_low, a_crashed, a_config, a_members, a_newestCut, a_reports, a_votes, a_myVote, a_promised, a_acceptedRound, a_acceptedValue, a_ownRound, a_phase, a_promisers, a_promiserRound, a_promiserValue, a_learnedRound, a_learnedFrom, a_learnedValue, a_slots) p) (S : pg_sl g k a_slots) {q c0 : Nat} {x : Int32} (hq : q < 16) (hc0 : a_config p = nI c0) (hc0k : c0 ≤ k) (hx : x = pg_V g c0 q) (hx1 : ¬ pg_V g c0 q = -1) : pg_res g k p (f_rings, f_high, f_low, a_crashed, a_config, a_members, a_newestCut, a_reports, a_votes, a_myVote, a_promised, a_acceptedRound, a_acceptedValue, a_ownRound, a_phase, a_promisers, a_promiserRound, a_promiserValue, a_learnedRound, a_learnedFrom, a_learnedValue, a_slots) (cx_vote (f_rings, f_high, f_low, a_crashed, a_config, a_members, a_newestCut, a_reports, a_votes, a_myVote, a_promised, a_acceptedRound, a_acceptedValue, a_ownRound, a_phase, a_promisers, a_promiserRound, a_promiserValue, a_learnedRound, a_learnedFrom, a_learnedValue, a_slots) p q x) := by
  unfold cx_vote
  dsimp only
  by_cases c : a_votes (p * 16 + q) = -1
  rotate_left
  · rw [if_neg c]; exact pr_same I hp A S
  rw [if_pos c]
  have ot : pg_ot p (f_rings, f_high, f_low, a_crashed, a_config, a_members, a_newestCut, a_reports, a_votes, a_myVote, a_promised, a_acceptedRound, a_acceptedValue, a_ownRound, a_phase, a_promisers, a_promiserRound, a_promiserValue, a_learnedRound, a_learnedFrom, a_learnedValue, a_slots) (f_rings, f_high, f_low, a_crashed, a_config, a_members, a_newestCut, a_reports, upd a_votes (p * 16 + q) x, a_myVote, a_promised, a_acceptedRound, a_acceptedValue, a_ownRound, a_phase, a_promisers, a_promiserRound, a_promiserValue, a_learnedRound, a_learnedFrom, a_learnedValue, a_slots) := fun j hj hne => ⟨rfl, rfl, rfl, rfl, rfl, rfl, rfl, rfl, rfl, rfl, rfl, rfl, rfl, fun i hi => pk_un (by omega), fun _ _ => rfl, fun _ _ => rfl⟩
  have A' : pg_at g k (f_rings, f_high, f_low, a_crashed, a_config, a_members, a_newestCut, a_reports, upd a_votes (p * 16 + q) x, a_myVote, a_promised, a_acceptedRound, a_acceptedValue, a_ownRound, a_phase, a_promisers, a_promiserRound, a_promiserValue, a_learnedRound, a_learnedFrom, a_learnedValue, a_slots) p := po_note I hp hk A hq hc0 hc0k hx (fun j hj => by
    by_cases e : j = q
    · subst e; rw [pk_us, if_pos rfl]
    · rw [pk_un (by omega), if_neg e])
  by_cases d : cd_fq (cd_ct (a_members p)) ≤ nI (cd_sm (upd a_votes (p * 16 + q) x) (p * 16) x 16)
  · rw [if_pos d]
    rw [pg_sm_ct] at d
    have hd : pg_dec g c0 x := po_fast A' hk hq hc0 hc0k (by rw [hx]; exact hx1) pk_us d
    obtain ⟨o, g', I', L, O, E1, E2, P, SL⟩ := pr_dec (u := (f_rings, f_high, f_low, a_crashed, a_config, a_members, a_newestCut, a_reports, a_votes, a_myVote, a_promised, a_acceptedRound, a_acceptedValue, a_ownRound, a_phase, a_promisers, a_promiserRound, a_promiserValue, a_learnedRound, a_learnedFrom, a_learnedValue, a_slots)) (a_votes' := a_votes) (a_learnedFrom' := a_votes) (a_learnedRound' := a_votes) (a_learnedValue' := a_votes) I hp hk A' S ot hc0 hc0k hd
    refine ⟨rfl, rfl, rfl, o, fun _ n => absurd pk_us n, g', I', L, O, E1, ?_, P, SL⟩
    rw [pk_us, pk_us]; exact E2
  · rw [if_neg d]
    exact ⟨rfl, rfl, rfl, ot, fun a b => absurd a b, g, I, pg_le_rf g, pg_own_rf p g, pg_e1_rf I rfl rfl rfl, pg_e2_rf rfl (Or.inl rfl), po_id I hp A', pg_sl_up (pg_le_rf g) (Nat.le_succ k) S⟩
theorem pr_prep (I : pg_I g) (hp : p < 16) (hk : k ≤ 200) (A : pg_at g k (f_rings, f_high, f_low, a_crashed, a_config, a_members, a_newestCut, a_reports, a_votes, a_myVote, a_promised, a_acceptedRound, a_acceptedValue, a_ownRound, a_phase, a_promisers, a_promiserRound, a_promiserValue, a_learnedRound, a_learnedFrom, a_learnedValue, a_slots) p) (S : pg_sl g k a_slots) (hm : bt (a_members p) p = true) {q r : Nat} (hr : 16 ≤ r) (hrk : r ≤ 16 * k + 15) : pg_res g k p (f_rings, f_high, f_low, a_crashed, a_config, a_members, a_newestCut, a_reports, a_votes, a_myVote, a_promised, a_acceptedRound, a_acceptedValue, a_ownRound, a_phase, a_promisers, a_promiserRound, a_promiserValue, a_learnedRound, a_learnedFrom, a_learnedValue, a_slots) (cx_prep (f_rings, f_high, f_low, a_crashed, a_config, a_members, a_newestCut, a_reports, a_votes, a_myVote, a_promised, a_acceptedRound, a_acceptedValue, a_ownRound, a_phase, a_promisers, a_promiserRound, a_promiserValue, a_learnedRound, a_learnedFrom, a_learnedValue, a_slots) p q (nI r)) := by
  unfold cx_prep
  dsimp only
  by_cases c : a_promised p < nI r
  rotate_left
  · rw [if_neg c]; exact pr_same I hp A S
  rw [if_pos c]
  obtain ⟨g', I', L, O, E1, E2, P, M⟩ := po_prep I hp hk A hm hr hrk c
  refine ⟨rfl, rfl, rfl, fun q hq hne => ⟨rfl, rfl, rfl, rfl, pk_un hne, rfl, rfl, rfl, rfl, rfl, rfl, rfl, rfl, fun _ _ => rfl, fun _ _ => rfl, fun _ _ => rfl⟩, fun a b => absurd a b, g', I', L, O, E1, E2, ?_, pg_sl_send (pg_sl_up L (Nat.le_succ k) S) M⟩
  unfold pg_at
  dsimp only
  rw [pk_us]; exact P
theorem pr_acc (I : pg_I g) (hp : p < 16) (hk : k ≤ 200) (A : pg_at g k (f_rings, f_high, f_low, a_crashed, a_config, a_members, a_newestCut, a_reports, a_votes, a_myVote, a_promised, a_acceptedRound, a_acceptedValue, a_ownRound, a_phase, a_promisers, a_promiserRound, a_promiserValue, a_learnedRound, a_learnedFrom, a_learnedValue, a_slots) p) (S : pg_sl g k a_slots) (hm : bt (a_members p) p = true) {r c0 : Nat} {y : Int32} (hr : 16 ≤ r) (hrk : r ≤ 16 * k + 15) (hc0 : a_config p = nI c0) (hc0k : c0 ≤ k) (hy : y = pg_W g c0 r) (hw : ¬ pg_W g c0 r = -1) : pg_res g k p (f_rings, f_high, f_low, a_crashed, a_config, a_members, a_newestCut, a_reports, a_votes, a_myVote, a_promised, a_acceptedRound, a_acceptedValue, a_ownRound, a_phase, a_promisers, a_promiserRound, a_promiserValue, a_learnedRound, a_learnedFrom, a_learnedValue, a_slots) (cx_acc (f_rings, f_high, f_low, a_crashed, a_config, a_members, a_newestCut, a_reports, a_votes, a_myVote, a_promised, a_acceptedRound, a_acceptedValue, a_ownRound, a_phase, a_promisers, a_promiserRound, a_promiserValue, a_learnedRound, a_learnedFrom, a_learnedValue, a_slots) p (nI r) y) := by
  unfold cx_acc
  dsimp only
  by_cases c : a_promised p ≤ nI r
  rotate_left
  · rw [if_neg c]; exact pr_same I hp A S
  rw [if_pos c]
  obtain ⟨g', I', L, O, E1, E2, P, M⟩ := po_acc I hp hk A hm hr hrk hc0 hc0k hy hw c
  refine ⟨rfl, rfl, rfl, fun q hq hne => ⟨rfl, rfl, rfl, rfl, pk_un hne, pk_un hne, pk_un hne, rfl, rfl, rfl, rfl, rfl, rfl, fun _ _ => rfl, fun _ _ => rfl, fun _ _ => rfl⟩, fun a b => absurd a b, g', I', L, O, E1, E2, ?_, pg_sl_send (pg_sl_up L (Nat.le_succ k) S) M⟩
  unfold pg_at
  dsimp only
  rw [pk_us, pk_us, pk_us]; exact P
theorem pr_prom (I : pg_I g) (hp : p < 16) (hk : k ≤ 200) (A : pg_at g k (f_rings, f_high, f_low, a_crashed, a_config, a_members, a_newestCut, a_reports, a_votes, a_myVote, a_promised, a_acceptedRound, a_acceptedValue, a_ownRound, a_phase, a_promisers, a_promiserRound, a_promiserValue, a_learnedRound, a_learnedFrom, a_learnedValue, a_slots) p) (S : pg_sl g k a_slots) {q r c0 : Nat} {y z : Int32} (hq : q < 16) (hrk : r ≤ 16 * k + 15) (hc0 : a_config p = nI c0) (hc0k : c0 ≤ k) (hok : pg_pok g c0 q r y z) : pg_res g k p (f_rings, f_high, f_low, a_crashed, a_config, a_members, a_newestCut, a_reports, a_votes, a_myVote, a_promised, a_acceptedRound, a_acceptedValue, a_ownRound, a_phase, a_promisers, a_promiserRound, a_promiserValue, a_learnedRound, a_learnedFrom, a_learnedValue, a_slots) (cx_prom (f_rings, f_high, f_low, a_crashed, a_config, a_members, a_newestCut, a_reports, a_votes, a_myVote, a_promised, a_acceptedRound, a_acceptedValue, a_ownRound, a_phase, a_promisers, a_promiserRound, a_promiserValue, a_learnedRound, a_learnedFrom, a_learnedValue, a_slots) p q (nI r) y z) := by
  unfold cx_prom
  dsimp only
  by_cases c : a_phase p = 1 ∧ nI r = a_ownRound p ∧ bt (a_promisers p) q = false
  rotate_left
  · rw [if_neg c]; exact pr_same I hp A S
  rw [if_pos c]
  have ot : pg_ot p (f_rings, f_high, f_low, a_crashed, a_config, a_members, a_newestCut, a_reports, a_votes, a_myVote, a_promised, a_acceptedRound, a_acceptedValue, a_ownRound, a_phase, a_promisers, a_promiserRound, a_promiserValue, a_learnedRound, a_learnedFrom, a_learnedValue, a_slots) (f_rings, f_high, f_low, a_crashed, a_config, a_members, a_newestCut, a_reports, a_votes, a_myVote, a_promised, a_acceptedRound, a_acceptedValue, a_ownRound, a_phase, upd a_promisers p (a_promisers p ||| (1 <<< (nI q &&& 31))), upd a_promiserRound (p * 16 + q) y, upd a_promiserValue (p * 16 + q) z, a_learnedRound, a_learnedFrom, a_learnedValue, a_slots) := fun j hj hne => ⟨rfl, rfl, rfl, rfl, rfl, rfl, rfl, rfl, rfl, pk_un hne, rfl, rfl, rfl, fun _ _ => rfl, fun i hi => pk_un (by omega), fun i hi => pk_un (by omega)⟩
  have A' := po_rec (prs' := a_promisers p ||| (1 <<< (nI q &&& 31))) (prr' := fun j => upd a_promiserRound (p * 16 + q) y (p * 16 + j)) (prv' := fun j => upd a_promiserValue (p * 16 + q) z (p * 16 + j)) A hk hq hrk hc0 hc0k c.2.1 hok
    (fun j hj hb => by
      rw [b_or, cd_shl1 q (by omega) (by omega), Bool.or_eq_true_iff, decide_eq_true_iff] at hb
      rcases hb with a | a
      · exact Or.inr a
      · exact Or.inl a)
    (fun j hj => by
      by_cases e : j = q
      · subst e; rw [pk_us, if_pos rfl]
      · rw [pk_un (by omega), if_neg e])
    (fun j hj => by
      by_cases e : j = q
      · subst e; rw [pk_us, if_pos rfl]
      · rw [pk_un (by omega), if_neg e])
  by_cases n : cd_ct (a_promisers p ||| (1 <<< (nI q &&& 31))) = cd_cq (cd_ct (a_members p))
  rotate_left
  · rw [if_neg n]
    refine ⟨rfl, rfl, rfl, ot, fun a b => absurd a b, g, I, pg_le_rf g, pg_own_rf p g, pg_e1_rf I rfl rfl rfl, pg_e2_rf rfl (Or.inl rfl), ?_, pg_sl_up (pg_le_rf g) (Nat.le_succ k) S⟩
    have := po_id I hp A'
    unfold pg_at
    dsimp only
    rw [pk_us]; exact this
  rw [if_pos n]
  rw [c.1] at A'
  obtain ⟨C1, C2⟩ := po_choose (b := p * 16) (pr := upd a_promiserRound (p * 16 + q) y) (pv := upd a_promiserValue (p * 16 + q) z) I hp hk A' n
  unfold cx_choose
  dsimp only
  rw [pk_us]
  cases e : cd_ch (a_promisers p ||| (1 <<< (nI q &&& 31))) (a_members p) (upd a_promiserRound (p * 16 + q) y) (upd a_promiserValue (p * 16 + q) z) (p * 16) with
  | some q0 =>
    dsimp only
    obtain ⟨g', I', L, O, E1, E2, P, M⟩ := C1 q0 e
    refine ⟨rfl, rfl, rfl, fun j hj hne => ⟨rfl, rfl, rfl, rfl, rfl, rfl, rfl, rfl, pk_un hne, pk_un hne, rfl, rfl, rfl, fun _ _ => rfl, fun i hi => pk_un (by omega), fun i hi => pk_un (by omega)⟩, fun a b => absurd a b, g', I', L, O, E1, E2, ?_, pg_sl_send (pg_sl_up L (Nat.le_succ k) S) M⟩
    unfold pg_at
    dsimp only
    rw [pk_us, pk_us]; exact P
  | none =>
    dsimp only
    by_cases mv : a_myVote p = -1
    · rw [if_pos mv]
      refine ⟨rfl, rfl, rfl, fun j hj hne => ⟨rfl, rfl, rfl, rfl, rfl, rfl, rfl, rfl, pk_un hne, pk_un hne, rfl, rfl, rfl, fun _ _ => rfl, fun i hi => pk_un (by omega), fun i hi => pk_un (by omega)⟩, fun a b => absurd a b, g, I, pg_le_rf g, pg_own_rf p g, pg_e1_rf I rfl rfl rfl, pg_e2_rf rfl (Or.inl rfl), ?_, pg_sl_up (pg_le_rf g) (Nat.le_succ k) S⟩
      have := po_idle hp I A'
      unfold pg_at
      dsimp only
      rw [pk_us, pk_us]; exact this
    · rw [if_neg mv]
      obtain ⟨g', I', L, O, E1, E2, P, M⟩ := C2 e mv
      refine ⟨rfl, rfl, rfl, fun j hj hne => ⟨rfl, rfl, rfl, rfl, rfl, rfl, rfl, rfl, pk_un hne, pk_un hne, rfl, rfl, rfl, fun _ _ => rfl, fun i hi => pk_un (by omega), fun i hi => pk_un (by omega)⟩, fun a b => absurd a b, g', I', L, O, E1, E2, ?_, pg_sl_send (pg_sl_up L (Nat.le_succ k) S) M⟩
      unfold pg_at
      dsimp only
      rw [pk_us, pk_us]; exact P
end PG8
