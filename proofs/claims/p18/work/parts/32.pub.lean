section PG12
variable {f_rings f_high f_low : Int32} {a_crashed a_config a_members a_newestCut a_reports a_votes a_myVote a_promised a_acceptedRound a_acceptedValue a_ownRound a_phase a_promisers a_promiserRound a_promiserValue a_learnedRound a_learnedFrom a_learnedValue a_slots : Nat → Int32}
variable {g : pg_G} {k p : Nat}
theorem cx_eta2 {post : Int32 → St2 → Prop} {r : Int32} {u : St2} (h : post r u) : (match u with | (f_rings, f_high, f_low, a_crashed, a_config, a_members, a_newestCut, a_reports, a_votes, a_myVote, a_promised, a_acceptedRound, a_acceptedValue, a_ownRound, a_phase, a_promisers, a_promiserRound, a_promiserValue, a_learnedRound, a_learnedFrom, a_learnedValue, a_slots) => post r (f_rings, f_high, f_low, a_crashed, a_config, a_members, a_newestCut, a_reports, a_votes, a_myVote, a_promised, a_acceptedRound, a_acceptedValue, a_ownRound, a_phase, a_promisers, a_promiserRound, a_promiserValue, a_learnedRound, a_learnedFrom, a_learnedValue, a_slots)) := h
def pg_next (g : pg_G) (k : Nat) (u u' : St2) : Prop := ∃ g', pg_le g g' ∧ pg_st g' (k + 1) u' ∧ pg_out g g' u u'
theorem st_same (st : pg_st g k (f_rings, f_high, f_low, a_crashed, a_config, a_members, a_newestCut, a_reports, a_votes, a_myVote, a_promised, a_acceptedRound, a_acceptedValue, a_ownRound, a_phase, a_promisers, a_promiserRound, a_promiserValue, a_learnedRound, a_learnedFrom, a_learnedValue, a_slots)) : pg_next g k (f_rings, f_high, f_low, a_crashed, a_config, a_members, a_newestCut, a_reports, a_votes, a_myVote, a_promised, a_acceptedRound, a_acceptedValue, a_ownRound, a_phase, a_promisers, a_promiserRound, a_promiserValue, a_learnedRound, a_learnedFrom, a_learnedValue, a_slots) (f_rings, f_high, f_low, a_crashed, a_config, a_members, a_newestCut, a_reports, a_votes, a_myVote, a_promised, a_acceptedRound, a_acceptedValue, a_ownRound, a_phase, a_promisers, a_promiserRound, a_promiserValue, a_learnedRound, a_learnedFrom, a_learnedValue, a_slots) := pg_fin (p := 0) (by omega) st (pr_same st.1 (by omega) (st.2.1 0 (by omega)) st.2.2)
theorem sw_obs {post : Int32 → St2 → Prop} (st : pg_st g k (f_rings, f_high, f_low, a_crashed, a_config, a_members, a_newestCut, a_reports, a_votes, a_myVote, a_promised, a_acceptedRound, a_acceptedValue, a_ownRound, a_phase, a_promisers, a_promiserRound, a_promiserValue, a_learnedRound, a_learnedFrom, a_learnedValue, a_slots)) {K : Nat} (hK : K ≤ 6) (hr : f_rings = nI K) {o s : Nat} (ho : o < 16) (hs : s < 16) (h : ∀ r u', pg_next g k (f_rings, f_high, f_low, a_crashed, a_config, a_members, a_newestCut, a_reports, a_votes, a_myVote, a_promised, a_acceptedRound, a_acceptedValue, a_ownRound, a_phase, a_promisers, a_promiserRound, a_promiserValue, a_learnedRound, a_learnedFrom, a_learnedValue, a_slots) u' → post r u') : wpX_observe post (f_rings, f_high, f_low, a_crashed, a_config, a_members, a_newestCut, a_reports, a_votes, a_myVote, a_promised, a_acceptedRound, a_acceptedValue, a_ownRound, a_phase, a_promisers, a_promiserRound, a_promiserValue, a_learnedRound, a_learnedFrom, a_learnedValue, a_slots) (nI o) (nI s) := by
  have h0 := h 0 _ (st_same st)
  unfold wpX_observe
  dsimp only
  refine xw_isP ho (br_f (by decide) (xw_isP hs (br_f (by decide) ?_)))
  refine br_c (fun _ => h0) (fun _ => xw_stt ho ?_)
  refine br_c (fun _ => xw_wat ho hK hr ?_) (fun _ => h0)
  refine br_c (fun _ => h0) (fun _ => xw_free ?_)
  refine br_c (fun _ => h0) (fun _ => ⟨cd_vi ho, ?_⟩)
  rw [cd_cl ho]
  exact xw_send ho (h 1 _ (pg_fin ho st (pr_obs st.1 ho (st.2.1 o ho) st.2.2 hs)))
theorem sw_fb {post : Int32 → St2 → Prop} (st : pg_st g k (f_rings, f_high, f_low, a_crashed, a_config, a_members, a_newestCut, a_reports, a_votes, a_myVote, a_promised, a_acceptedRound, a_acceptedValue, a_ownRound, a_phase, a_promisers, a_promiserRound, a_promiserValue, a_learnedRound, a_learnedFrom, a_learnedValue, a_slots)) (hk : k ≤ 200) (hp : p < 16) (h : ∀ r u', pg_next g k (f_rings, f_high, f_low, a_crashed, a_config, a_members, a_newestCut, a_reports, a_votes, a_myVote, a_promised, a_acceptedRound, a_acceptedValue, a_ownRound, a_phase, a_promisers, a_promiserRound, a_promiserValue, a_learnedRound, a_learnedFrom, a_learnedValue, a_slots) u' → post r u') : wpX_fallback post (f_rings, f_high, f_low, a_crashed, a_config, a_members, a_newestCut, a_reports, a_votes, a_myVote, a_promised, a_acceptedRound, a_acceptedValue, a_ownRound, a_phase, a_promisers, a_promiserRound, a_promiserValue, a_learnedRound, a_learnedFrom, a_learnedValue, a_slots) (nI p) := by
  have h0 := h 0 _ (st_same st)
  unfold wpX_fallback
  dsimp only
  refine xw_isP hp (br_f (by decide) (xw_stt hp ?_))
  refine br_c (fun _ => xw_free ?_) (fun _ => h0)
  refine br_c (fun _ => h0) (fun _ => ⟨cd_vi hp, cd_vi hp, ?_⟩)
  have Xc : ∀ (z0 : Int32), z0 = (if a_promised p ≤ a_ownRound p then a_ownRound p else a_promised p) → wX_fallback_56 post (nI p) z0 f_rings f_high f_low a_crashed a_config a_members a_newestCut a_reports a_votes a_myVote a_promised a_acceptedRound a_acceptedValue a_ownRound a_phase a_promisers a_promiserRound a_promiserValue a_learnedRound a_learnedFrom a_learnedValue a_slots := by
    intro z0 e
    unfold wX_fallback_56
    rw [cd_cl hp]
    refine ⟨by decide, cd_vi hp, nm_e ⟨cd_vi hp, nm_e ⟨cd_vi hp, nm_e ⟨cd_vi hp, cd_vi hp, ?_⟩⟩⟩⟩
    rw [pk_us]
    exact xw_send hp (h 1 _ (pg_fin hp st (pr_fb st.1 hp hk (st.2.1 p hp) st.2.2 e)))
  rw [cd_cl hp]
  by_cases c : a_promised p ≤ a_ownRound p
  · rw [if_pos c] at Xc
    exact br_t c ⟨cd_vi hp, Xc _ rfl⟩
  · rw [if_neg c] at Xc
    exact br_f c ⟨cd_vi hp, Xc _ rfl⟩
theorem sw_crash {post : Int32 → St2 → Prop} (st : pg_st g k (f_rings, f_high, f_low, a_crashed, a_config, a_members, a_newestCut, a_reports, a_votes, a_myVote, a_promised, a_acceptedRound, a_acceptedValue, a_ownRound, a_phase, a_promisers, a_promiserRound, a_promiserValue, a_learnedRound, a_learnedFrom, a_learnedValue, a_slots)) (hp : p < 16) (h : ∀ r u', pg_next g k (f_rings, f_high, f_low, a_crashed, a_config, a_members, a_newestCut, a_reports, a_votes, a_myVote, a_promised, a_acceptedRound, a_acceptedValue, a_ownRound, a_phase, a_promisers, a_promiserRound, a_promiserValue, a_learnedRound, a_learnedFrom, a_learnedValue, a_slots) u' → post r u') : wpX_crash post (f_rings, f_high, f_low, a_crashed, a_config, a_members, a_newestCut, a_reports, a_votes, a_myVote, a_promised, a_acceptedRound, a_acceptedValue, a_ownRound, a_phase, a_promisers, a_promiserRound, a_promiserValue, a_learnedRound, a_learnedFrom, a_learnedValue, a_slots) (nI p) := by
  have h0 := h 0 _ (st_same st)
  unfold wpX_crash
  dsimp only
  refine xw_isP hp (br_f (by decide) ⟨cd_vi hp, ?_⟩)
  exact br_c (fun _ => ⟨cd_vi hp, nm_e (h 1 _ (pg_fin hp st (pr_crash st.1 hp (st.2.1 p hp) st.2.2)))⟩) (fun _ => h0)
theorem sw_drop {post : Int32 → St2 → Prop} (st : pg_st g k (f_rings, f_high, f_low, a_crashed, a_config, a_members, a_newestCut, a_reports, a_votes, a_myVote, a_promised, a_acceptedRound, a_acceptedValue, a_ownRound, a_phase, a_promisers, a_promiserRound, a_promiserValue, a_learnedRound, a_learnedFrom, a_learnedValue, a_slots)) {i : Nat} (hi : i < 32) (hp : p < 16) (h : ∀ r u', pg_next g k (f_rings, f_high, f_low, a_crashed, a_config, a_members, a_newestCut, a_reports, a_votes, a_myVote, a_promised, a_acceptedRound, a_acceptedValue, a_ownRound, a_phase, a_promisers, a_promiserRound, a_promiserValue, a_learnedRound, a_learnedFrom, a_learnedValue, a_slots) u' → post r u') : wpX_drop post (f_rings, f_high, f_low, a_crashed, a_config, a_members, a_newestCut, a_reports, a_votes, a_myVote, a_promised, a_acceptedRound, a_acceptedValue, a_ownRound, a_phase, a_promisers, a_promiserRound, a_promiserValue, a_learnedRound, a_learnedFrom, a_learnedValue, a_slots) (nI i) (nI p) := by
  have h0 := h 0 _ (st_same st)
  unfold wpX_drop
  refine xw_awt hi hp (fun _ => br_t rfl h0) (fun _ => br_f (by decide) (xw_off hi ?_))
  exact cx_eta2 (h 1 _ (pg_fin hp st (pr_drop st.1 hp (st.2.1 p hp) st.2.2)))
theorem sw_del {post : Int32 → St2 → Prop} (st : pg_st g k (f_rings, f_high, f_low, a_crashed, a_config, a_members, a_newestCut, a_reports, a_votes, a_myVote, a_promised, a_acceptedRound, a_acceptedValue, a_ownRound, a_phase, a_promisers, a_promiserRound, a_promiserValue, a_learnedRound, a_learnedFrom, a_learnedValue, a_slots)) (hk : k ≤ 200) {i : Nat} (hi : i < 32) (hp : p < 16) (hb : bt (a_slots (i * 7 + 6)) p = true) (h : ∀ r u', pg_next g k (f_rings, f_high, f_low, a_crashed, a_config, a_members, a_newestCut, a_reports, a_votes, a_myVote, a_promised, a_acceptedRound, a_acceptedValue, a_ownRound, a_phase, a_promisers, a_promiserRound, a_promiserValue, a_learnedRound, a_learnedFrom, a_learnedValue, a_slots) u' → post r u') : wpX_deliver post (f_rings, f_high, f_low, a_crashed, a_config, a_members, a_newestCut, a_reports, a_votes, a_myVote, a_promised, a_acceptedRound, a_acceptedValue, a_ownRound, a_phase, a_promisers, a_promiserRound, a_promiserValue, a_learnedRound, a_learnedFrom, a_learnedValue, a_slots) (nI i) (nI p) := by
  obtain ⟨h1, h2, h3⟩ := pr_del st.1 hp hk (st.2.1 p hp) st.2.2 hi hb
  exact xw_del hi hp hb h1 h2 (h 1 _ (pg_fin hp st h3))
theorem sw_msg {post : Int32 → Prop} {i : Nat} (hi : i < 32) (h : post (a_slots (i * 7 + 6))) : wpX_msg post (f_rings, f_high, f_low, a_crashed, a_config, a_members, a_newestCut, a_reports, a_votes, a_myVote, a_promised, a_acceptedRound, a_acceptedValue, a_ownRound, a_phase, a_promisers, a_promiserRound, a_promiserValue, a_learnedRound, a_learnedFrom, a_learnedValue, a_slots) (nI i) 6 := by
  unfold wpX_msg
  dsimp only
  rw [cd_i76, cd_c7 hi (by omega)]
  exact br_f (nI_pos (by omega)) (br_f (nI_ge (b := 32) hi (by decide)) (br_f (by decide) (br_t (by decide) ⟨cd_v7 hi (by omega), h⟩)))
theorem sw_cfg {post : Int32 → Prop} (hp : p < 16) (h : post (a_config p)) : wpX_configOf post (f_rings, f_high, f_low, a_crashed, a_config, a_members, a_newestCut, a_reports, a_votes, a_myVote, a_promised, a_acceptedRound, a_acceptedValue, a_ownRound, a_phase, a_promisers, a_promiserRound, a_promiserValue, a_learnedRound, a_learnedFrom, a_learnedValue, a_slots) (nI p) := by
  unfold wpX_configOf
  dsimp only
  rw [cd_cl hp]
  exact xw_isP hp (br_f (by decide) ⟨cd_vi hp, h⟩)
theorem sw_mem {post : Int32 → Prop} (hp : p < 16) (h : post (a_members p)) : wpX_membersOf post (f_rings, f_high, f_low, a_crashed, a_config, a_members, a_newestCut, a_reports, a_votes, a_myVote, a_promised, a_acceptedRound, a_acceptedValue, a_ownRound, a_phase, a_promisers, a_promiserRound, a_promiserValue, a_learnedRound, a_learnedFrom, a_learnedValue, a_slots) (nI p) := by
  unfold wpX_membersOf
  dsimp only
  rw [cd_cl hp]
  exact xw_isP hp (br_f (by decide) ⟨cd_vi hp, h⟩)
theorem sw_cut {post : Int32 → Prop} (hp : p < 16) (h : post (a_newestCut p)) : wpX_lastCut post (f_rings, f_high, f_low, a_crashed, a_config, a_members, a_newestCut, a_reports, a_votes, a_myVote, a_promised, a_acceptedRound, a_acceptedValue, a_ownRound, a_phase, a_promisers, a_promiserRound, a_promiserValue, a_learnedRound, a_learnedFrom, a_learnedValue, a_slots) (nI p) := by
  unfold wpX_lastCut
  dsimp only
  rw [cd_cl hp]
  exact xw_isP hp (br_f (by decide) ⟨cd_vi hp, h⟩)
theorem sw_pro {post : Int32 → Prop} (hp : p < 16) (h : post (a_myVote p)) : wpX_proposalOf post (f_rings, f_high, f_low, a_crashed, a_config, a_members, a_newestCut, a_reports, a_votes, a_myVote, a_promised, a_acceptedRound, a_acceptedValue, a_ownRound, a_phase, a_promisers, a_promiserRound, a_promiserValue, a_learnedRound, a_learnedFrom, a_learnedValue, a_slots) (nI p) := by
  unfold wpX_proposalOf
  dsimp only
  rw [cd_cl hp]
  exact xw_isP hp (br_f (by decide) ⟨cd_vi hp, h⟩)
theorem sw_rep {post : Int32 → Prop} (hp : p < 16) {s : Nat} (hs : s < 16) (h : post (cd_ct (a_reports (p * 16 + s)))) : wpX_reportCount post (f_rings, f_high, f_low, a_crashed, a_config, a_members, a_newestCut, a_reports, a_votes, a_myVote, a_promised, a_acceptedRound, a_acceptedValue, a_ownRound, a_phase, a_promisers, a_promiserRound, a_promiserValue, a_learnedRound, a_learnedFrom, a_learnedValue, a_slots) (nI p) (nI s) := by
  unfold wpX_reportCount
  dsimp only
  rw [cd_cl16 hp hs]
  exact xw_isP hp (br_f (by decide) (xw_isP hs (br_f (by decide) ⟨cd_vi16 hp hs, xw_ct h⟩)))
/-! the start -/
def cd_row (n : Nat) (v : Int32) : Nat → Int32 := fun j => if j < n then v else 0
theorem cd_row0 (v : Int32) : cd_row 0 v = fun _ => 0 := by
  funext j
  exact if_neg (Nat.not_lt_zero j)
theorem cd_rowI {n j : Nat} {v : Int32} (h : j < n) : cd_row n v j = v := if_pos h
theorem cd_rowS (p : Nat) (v : Int32) : upd (cd_row p v) p v = cd_row (p + 1) v := by
  funext j
  show (if j = p then v else if j < p then v else 0) = (if j < p + 1 then v else 0)
  by_cases e : j = p
  · rw [if_pos e, if_pos (by omega)]
  · rw [if_neg e]
    by_cases l : j < p
    · rw [if_pos l, if_pos (by omega)]
    · rw [if_neg l, if_neg (by omega)]
theorem cd_rowF (p : Nat) (v : Int32) : cd_fill (cd_row (p * 16) v) (p * 16) v 16 = cd_row ((p + 1) * 16) v := by
  funext j
  show (if p * 16 ≤ j ∧ j < p * 16 + 16 then v else if j < p * 16 then v else 0) = (if j < (p + 1) * 16 then v else 0)
  by_cases e : p * 16 ≤ j ∧ j < p * 16 + 16
  · rw [if_pos e, if_pos (by omega)]
  · rw [if_neg e]
    by_cases l : j < p * 16
    · rw [if_pos l, if_pos (by omega)]
    · rw [if_neg l, if_neg (by omega)]
theorem cd_u0 (p : Nat) : upd (fun _ => 0) p 0 = fun _ => 0 := by
  funext j
  show (if j = p then (0 : Int32) else 0) = 0
  split <;> rfl
theorem cd_f0 (b n : Nat) : cd_fill (fun _ => 0) b 0 n = fun _ => 0 := by
  funext j
  show (if b ≤ j ∧ j < b + n then (0 : Int32) else 0) = 0
  split <;> rfl
theorem xw_clampI {post : Int32 → Prop} {v lo hi : Int32} (h1 : lo ≤ v) (h2 : v ≤ hi) (h : post v) : wpX_clamp post () v lo hi := br_t h1 (br_t h2 h)
def cx_0 (r h l f : Int32) (p : Nat) : St2 := (r, h, l, fun _ => 0, fun _ => 0, cd_row p f, fun _ => 0, fun _ => 0, cd_row (p * 16) (-1), cd_row p (-1), fun _ => 0, cd_row p (-1), fun _ => 0, fun _ => 0, fun _ => 0, fun _ => 0, fun _ => 0, fun _ => 0, fun _ => 0, fun _ => 0, fun _ => 0, fun _ => 0)
theorem xw_iniL {post : St2 → Prop} {mc ms kc ks : Nat} {r h l f : Int32} (hh : post (cx_0 r h l f 16)) : ∀ d p, p + d = 16 → wX_init_219 post mc ms f kc ks (d + 1) (nI p) r h l (fun _ => 0) (fun _ => 0) (cd_row p f) (fun _ => 0) (fun _ => 0) (cd_row (p * 16) (-1)) (cd_row p (-1)) (fun _ => 0) (cd_row p (-1)) (fun _ => 0) (fun _ => 0) (fun _ => 0) (fun _ => 0) (fun _ => 0) (fun _ => 0) (fun _ => 0) (fun _ => 0) (fun _ => 0) (fun _ => 0) := by
  intro d
  induction d with
  | zero =>
    intro p hp
    have e : p = 16 := by omega
    subst e
    exact br_t (cd_at16 rfl) hh
  | succ d ih =>
    intro p hp
    have ih := ih (p + 1) (by omega)
    refine br_f (cd_ge16 (by omega)) (xw_inst (by omega) ?_)
    unfold cx_inst
    dsimp only
    rw [cd_u0, cd_f0, cd_rowS, cd_rowS, cd_rowF]
    exact nm_r (nI_1 p) ih
theorem xw_init {post : St2 → Prop} {n k h l : Int32} (n1 : 3 ≤ n) (n2 : n ≤ 16) (k1 : 2 ≤ k) (k2 : k ≤ 6) (h1 : 1 ≤ h) (h2 : h ≤ k) (l1 : 1 ≤ l) (l2 : l ≤ h) (hh : post (cx_0 k h l ((1 <<< (n &&& 31)) - 1) 16)) : wpX_init post 19 1472 (0, 0, 0) n k h l := by
  have L := xw_iniL (mc := 19) (ms := 1472) (kc := 19) (ks := 1472) hh 16 0 rfl
  rw [Nat.zero_mul, cd_row0, cd_row0] at L
  exact ⟨by omega, by omega, by omega, by omega, by omega, by omega, by omega, by omega, by omega, by omega, by omega, by omega, by omega, by omega, by omega, by omega, by omega, by omega, by omega, by omega, by omega, by omega, by omega, by omega, by omega, by omega, by omega, by omega, by omega, by omega, by omega, by omega, by omega, by omega, by omega, by omega, by omega, by omega, xw_clampI n1 n2 (xw_clampI k1 k2 (xw_clampI h1 h2 (xw_clampI l1 l2 (nm_e ⟨17, L⟩))))⟩
def pg_0 (f : Int32) : pg_G := (0, fun _ => f, fun _ => 0, fun _ _ => -1, fun _ _ => 0, fun _ _ _ => false, fun _ _ => -1)
theorem pg_st0 {r h l f : Int32} : pg_st (pg_0 f) 0 (cx_0 r h l f 16) := by
  refine ⟨⟨fun c q r _ e => absurd (show false = true from e) (by decide), fun c q _ n => absurd rfl n, fun c r n => absurd rfl n, fun c _ => ⟨fun q _ => ⟨rfl, rfl⟩, fun _ => rfl⟩, fun c hc => absurd hc (Nat.not_lt_zero c)⟩, fun p hp => ?_, fun i _ n => absurd rfl n⟩
  have F := po_fresh (g := pg_0 f) (k := 0) (c := 0) (prr := fun _ => 0) (prv := fun _ => 0) hp (Nat.le_refl 0) (Nat.le_refl 0) ⟨rfl, rfl, fun _ => rfl, fun _ _ => rfl⟩ (fun _ _ => ⟨rfl, rfl, fun _ => rfl, fun _ _ => rfl⟩) (vt' := fun q => cd_row (16 * 16) (-1) (p * 16 + q)) (fun j hj => cd_rowI (by omega))
  unfold pg_at
  dsimp only
  rw [cd_rowI hp, cd_rowI hp]
  exact F
end PG12
