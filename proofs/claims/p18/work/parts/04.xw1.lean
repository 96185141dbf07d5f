section CD4
variable {f_rings f_high f_low : Int32} {a_crashed a_config a_members a_newestCut a_reports a_votes a_myVote a_promised a_acceptedRound a_acceptedValue a_ownRound a_phase a_promisers a_promiserRound a_promiserValue a_learnedRound a_learnedFrom a_learnedValue a_slots : Nat → Int32}
theorem cx_eta {post : St2 → Prop} {u : St2} (h : post u) : (match u with | (f_rings, f_high, f_low, a_crashed, a_config, a_members, a_newestCut, a_reports, a_votes, a_myVote, a_promised, a_acceptedRound, a_acceptedValue, a_ownRound, a_phase, a_promisers, a_promiserRound, a_promiserValue, a_learnedRound, a_learnedFrom, a_learnedValue, a_slots) => post (f_rings, f_high, f_low, a_crashed, a_config, a_members, a_newestCut, a_reports, a_votes, a_myVote, a_promised, a_acceptedRound, a_acceptedValue, a_ownRound, a_phase, a_promisers, a_promiserRound, a_promiserValue, a_learnedRound, a_learnedFrom, a_learnedValue, a_slots)) := h
theorem cd_a0 (n : Nat) : nI n + 0 = nI n := Int32.add_zero _
theorem cd_a1 (n : Nat) : nI n + 1 = nI (n + 1) := nI_add n 1
theorem cd_a2 (n : Nat) : nI n + 2 = nI (n + 2) := nI_add n 2
theorem cd_a3 (n : Nat) : nI n + 3 = nI (n + 3) := nI_add n 3
theorem cd_a4 (n : Nat) : nI n + 4 = nI (n + 4) := nI_add n 4
theorem cd_a5 (n : Nat) : nI n + 5 = nI (n + 5) := nI_add n 5
theorem cd_a6 (n : Nat) : nI n + 6 = nI (n + 6) := nI_add n 6
theorem cd_cl {p : Nat} (hp : p < 16) : (nI p).toNatClampNeg = p := nI_clamp (by omega)
theorem cd_vi {p : Nat} (hp : p < 16) : vp_in (nI p) 16 := vp_in_nI hp (by decide)
theorem cd_cl16 {p q : Nat} (hp : p < 16) (hq : q < 16) : (nI p * 16 + nI q).toNatClampNeg = p * 16 + q := by rw [cd_i16]; exact nI_clamp (by omega)
theorem cd_vi16 {p q : Nat} (hp : p < 16) (hq : q < 16) : vp_in (nI p * 16 + nI q) 256 := by rw [cd_i16]; exact vp_in_nI (by omega) (by decide)
theorem cd_ge16 {i : Nat} (h : i < 16) : ¬ (16 : Int32) ≤ nI i := nI_ge (b := 16) h (by decide)
theorem cd_at16 {i : Nat} (h : i = 16) : (16 : Int32) ≤ nI i := by subst h; decide
theorem cd_ne1 {i : Nat} (h : i < 2 ^ 31) : ¬ nI i = -1 := by
  intro e
  have := nI_pos (n := i) h
  rw [e] at this
  exact this (by decide)
theorem cd_px (x : Int32) : x < 0 ∨ (¬ x < 0 ∧ (16 : Int32) ≤ x ∧ (15 : Int32) < x ∧ ¬ x ≤ 15) ∨ ∃ j, j < 16 ∧ x = nI j := by
  rcases pk_ix x (n := 16) (by decide) with h | h | h
  · exact Or.inl h
  · have h : (16 : Int32) ≤ x := h
    have h15 : (15 : Int32) < x := Int32.lt_of_lt_of_le (by decide) h
    exact Or.inr (Or.inl ⟨fun z => absurd (Int32.lt_of_le_of_lt h z) (by decide), h, h15, Int32.not_le.mpr h15⟩)
  · exact Or.inr (Or.inr h)
theorem cd_sx (x : Int32) : x < 0 ∨ (¬ x < 0 ∧ (32 : Int32) ≤ x) ∨ ∃ j, j < 32 ∧ x = nI j := by
  rcases pk_ix x (n := 32) (by decide) with h | h | h
  · exact Or.inl h
  · have h : (32 : Int32) ≤ x := h
    exact Or.inr (Or.inl ⟨fun z => absurd (Int32.lt_of_le_of_lt h z) (by decide), h⟩)
  · exact Or.inr (Or.inr h)
theorem cd_j0 {j : Nat} (h : j < 16) : ¬ nI j < 0 := nI_pos (by omega)
theorem cd_j15 {j : Nat} (h : j < 16) : ¬ (15 : Int32) < nI j := nI_nlt (a := 15) (b := j) (by omega) (by decide)
theorem cd_l15 {j : Nat} (h : j < 16) : nI j ≤ (15 : Int32) := nI_le (b := 15) (by omega) (by decide)
theorem xw_isP {post : Int32 → Prop} {j : Nat} (hj : j < 16) (h : post 1) : wpX_isProcess post () (nI j) := br_f (cd_j0 hj) (br_f (cd_ge16 hj) h)
theorem xw_has {post : Int32 → Prop} {x : Int32} {i : Nat} (hi : i < 32) (h0 : bt x i = false → post 0) (h1 : bt x i = true → post 1) : wpX_has post () x (nI i) := br_c (fun e => h0 ((cd_has hi).mp e)) (fun e => h1 ((cd_hasn hi).mp e))
theorem xw_key {post : Int32 → Prop} {r x : Int32} (h : post (cd_key r x)) : wpX_key post () r x := ⟨by decide, h⟩
theorem xw_nearL {post : Int32 → Prop} {m s r : Int32} (h : post (cd_obs m s r)) : ∀ d y, y + d = 16 → wX_nearestOnRing_16 post m s r (cd_key r s) (d + 1) (cd_nr m s r 17 y).1 (cd_nr m s r 17 y).2 (nI y) := by
  intro d
  induction d with
  | zero =>
    intro y hy
    have e : y = 16 := by omega
    subst e
    exact br_t (cd_at16 rfl) h
  | succ d ih =>
    intro y hy
    have ih := ih (y + 1) (by omega)
    refine br_f (cd_ge16 (by omega)) (xw_key ⟨by decide, nm_r (e' := cd_dst r s (nI y)) rfl ?_⟩)
    by_cases hs : nI y = s
    · have e : cd_nr m s r 17 (y + 1) = cd_nr m s r 17 y := if_neg (fun z => z.1 hs)
      rw [e] at ih
      exact br_t hs (nm_r (nI_1 y) ih)
    · refine br_f hs (xw_has (by omega) (fun hb => ?_) (fun hb => ?_))
      · have e : cd_nr m s r 17 (y + 1) = cd_nr m s r 17 y := if_neg (fun z => by rw [hb] at z; exact absurd z.2.1 (by decide))
        rw [e] at ih
        exact br_t rfl (nm_r (nI_1 y) ih)
      · refine br_f (by decide) ?_
        by_cases hd : (cd_nr m s r 17 y).2 ≤ cd_dst r s (nI y)
        · have e : cd_nr m s r 17 (y + 1) = cd_nr m s r 17 y := if_neg (fun z => Int32.not_lt.mpr hd z.2.2)
          rw [e] at ih
          exact br_t hd (nm_r (nI_1 y) ih)
        · have e : cd_nr m s r 17 (y + 1) = (nI y, cd_dst r s (nI y)) := if_pos ⟨hs, hb, Int32.not_le.mp hd⟩
          rw [e] at ih
          exact br_f hd (nm_r (nI_1 y) ih)
theorem xw_near {post : Int32 → Prop} {m s r : Int32} (h : post (cd_obs m s r)) : wpX_nearestOnRing post () m s r := by
  unfold wpX_nearestOnRing
  refine xw_key ⟨17, ?_⟩
  exact xw_nearL h 16 0 rfl
theorem xw_watL {post : Int32 → Prop} {o K : Nat} (ho : o < 16) (hK : K ≤ 6) {s : Int32} (h : post (cd_wat (a_members o) (nI o) s K)) : ∀ d r, r + d = K → wX_ringsWatched_5 post (nI o) s (nI K) f_high f_low a_crashed a_config a_members a_newestCut a_reports a_votes a_myVote a_promised a_acceptedRound a_acceptedValue a_ownRound a_phase a_promisers a_promiserRound a_promiserValue a_learnedRound a_learnedFrom a_learnedValue a_slots (d + 1) (cd_wat (a_members o) (nI o) s r) (nI r) := by
  intro d
  induction d with
  | zero =>
    intro r hr
    have e : r = K := by omega
    subst e
    exact br_t (nI_le (Nat.le_refl r) (by omega)) h
  | succ d ih =>
    intro r hr
    have ih := ih (r + 1) (by omega)
    refine br_f (nI_ge (by omega) (by omega)) ⟨cd_vi ho, xw_near ?_⟩
    rw [cd_cl ho]
    by_cases c : cd_obs (a_members o) s (nI r) = nI o
    · have e : cd_wat (a_members o) (nI o) s (r + 1) = cd_wat (a_members o) (nI o) s r ||| (1 <<< (nI r &&& 31)) := if_pos c
      rw [e] at ih
      exact br_t c (nm_e (nm_r (nI_1 r) ih))
    · have e : cd_wat (a_members o) (nI o) s (r + 1) = cd_wat (a_members o) (nI o) s r := if_neg c
      rw [e] at ih
      exact br_f c (nm_r (nI_1 r) ih)
theorem xw_wat {post : Int32 → Prop} {o K : Nat} (ho : o < 16) (hK : K ≤ 6) (hr : f_rings = nI K) {s : Int32} (h : post (cd_wat (a_members o) (nI o) s K)) : wpX_ringsWatched post (f_rings, f_high, f_low, a_crashed, a_config, a_members, a_newestCut, a_reports, a_votes, a_myVote, a_promised, a_acceptedRound, a_acceptedValue, a_ownRound, a_phase, a_promisers, a_promiserRound, a_promiserValue, a_learnedRound, a_learnedFrom, a_learnedValue, a_slots) (nI o) s := by
  subst hr
  exact ⟨K + 1, xw_watL ho hK h K 0 (by omega)⟩
theorem cd_v7 {j k : Nat} (hj : j < 32) (hk : k < 7) : vp_in (nI (j * 7 + k)) 224 := vp_in_nI (by omega) (by decide)
theorem cd_c7 {j k : Nat} (hj : j < 32) (hk : k < 7) : (nI (j * 7 + k)).toNatClampNeg = j * 7 + k := nI_clamp (by omega)
theorem cd_i76 (j : Nat) : nI j * 7 + 6 = nI (j * 7 + 6) := by rw [cd_i7, cd_a6]
theorem xw_freeL {post : Int32 → Prop} : ∀ d j, j + d = 32 → post (cd_oi (cd_fr a_slots d j)) → wX_lowestFreeSlot_2 post f_rings f_high f_low a_crashed a_config a_members a_newestCut a_reports a_votes a_myVote a_promised a_acceptedRound a_acceptedValue a_ownRound a_phase a_promisers a_promiserRound a_promiserValue a_learnedRound a_learnedFrom a_learnedValue a_slots (d + 1) (nI j) := by
  intro d
  induction d with
  | zero =>
    intro j hj h
    have e : j = 32 := by omega
    subst e
    exact br_t (by decide) h
  | succ d ih =>
    intro j hj h
    have ih := ih (j + 1) (by omega)
    refine br_f (nI_ge (b := 32) (by omega) (by decide)) ?_
    rw [cd_i76, cd_c7 (by omega) (by omega)]
    refine ⟨cd_v7 (by omega) (by omega), ?_⟩
    unfold cd_fr at h
    by_cases z : a_slots (j * 7 + 6) = 0
    · rw [if_pos z] at h
      exact br_t z h
    · rw [if_neg z] at h
      exact br_f z (nm_r (nI_1 j) (ih h))
theorem xw_free {post : Int32 → Prop} (h : post (cd_oi (cd_fr a_slots 32 0))) : wpX_lowestFreeSlot post (f_rings, f_high, f_low, a_crashed, a_config, a_members, a_newestCut, a_reports, a_votes, a_myVote, a_promised, a_acceptedRound, a_acceptedValue, a_ownRound, a_phase, a_promisers, a_promiserRound, a_promiserValue, a_learnedRound, a_learnedFrom, a_learnedValue, a_slots) := ⟨33, xw_freeL 32 0 rfl h⟩
theorem xw_send {post : St2 → Prop} {p : Nat} (hp : p < 16) {kind x y z d : Int32} (h : post (cx_send (f_rings, f_high, f_low, a_crashed, a_config, a_members, a_newestCut, a_reports, a_votes, a_myVote, a_promised, a_acceptedRound, a_acceptedValue, a_ownRound, a_phase, a_promisers, a_promiserRound, a_promiserValue, a_learnedRound, a_learnedFrom, a_learnedValue, a_slots) p kind x y z d)) : wpX_send post (f_rings, f_high, f_low, a_crashed, a_config, a_members, a_newestCut, a_reports, a_votes, a_myVote, a_promised, a_acceptedRound, a_acceptedValue, a_ownRound, a_phase, a_promisers, a_promiserRound, a_promiserValue, a_learnedRound, a_learnedFrom, a_learnedValue, a_slots) (nI p) kind x y z d := by
  unfold wpX_send
  refine xw_free ?_
  unfold cx_send cd_sd at h
  dsimp only at h
  by_cases hd : d &&& 65535 = 0
  · rw [if_pos hd] at h
    exact br_t hd h
  · rw [if_neg hd] at h
    refine br_f hd ?_
    cases e : cd_fr a_slots 32 0 with
    | none =>
      rw [e] at h
      exact br_t rfl h
    | some i =>
      rw [e] at h
      have hi := (cd_fr_in e).1
      refine br_f (cd_ne1 (by omega)) (nm_r (cd_i7 i) ?_)
      rw [cd_a0, cd_a1, cd_a2, cd_a3, cd_a4, cd_a5, cd_a6, cd_cl hp]
      rw [cd_c7 (k := 1) (by omega) (by omega), cd_c7 (k := 2) (by omega) (by omega), cd_c7 (k := 3) (by omega) (by omega), cd_c7 (k := 4) (by omega) (by omega), cd_c7 (k := 5) (by omega) (by omega), cd_c7 (k := 6) (by omega) (by omega), show (nI (i * 7)).toNatClampNeg = i * 7 from nI_clamp (by omega)]
      exact ⟨vp_in_nI (by omega) (by decide), nm_e ⟨cd_v7 (by omega) (by omega), nm_e ⟨cd_vi hp, cd_v7 (by omega) (by omega), nm_e ⟨cd_v7 (by omega) (by omega), nm_e ⟨cd_v7 (by omega) (by omega), nm_e ⟨cd_v7 (by omega) (by omega), nm_e ⟨cd_v7 (by omega) (by omega), nm_e h⟩⟩⟩⟩⟩⟩⟩
theorem xw_ctL {post : Int32 → Prop} {x : Int32} (h : post (cd_ct x)) : ∀ d i, i + d = 16 → wX_count_4 post x (d + 1) (nI (cd_cn x i)) (nI i) := by
  intro d
  induction d with
  | zero =>
    intro i hi
    have e : i = 16 := by omega
    subst e
    exact br_t (cd_at16 rfl) h
  | succ d ih =>
    intro i hi
    have ih := ih (i + 1) (by omega)
    refine br_f (cd_ge16 (by omega)) (nm_r (e' := nI (cd_cn x (i + 1))) ?_ (nm_r (nI_1 i) ih))
    rw [cd_cnS]
    cases hb : bt x i
    · rw [cd_has0 (by omega) hb, Int32.add_zero]
      rfl
    · rw [cd_has1 (by omega) hb, nI_1]
      rfl
theorem xw_ct {post : Int32 → Prop} {x : Int32} (h : post (cd_ct x)) : wpX_count post () x := ⟨17, xw_ctL h 16 0 rfl⟩
theorem xw_stt {post : Int32 → Prop} {p : Nat} (hp : p < 16) (h : post (cd_stt (a_crashed p) (a_members p) p)) : wpX_status post (f_rings, f_high, f_low, a_crashed, a_config, a_members, a_newestCut, a_reports, a_votes, a_myVote, a_promised, a_acceptedRound, a_acceptedValue, a_ownRound, a_phase, a_promisers, a_promiserRound, a_promiserValue, a_learnedRound, a_learnedFrom, a_learnedValue, a_slots) (nI p) := by
  unfold wpX_status
  refine xw_isP hp (br_f (by decide) ⟨cd_vi hp, ?_⟩)
  rw [cd_cl hp]
  unfold cd_stt at h
  by_cases c : a_crashed p = 0
  · rw [if_pos c] at h
    refine br_t c ⟨cd_vi hp, xw_has (by omega) (fun hb => ?_) (fun hb => ?_)⟩
    · rw [hb, if_neg (by decide)] at h
      exact br_t rfl h
    · rw [hb, if_pos rfl] at h
      exact br_f (by decide) h
  · rw [if_neg c] at h
    exact br_f c h
end CD4
