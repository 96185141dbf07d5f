section CD8
variable {f_kk f_hh f_ll : Int32} {a_crashed a_cfg a_mem a_lastCut a_myVote a_promised a_accRnd a_accVal a_crnd a_phase a_prom a_lrnd a_lset a_lval a_rep a_vote a_pr a_pv a_sm : Nat → Int32}
theorem cy_eta {post : SY → Prop} {u : SY} (h : post u) : (match u with | (f_kk, f_hh, f_ll, a_crashed, a_cfg, a_mem, a_lastCut, a_myVote, a_promised, a_accRnd, a_accVal, a_crnd, a_phase, a_prom, a_lrnd, a_lset, a_lval, a_rep, a_vote, a_pr, a_pv, a_sm) => post (f_kk, f_hh, f_ll, a_crashed, a_cfg, a_mem, a_lastCut, a_myVote, a_promised, a_accRnd, a_accVal, a_crnd, a_phase, a_prom, a_lrnd, a_lset, a_lval, a_rep, a_vote, a_pr, a_pv, a_sm)) := h
theorem yw_has {post : Int32 → Prop} {x : Int32} {i : Nat} (hi : i < 32) (h0 : bt x i = false → post 0) (h1 : bt x i = true → post 1) : wpY_has post (f_kk, f_hh, f_ll, a_crashed, a_cfg, a_mem, a_lastCut, a_myVote, a_promised, a_accRnd, a_accVal, a_crnd, a_phase, a_prom, a_lrnd, a_lset, a_lval, a_rep, a_vote, a_pr, a_pv, a_sm) x (nI i) := br_c (fun e => h0 ((cd_has hi).mp e)) (fun e => h1 ((cd_hasn hi).mp e))
theorem yw_key {post : Int32 → Prop} {r x : Int32} (h : post (cd_key r x)) : wpY_key post (f_kk, f_hh, f_ll, a_crashed, a_cfg, a_mem, a_lastCut, a_myVote, a_promised, a_accRnd, a_accVal, a_crnd, a_phase, a_prom, a_lrnd, a_lset, a_lval, a_rep, a_vote, a_pr, a_pv, a_sm) r x := ⟨by decide, h⟩
theorem yw_obsL {post : Int32 → Prop} {m s r : Int32} (h : post (cd_nr m s r 99 16).1) : ∀ d y, y + d = 16 → wY_obs_10 post m s r f_kk f_hh f_ll a_crashed a_cfg a_mem a_lastCut a_myVote a_promised a_accRnd a_accVal a_crnd a_phase a_prom a_lrnd a_lset a_lval a_rep a_vote a_pr a_pv a_sm (d + 1) (cd_nr m s r 99 y).1 (cd_nr m s r 99 y).2 (nI y) := by
  intro d
  induction d with
  | zero =>
    intro y hy
    have e : y = 16 := by omega
    subst e
    exact br_t (cd_at16 rfl) h
  | succ d ih =>
    intro y hy
    have ih := ih (y + 1) (by omega)
    refine br_f (cd_ge16 (by omega)) (yw_has (by omega) (fun hb => ?_) (fun hb => ?_))
    · have e : cd_nr m s r 99 (y + 1) = cd_nr m s r 99 y := if_neg (fun z => by rw [hb] at z; exact absurd z.2.1 (by decide))
      rw [e] at ih
      exact br_t rfl (nm_r (nI_1 y) ih)
    · refine br_f (by decide) ?_
      by_cases hs : nI y = s
      · have e : cd_nr m s r 99 (y + 1) = cd_nr m s r 99 y := if_neg (fun z => z.1 hs)
        rw [e] at ih
        exact br_t hs (nm_r (nI_1 y) ih)
      · refine br_f hs (yw_key (yw_key ⟨by decide, nm_r (e' := cd_dst r s (nI y)) rfl ?_⟩))
        by_cases hd : (cd_nr m s r 99 y).2 ≤ cd_dst r s (nI y)
        · have e : cd_nr m s r 99 (y + 1) = cd_nr m s r 99 y := if_neg (fun z => Int32.not_lt.mpr hd z.2.2)
          rw [e] at ih
          exact br_t hd (nm_r (nI_1 y) ih)
        · have e : cd_nr m s r 99 (y + 1) = (nI y, cd_dst r s (nI y)) := if_pos ⟨hs, hb, Int32.not_le.mp hd⟩
          rw [e] at ih
          exact br_f hd (nm_r (nI_1 y) ih)
theorem yw_obs {post : Int32 → Prop} {m s r : Int32} (h : post (cd_obs m s r)) : wpY_obs post (f_kk, f_hh, f_ll, a_crashed, a_cfg, a_mem, a_lastCut, a_myVote, a_promised, a_accRnd, a_accVal, a_crnd, a_phase, a_prom, a_lrnd, a_lset, a_lval, a_rep, a_vote, a_pr, a_pv, a_sm) m s r := by
  rw [← cd_nr_obs] at h
  exact ⟨17, yw_obsL h 16 0 rfl⟩
theorem yw_freeL {post : Int32 → Prop} : ∀ d j, j + d = 32 → post (cd_oi (cd_fr a_sm d j)) → wY_freeSlot_2 post f_kk f_hh f_ll a_crashed a_cfg a_mem a_lastCut a_myVote a_promised a_accRnd a_accVal a_crnd a_phase a_prom a_lrnd a_lset a_lval a_rep a_vote a_pr a_pv a_sm (d + 1) (nI j) := by
  intro d
  induction d with
  | zero =>
    intro j hj h
    have e : j = 32 := by omega
    subst e
    exact br_t (by decide) h
  | succ d ih =>
    intro j hj h
    have ih := ih (j + 1) (by omega)
    refine br_f (nI_ge (b := 32) (by omega) (by decide)) ?_
    rw [cd_i76, cd_c7 (by omega) (by omega)]
    refine ⟨cd_v7 (by omega) (by omega), ?_⟩
    unfold cd_fr at h
    by_cases z : a_sm (j * 7 + 6) = 0
    · rw [if_pos z] at h
      exact br_t z h
    · rw [if_neg z] at h
      exact br_f z (nm_r (nI_1 j) (ih h))
theorem yw_free {post : Int32 → Prop} (h : post (cd_oi (cd_fr a_sm 32 0))) : wpY_freeSlot post (f_kk, f_hh, f_ll, a_crashed, a_cfg, a_mem, a_lastCut, a_myVote, a_promised, a_accRnd, a_accVal, a_crnd, a_phase, a_prom, a_lrnd, a_lset, a_lval, a_rep, a_vote, a_pr, a_pv, a_sm) := ⟨33, yw_freeL 32 0 rfl h⟩
theorem yw_send {post : SY → Prop} {p : Nat} (hp : p < 16) {kind x y z d : Int32} (h : post (f_kk, f_hh, f_ll, a_crashed, a_cfg, a_mem, a_lastCut, a_myVote, a_promised, a_accRnd, a_accVal, a_crnd, a_phase, a_prom, a_lrnd, a_lset, a_lval, a_rep, a_vote, a_pr, a_pv, cd_sd a_sm (nI p) (a_cfg p) kind x y z d)) : wpY_send post (f_kk, f_hh, f_ll, a_crashed, a_cfg, a_mem, a_lastCut, a_myVote, a_promised, a_accRnd, a_accVal, a_crnd, a_phase, a_prom, a_lrnd, a_lset, a_lval, a_rep, a_vote, a_pr, a_pv, a_sm) (nI p) kind x y z d := by
  unfold wpY_send
  unfold cd_sd at h
  refine nm_e ?_
  by_cases hd : d &&& 65535 = 0
  · rw [if_pos hd] at h
    exact br_t hd h
  · rw [if_neg hd] at h
    refine br_f hd (yw_free ?_)
    cases e : cd_fr a_sm 32 0 with
    | none =>
      rw [e] at h
      exact br_f (by decide) h
    | some i =>
      rw [e] at h
      have hi := (cd_fr_in e).1
      refine br_t (nI_pos' (by omega)) (nm_r (cd_i7 i) ?_)
      rw [cd_a1, cd_a2, cd_a3, cd_a4, cd_a5, cd_a6, cd_cl hp]
      rw [cd_c7 (k := 1) (by omega) (by omega), cd_c7 (k := 2) (by omega) (by omega), cd_c7 (k := 3) (by omega) (by omega), cd_c7 (k := 4) (by omega) (by omega), cd_c7 (k := 5) (by omega) (by omega), cd_c7 (k := 6) (by omega) (by omega), show (nI (i * 7)).toNatClampNeg = i * 7 from nI_clamp (by omega)]
      exact ⟨vp_in_nI (by omega) (by decide), nm_e ⟨cd_v7 (by omega) (by omega), nm_e ⟨cd_vi hp, cd_v7 (by omega) (by omega), nm_e ⟨cd_v7 (by omega) (by omega), nm_e ⟨cd_v7 (by omega) (by omega), nm_e ⟨cd_v7 (by omega) (by omega), nm_e ⟨cd_v7 (by omega) (by omega), nm_e h⟩⟩⟩⟩⟩⟩⟩
theorem yw_ctL {post : Int32 → Prop} {x : Int32} (h : post (cd_ct x)) : ∀ d i, i + d = 16 → wY_count_4 post x f_kk f_hh f_ll a_crashed a_cfg a_mem a_lastCut a_myVote a_promised a_accRnd a_accVal a_crnd a_phase a_prom a_lrnd a_lset a_lval a_rep a_vote a_pr a_pv a_sm (d + 1) (nI (cd_cn x i)) (nI i) := by
  intro d
  induction d with
  | zero =>
    intro i hi
    have e : i = 16 := by omega
    subst e
    exact br_t (cd_at16 rfl) h
  | succ d ih =>
    intro i hi
    have ih := ih (i + 1) (by omega)
    refine br_f (cd_ge16 (by omega)) (br_c (fun z => ?_) (fun z => ?_))
    · have e : cd_cn x (i + 1) = cd_cn x i := by
        show cd_cn x i + (if bt x i = true then 1 else 0) = cd_cn x i
        rw [(cd_has (by omega)).mp z]
        rfl
      rw [e] at ih
      exact nm_r (nI_1 i) ih
    · have e : cd_cn x (i + 1) = cd_cn x i + 1 := by
        show cd_cn x i + (if bt x i = true then 1 else 0) = cd_cn x i + 1
        rw [(cd_hasn (by omega)).mp z]
        rfl
      rw [e] at ih
      exact nm_r (nI_1 _) (nm_r (nI_1 i) ih)
theorem yw_ct {post : Int32 → Prop} {x : Int32} (h : post (cd_ct x)) : wpY_count post (f_kk, f_hh, f_ll, a_crashed, a_cfg, a_mem, a_lastCut, a_myVote, a_promised, a_accRnd, a_accVal, a_crnd, a_phase, a_prom, a_lrnd, a_lset, a_lval, a_rep, a_vote, a_pr, a_pv, a_sm) x := ⟨17, yw_ctL h 16 0 rfl⟩
theorem yw_stt {post : Int32 → Prop} {p : Nat} (hp : p < 16) (h : post (cd_stt (a_crashed p) (a_mem p) p)) : wpY_stat post (f_kk, f_hh, f_ll, a_crashed, a_cfg, a_mem, a_lastCut, a_myVote, a_promised, a_accRnd, a_accVal, a_crnd, a_phase, a_prom, a_lrnd, a_lset, a_lval, a_rep, a_vote, a_pr, a_pv, a_sm) (nI p) := by
  unfold wpY_stat
  dsimp only
  rw [cd_cl hp]
  refine ⟨cd_vi hp, ?_⟩
  unfold cd_stt at h
  by_cases c : a_crashed p = 0
  · rw [if_pos c] at h
    refine br_t c ⟨cd_vi hp, yw_has (by omega) (fun hb => ?_) (fun hb => ?_)⟩
    · rw [hb, if_neg (by decide)] at h
      exact br_t rfl h
    · rw [hb, if_pos rfl] at h
      exact br_f (by decide) h
  · rw [if_neg c] at h
    exact br_f c h
theorem yw_resetL {post : SY → Prop} {p : Nat} (hp : p < 16) (h : post (f_kk, f_hh, f_ll, a_crashed, a_cfg, a_mem, a_lastCut, upd a_myVote p (-1), upd a_promised p 0, upd a_accRnd p (-1), upd a_accVal p 0, upd a_crnd p 0, upd a_phase p 0, upd a_prom p 0, upd a_lrnd p 0, upd a_lset p 0, upd a_lval p 0, cd_fill a_rep (p * 16) 0 16, cd_fill a_vote (p * 16) (-1) 16, cd_fill a_pr (p * 16) 0 16, cd_fill a_pv (p * 16) 0 16, a_sm)) :
    ∀ d q, q + d = 16 → wY_reset_2 post (nI p) f_kk f_hh f_ll (d + 1) (nI q) a_crashed a_cfg a_mem a_lastCut a_myVote a_promised a_accRnd a_accVal a_crnd a_phase a_prom a_lrnd a_lset a_lval (cd_fill a_rep (p * 16) 0 q) (cd_fill a_vote (p * 16) (-1) q) (cd_fill a_pr (p * 16) 0 q) (cd_fill a_pv (p * 16) 0 q) a_sm := by
  intro d
  induction d with
  | zero =>
    intro q hq
    have e : q = 16 := by omega
    subst e
    refine br_t (cd_at16 rfl) ?_
    rw [cd_cl hp]
    exact ⟨cd_vi hp, nm_e ⟨cd_vi hp, nm_e ⟨cd_vi hp, nm_e ⟨cd_vi hp, nm_e ⟨cd_vi hp, nm_e ⟨cd_vi hp, nm_e ⟨cd_vi hp, nm_e ⟨cd_vi hp, nm_e ⟨cd_vi hp, nm_e ⟨cd_vi hp, nm_e h⟩⟩⟩⟩⟩⟩⟩⟩⟩⟩
  | succ d ih =>
    intro q hq
    have ih := ih (q + 1) (by omega)
    refine br_f (cd_ge16 (by omega)) ?_
    rw [cd_cl16 hp (by omega)]
    have v := cd_vi16 hp (show q < 16 by omega)
    exact ⟨v, nm_r cd_fillS ⟨v, nm_r cd_fillS ⟨v, nm_r cd_fillS ⟨v, nm_r cd_fillS (nm_r (nI_1 q) ih)⟩⟩⟩⟩
theorem yw_reset {post : SY → Prop} {p : Nat} (hp : p < 16) (h : post (f_kk, f_hh, f_ll, a_crashed, a_cfg, a_mem, a_lastCut, upd a_myVote p (-1), upd a_promised p 0, upd a_accRnd p (-1), upd a_accVal p 0, upd a_crnd p 0, upd a_phase p 0, upd a_prom p 0, upd a_lrnd p 0, upd a_lset p 0, upd a_lval p 0, cd_fill a_rep (p * 16) 0 16, cd_fill a_vote (p * 16) (-1) 16, cd_fill a_pr (p * 16) 0 16, cd_fill a_pv (p * 16) 0 16, a_sm)) : wpY_reset post (f_kk, f_hh, f_ll, a_crashed, a_cfg, a_mem, a_lastCut, a_myVote, a_promised, a_accRnd, a_accVal, a_crnd, a_phase, a_prom, a_lrnd, a_lset, a_lval, a_rep, a_vote, a_pr, a_pv, a_sm) (nI p) := by
  have L := yw_resetL (f_kk := f_kk) (f_hh := f_hh) (f_ll := f_ll) hp h 16 0 rfl
  rw [cd_fill0, cd_fill0, cd_fill0, cd_fill0] at L
  exact ⟨17, L⟩
end CD8
