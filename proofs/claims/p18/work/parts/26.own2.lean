section PG6
theorem pg_cnt {g : pg_G} {c : Nat} : cd_ct (pg_M g c) = nI (pg_m g c) := by unfold cd_ct pg_m; rw [pg_cn_ct]
theorem pg_cq_le {g : pg_G} {c : Nat} {x : Int32} (h : cd_cq (cd_ct (pg_M g c)) ≤ cd_ct x) : pg_cq (pg_m g c) ≤ pg_ct (fun q => bt x q) 16 := by
  have hm16 := pg_m_le g c
  have hq := pg_qtab (pg_m g c) (by omega)
  rw [pg_cnt, hq.2.1] at h
  unfold cd_ct at h
  have h1 : cd_cn x 16 ≤ 16 := cd_cn_le x 16
  have h2 : pg_cq (pg_m g c) ≤ 64 := by unfold pg_cq; omega
  rw [nI_leI (by omega) (by omega), pg_cn_ct] at h
  exact h
theorem pg_sm_ct (a : Nat → Int32) (b : Nat) (x : Int32) : ∀ n, cd_sm a b x n = pg_ct (fun j => decide (a (b + j) = x)) n := by
  intro n
  induction n with
  | zero => rfl
  | succ n ih =>
    rw [cd_smS, pg_ctS, ih]
    by_cases c : a (b + n) = x
    · rw [if_pos c, if_pos (decide_eq_true c)]
    · rw [if_neg c, if_neg (fun z => c (of_decide_eq_true z))]
theorem pg_ct_le (S : Nat → Bool) : ∀ n, pg_ct S n ≤ n := by
  intro n
  induction n with
  | zero => exact Nat.le_refl 0
  | succ n ih =>
    rw [pg_ctS]
    split <;> omega
theorem pg_fq_le {g : pg_G} {c : Nat} {n : Nat} (hn : n ≤ 16) (h : cd_fq (cd_ct (pg_M g c)) ≤ nI n) : pg_fq (pg_m g c) ≤ n := by
  have hm16 := pg_m_le g c
  have hq := pg_qtab (pg_m g c) (by omega)
  rw [pg_cnt, hq.1] at h
  have h2 : pg_fq (pg_m g c) ≤ 64 := by unfold pg_fq; omega
  exact (nI_leI (by omega) (by omega)).mp h
section OWN2
variable {g : pg_G} {k p : Nat} {cfg mem cut mv pm ar av crn ph prs lr lf lv : Int32} {vt prr prv : Nat → Int32}
/-- enough votes for x, all noted -/
theorem po_fast (h : pg_p g k p cfg mem cut mv pm ar av crn ph prs lr lf lv vt prr prv) (hk : k ≤ 200) {x : Int32} {q c0 : Nat} (hq : q < 16) (hc0 : cfg = nI c0) (hc0k : c0 ≤ k) (hx : ¬ x = -1) (hqx : vt q = x) (hn : cd_fq (cd_ct mem) ≤ nI (pg_ct (fun j => decide (vt j = x)) 16)) : pg_dec g c0 x := by
  obtain ⟨c, rc, h1, h2, h3, h4, h5, h6, h7, h8, h9, h10, h11, h12, h13, h14, h15⟩ := h
  have e : c0 = c := (nI_eq (by omega) (by omega)).mp (hc0.symm.trans h1)
  subst e
  rw [h4] at hn
  have hn := pg_fq_le (pg_ct_le _ 16) hn
  refine ⟨hx, Or.inl ⟨Nat.le_trans hn (pg_ct_mono 16 (fun i hi e => ?_)), q, hq, ?_⟩⟩
  · have e := of_decide_eq_true e
    have := h10 i hi (by rw [e]; exact hx)
    exact decide_eq_true (by rw [← this]; exact e)
  · have := h10 q hq (by rw [hqx]; exact hx)
    rw [← this]; exact hqx
/-- a promise, recorded -/
theorem po_rec (h : pg_p g k p cfg mem cut mv pm ar av crn ph prs lr lf lv vt prr prv) (hk : k ≤ 200) {r c0 q : Nat} {y z : Int32} (hq : q < 16) (hrk : r ≤ 16 * k + 15) (hc0 : cfg = nI c0) (hc0k : c0 ≤ k) (hx : nI r = crn) (hok : pg_pok g c0 q r y z) {prs' : Int32} {prr' prv' : Nat → Int32}
    (hb : ∀ j, j < 16 → (bt prs' j = true → j = q ∨ bt prs j = true)) (hr' : ∀ j, j < 16 → prr' j = if j = q then y else prr j) (hv' : ∀ j, j < 16 → prv' j = if j = q then z else prv j) :
    pg_p g k p cfg mem cut mv pm ar av crn ph prs' lr lf lv vt prr' prv' := by
  obtain ⟨c, rc, h1, h2, h3, h4, h5, h6, h7, h8, h9, h10, h11, h12, h13, h14, h15⟩ := h
  have e : c0 = c := (nI_eq (by omega) (by omega)).mp (hc0.symm.trans h1)
  subst e
  have er : r = rc := (nI_eq (by omega) (by omega)).mp (hx.trans h11)
  subst er
  refine ⟨c0, r, h1, h2, h3, h4, h5, h6, h7, h8, h9, h10, h11, h12, ⟨h13.1, fun e => ?_⟩, h14, h15⟩
  obtain ⟨b1, b2, b3⟩ := h13.2 e
  refine ⟨b1, b2, fun j hj hbj => ?_⟩
  rw [hr' j hj, hv' j hj]
  by_cases ej : j = q
  · rw [if_pos ej, if_pos ej, ej]; exact hok
  · rw [if_neg ej, if_neg ej]
    rcases hb j hj hbj with a | a
    · exact absurd a ej
    · exact b3 j hj a
/-- the accept of a round -/
theorem po_prop (I : pg_I g) (hp : p < 16) (hk : k ≤ 200) (h : pg_p g k p cfg mem cut mv pm ar av crn 1 prs lr lf lv vt prr prv) {v : Int32} {c0 rc0 : Nat} (hc0 : cfg = nI c0) (hc0k : c0 ≤ k) (hrc : crn = nI rc0) (hrck : rc0 ≤ 16 * k + 15) (hs : pg_safe g c0 rc0 v) (hv : ∃ q, q < 16 ∧ pg_V g c0 q = v) (hv1 : ¬ v = -1) :
    ∃ g', pg_I g' ∧ pg_le g g' ∧ pg_own p g g' ∧ pg_e1 g g' ∧ pg_e2 g g' p cfg mv ∧ pg_p g' (k + 1) p cfg mem cut mv pm ar av crn 2 prs lr lf lv vt prr prv ∧ pg_ms g' (k + 1) 5 (nI p) cfg crn v 0 := by
  obtain ⟨c, rc, h1, h2, h3, h4, h5, h6, h7, h8, h9, h10, h11, h12, h13, h14, h15⟩ := h
  have e : c0 = c := (nI_eq (by omega) (by omega)).mp (hc0.symm.trans h1)
  subst e
  have er : rc0 = rc := (nI_eq (by omega) (by omega)).mp (hrc.symm.trans h11)
  subst er
  obtain ⟨b1, b2, b3⟩ := h13.2 rfl
  have hW : pg_W g c0 rc0 = -1 := by
    by_cases e : pg_W g c0 rc0 = -1
    · exact e
    · exact absurd rfl ((h13.1 rc0 b2 e).2 rfl)
  obtain ⟨I', L, O⟩ := pg_prop_ok I h3 hW b1 hs hv
  rw [b2] at O
  have eW : pg_W (pg_prop g c0 rc0 v) c0 rc0 = v := if_pos ⟨rfl, rfl⟩
  refine ⟨pg_prop g c0 rc0 v, I', L, O, pg_e1_rf I rfl rfl rfl, pg_e2_rf rfl (Or.inl rfl), ⟨c0, rc0, h1, by omega, h3, h4, h5, h6, h7, ?_, ?_, h10, h11, by omega, ⟨fun r e w => ⟨?_, fun z => absurd z (by decide)⟩, fun z => absurd z (by decide)⟩, pg_lrn_up L (Nat.le_succ k) h14, pg_new_up h15 (fun c' hc' => ⟨rfl, rfl, fun _ => rfl, fun _ => if_neg (by omega)⟩)⟩, ⟨p, c0, hp, rfl, h1, by omega, h3, Or.inr (Or.inr (Or.inr (Or.inr (Or.inl ⟨rfl, rc0, b1, by omega, hrc, eW.symm, by rw [eW]; exact hv1⟩))))⟩⟩
  · show pg_P g c0 p ≤ 16 * (k + 1) + 15
    omega
  · rcases h9 with a | a | ⟨r1, e, a1, a2, a3, a4, al⟩
    · exact Or.inl a
    · exact Or.inr (Or.inl a)
    · exact Or.inr (Or.inr ⟨r1, e, a1, a2, by rw [L.2.2.2.2.2 c0 r1 a4]; exact a3, by rw [L.2.2.2.2.2 c0 r1 a4]; exact a4, al⟩)
  · by_cases er : r = rc0
    · omega
    · have : pg_W (pg_prop g c0 rc0 v) c0 r = pg_W g c0 r := if_neg (fun z => er z.2)
      rw [this] at w
      exact (h13.1 r e w).1
theorem po_idle (hp : p < 16) (I : pg_I g) (h : pg_p g k p cfg mem cut mv pm ar av crn 1 prs lr lf lv vt prr prv) : pg_p g (k + 1) p cfg mem cut mv pm ar av crn 0 prs lr lf lv vt prr prv := by
  obtain ⟨c, rc, h1, h2, h3, h4, h5, h6, h7, h8, h9, h10, h11, h12, h13, h14, h15⟩ := h
  exact ⟨c, rc, h1, by omega, h3, h4, h5, h6, h7, by omega, h9, h10, h11, by omega, ⟨fun r e w => ⟨(h13.1 r e w).1, fun z => absurd z (by decide)⟩, fun z => absurd z (by decide)⟩, pg_lrn_up (pg_le_rf g) (Nat.le_succ k) h14, h15⟩
/-- the choice, whatever it is -/
theorem po_choose (I : pg_I g) (hp : p < 16) (hk : k ≤ 200) {pr pv : Nat → Int32} {b : Nat} (h : pg_p g k p cfg mem cut mv pm ar av crn 1 prs lr lf lv vt (fun q => pr (b + q)) (fun q => pv (b + q))) (hn : cd_ct prs = cd_cq (cd_ct mem)) :
    (∀ q0, cd_ch prs mem pr pv b = some q0 → ∃ g', pg_I g' ∧ pg_le g g' ∧ pg_own p g g' ∧ pg_e1 g g' ∧ pg_e2 g g' p cfg mv ∧ pg_p g' (k + 1) p cfg mem cut mv pm ar av crn 2 prs lr lf lv vt (fun q => pr (b + q)) (fun q => pv (b + q)) ∧ pg_ms g' (k + 1) 5 (nI p) cfg crn (pv (b + q0)) 0) ∧
    (cd_ch prs mem pr pv b = none → ¬ mv = -1 → ∃ g', pg_I g' ∧ pg_le g g' ∧ pg_own p g g' ∧ pg_e1 g g' ∧ pg_e2 g g' p cfg mv ∧ pg_p g' (k + 1) p cfg mem cut mv pm ar av crn 2 prs lr lf lv vt (fun q => pr (b + q)) (fun q => pv (b + q)) ∧ pg_ms g' (k + 1) 5 (nI p) cfg crn mv 0) := by
  have h0 := h
  obtain ⟨c, rc, h1, h2, h3, h4, h5, h6, h7, h8, h9, h10, h11, h12, h13, h14, h15⟩ := h
  obtain ⟨b1, b2, b3⟩ := h13.2 rfl
  rw [h4] at hn
  obtain ⟨C1, C2⟩ := pg_choose (b := b) (pr := pr) (pv := pv) b1 (by omega) b3 hn
  rw [← h4] at C1 C2
  refine ⟨fun q0 e => ?_, fun e hmv => ?_⟩
  · obtain ⟨a1, a2, a3, a4⟩ := C1 q0 e
    have hv : ∃ q, q < 16 ∧ pg_V g c q = pv (b + q0) := by
      rcases a4 with ⟨r1, e1, e2⟩ | ⟨e1, e2⟩
      · obtain ⟨_, _, q, hq, eq⟩ := I.2.2.1 c r1 e2
        exact ⟨q, hq, eq.trans e1.symm⟩
      · exact ⟨q0, a1, e1.symm⟩
    have hv1 : ¬ pv (b + q0) = -1 := by
      rcases a4 with ⟨r1, e1, e2⟩ | ⟨e1, e2⟩
      · rw [e1]; exact e2
      · rw [e1]; exact e2
    exact po_prop I hp hk h0 h1 h2 h11 h12 a3 hv hv1
  · exact po_prop I hp hk h0 h1 h2 h11 h12 (C2 e mv) ⟨p, hp, h6.symm⟩ hmv
/-- an accepted of q, learned -/
theorem po_lrn (h : pg_p g k p cfg mem cut mv pm ar av crn ph prs lr lf lv vt prr prv) (hk : k ≤ 200) {r c0 q : Nat} {y : Int32} (hq : q < 16) (hr : 16 ≤ r) (hrk : r ≤ 16 * k + 15) (hc0 : cfg = nI c0) (hc0k : c0 ≤ k) (hy : y = pg_W g c0 r) (hw : ¬ pg_W g c0 r = -1) (hA : pg_A g c0 q r = true) {lr' lf' lv' : Int32}
    (hc : (lr = nI r ∧ lr' = lr ∧ lv' = lv ∧ ∀ j, j < 16 → bt lf' j = true → j = q ∨ bt lf j = true) ∨ (lr' = nI r ∧ lv' = y ∧ ∀ j, j < 16 → bt lf' j = true → j = q)) :
    pg_p g k p cfg mem cut mv pm ar av crn ph prs lr' lf' lv' vt prr prv ∧ (cd_cq (cd_ct mem) ≤ cd_ct lf' → pg_dec g c0 lv') := by
  obtain ⟨c, rc, h1, h2, h3, h4, h5, h6, h7, h8, h9, h10, h11, h12, h13, h14, h15⟩ := h
  have e : c0 = c := (nI_eq (by omega) (by omega)).mp (hc0.symm.trans h1)
  subst e
  have key : lr' = nI r ∧ lv' = pg_W g c0 r ∧ ∀ j, j < 16 → bt lf' j = true → pg_A g c0 j r = true := by
    rcases hc with ⟨a1, a2, a3, a4⟩ | ⟨a1, a2, a3⟩
    · obtain ⟨rl, b1, b2, b3⟩ := h14
      have e : r = rl := (nI_eq (by omega) (by omega)).mp (a1.symm.trans b2)
      subst e
      rcases b3 with ⟨b, _⟩ | ⟨b4, b5, b6⟩
      · omega
      · refine ⟨a2.trans a1, a3.trans b4, fun j hj hb => ?_⟩
        rcases a4 j hj hb with e | e
        · rw [e]; exact hA
        · exact b6 j hj e
    · exact ⟨a1, a2.trans hy, fun j hj hb => by rw [a3 j hj hb]; exact hA⟩
  obtain ⟨k1, k2, k3⟩ := key
  refine ⟨⟨c0, rc, h1, h2, h3, h4, h5, h6, h7, h8, h9, h10, h11, h12, h13, ⟨r, hrk, k1, Or.inr ⟨k2, hw, k3⟩⟩, h15⟩, fun hn => ?_⟩
  rw [h4] at hn
  refine ⟨by rw [k2]; exact hw, Or.inr ⟨r, k2.symm, Nat.le_trans (pg_cq_le hn) (pg_ct_mono 16 (fun i hi e => k3 i hi e))⟩⟩
end OWN2
end PG6
