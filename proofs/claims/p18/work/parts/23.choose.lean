section PG3
/-! what a promise tells of its sender's history -/
def pg_pok (g : pg_G) (c q r : Nat) (y z : Int32) : Prop := bt (pg_M g c) q = true ∧ r ≤ pg_P g c q ∧
  ((y = -1 ∧ pg_V g c q = -1 ∧ ∀ r', r' < r → pg_A g c q r' = false) ∨
   (y = 0 ∧ z = pg_V g c q ∧ ¬ pg_V g c q = -1 ∧ ∀ r', r' < r → pg_A g c q r' = false) ∨
   (∃ r1, y = nI r1 ∧ 16 ≤ r1 ∧ r1 < r ∧ z = pg_W g c r1 ∧ ¬ pg_W g c r1 = -1 ∧ ∀ r', r1 < r' → r' < r → pg_A g c q r' = false))
theorem pg_pok_up {g g' : pg_G} (L : pg_le g g') {c q r : Nat} {y z : Int32} (hc : c ≤ pg_K g) (hq : q < 16) (hr : 16 ≤ r) (h : pg_pok g c q r y z) : pg_pok g' c q r y z := by
  obtain ⟨hm, hP, h⟩ := h
  refine ⟨by rw [(L.2.1 c hc).1]; exact hm, Nat.le_trans hP (L.2.2.2.1 c q hq), ?_⟩
  rcases h with ⟨e, hV, hA⟩ | ⟨e, ez, hV, hA⟩ | ⟨r1, e, h16, h1, ez, hW, hA⟩
  · exact Or.inl ⟨e, by rw [pg_le_VP L hq (by omega)]; exact hV, fun r' a => pg_le_A L hq (hA r' a) (by omega)⟩
  · exact Or.inr (Or.inl ⟨e, by rw [pg_le_V L hq hV]; exact ez, by rw [pg_le_V L hq hV]; exact hV, fun r' a => pg_le_A L hq (hA r' a) (by omega)⟩)
  · exact Or.inr (Or.inr ⟨r1, e, h16, h1, by rw [L.2.2.2.2.2 c r1 hW]; exact ez, by rw [L.2.2.2.2.2 c r1 hW]; exact hW, fun r' a b => pg_le_A L hq (hA r' a b) (by omega)⟩)
theorem pg_nc_none {pm : Int32} {pr : Nat → Int32} {b : Nat} : ∀ n, (cd_nc pm pr b n).1 = none → (cd_nc pm pr b n).2 = 15 ∧ ∀ q, q < n → bt pm q = true → ¬ (15 : Int32) < pr (b + q) := by
  intro n
  induction n with
  | zero => intro _; exact ⟨rfl, fun q hq => absurd hq (Nat.not_lt_zero q)⟩
  | succ n ih =>
    intro h
    unfold cd_nc at h ⊢
    by_cases c : bt pm n = true ∧ (cd_nc pm pr b n).2 < pr (b + n)
    · rw [if_pos c] at h
      exact absurd h (by simp)
    · rw [if_neg c] at h ⊢
      obtain ⟨h1, h2⟩ := ih h
      refine ⟨h1, fun q hq hb => ?_⟩
      by_cases e : q = n
      · subst e
        rw [h1] at c
        exact fun z => c ⟨hb, z⟩
      · exact h2 q (by omega) hb
theorem pg_nc_some {pm : Int32} {pr : Nat → Int32} {b : Nat} : ∀ n q0, (cd_nc pm pr b n).1 = some q0 → q0 < n ∧ bt pm q0 = true ∧ (cd_nc pm pr b n).2 = pr (b + q0) ∧ (15 : Int32) < pr (b + q0) ∧ ∀ q, q < n → bt pm q = true → ¬ pr (b + q0) < pr (b + q) := by
  intro n
  induction n with
  | zero => intro q0 h; exact absurd h (by unfold cd_nc; simp)
  | succ n ih =>
    intro q0 h
    unfold cd_nc at h ⊢
    by_cases c : bt pm n = true ∧ (cd_nc pm pr b n).2 < pr (b + n)
    · rw [if_pos c] at h ⊢
      cases h
      refine ⟨by omega, c.1, rfl, ?_, fun q hq hb => ?_⟩
      · cases e : (cd_nc pm pr b n).1 with
        | none =>
          have := (pg_nc_none n e).1
          rw [this] at c
          exact c.2
        | some q1 =>
          have h1 := ih q1 e
          rw [h1.2.2.1] at c
          exact Int32.lt_trans h1.2.2.2.1 c.2
      · by_cases e : q = n
        · subst e; exact Int32.lt_irrefl
        · cases e1 : (cd_nc pm pr b n).1 with
          | none =>
            have h1 := pg_nc_none n e1
            rw [h1.1] at c
            intro z
            exact h1.2 q (by omega) hb (Int32.lt_trans c.2 z)
          | some q1 =>
            have h1 := ih q1 e1
            rw [h1.2.2.1] at c
            intro z
            exact h1.2.2.2.2 q (by omega) hb (Int32.lt_trans c.2 z)
    · rw [if_neg c] at h ⊢
      obtain ⟨h0, h1, h2, h3, h4⟩ := ih q0 h
      refine ⟨by omega, h1, h2, h3, fun q hq hb => ?_⟩
      by_cases e : q = n
      · subst e
        rw [h2] at c
        exact fun z => c ⟨hb, z⟩
      · exact h4 q (by omega) hb
theorem pg_fp_bt {pm : Int32} {pr : Nat → Int32} {b : Nat} : ∀ n, n ≤ 32 → ∀ q, q < 32 → (bt (cd_fp pm pr b n) q = true ↔ q < n ∧ bt pm q = true ∧ pr (b + q) = 0) := by
  intro n
  induction n with
  | zero =>
    intro _ q _
    unfold cd_fp
    rw [b_0]
    exact ⟨fun z => absurd z (by decide), fun z => absurd z.1 (Nat.not_lt_zero q)⟩
  | succ n ih =>
    intro hn q hq
    have ih := ih (by omega) q hq
    unfold cd_fp
    by_cases c : bt pm n = true ∧ pr (b + n) = 0
    · rw [if_pos c, b_or, cd_shl1 n (by omega) hq, Bool.or_eq_true_iff, ih, decide_eq_true_iff]
      constructor
      · rintro (a | a)
        · exact ⟨by omega, a.2⟩
        · subst a; exact ⟨by omega, c⟩
      · intro a
        by_cases e : q = n
        · exact Or.inr e
        · exact Or.inl ⟨by omega, a.2⟩
    · rw [if_neg c, ih]
      constructor
      · intro a; exact ⟨by omega, a.2⟩
      · intro a
        by_cases e : q = n
        · subst e; exact absurd a.2 c
        · exact ⟨by omega, a.2⟩
theorem pg_sv_ct {vs : Int32} {pv : Nat → Int32} {b : Nat} {w : Int32} : ∀ n, cd_sv vs pv b w n = pg_ct (fun q => bt vs q && decide (pv (b + q) = w)) n := by
  intro n
  induction n with
  | zero => rfl
  | succ n ih =>
    unfold cd_sv
    rw [pg_ctS, ih]
    congr 1
    by_cases c : bt vs n = true ∧ pv (b + n) = w
    · rw [if_pos c, if_pos (Bool.and_eq_true_iff.mpr ⟨c.1, decide_eq_true c.2⟩)]
    · rw [if_neg c, if_neg (fun z => c ⟨(Bool.and_eq_true_iff.mp z).1, of_decide_eq_true (Bool.and_eq_true_iff.mp z).2⟩)]
theorem pg_pd_some {vs en : Int32} {pv : Nat → Int32} {b : Nat} : ∀ d j q0, cd_pd vs pv b en d j = some q0 → q0 < j + d ∧ bt vs q0 = true ∧ en ≤ nI (cd_sv vs pv b (pv (b + q0)) 16) := by
  intro d
  induction d with
  | zero => intro j q0 h; exact absurd h (by unfold cd_pd; simp)
  | succ d ih =>
    intro j q0 h
    unfold cd_pd at h
    by_cases c : bt vs j = true ∧ en ≤ nI (cd_sv vs pv b (pv (b + j)) 16)
    · rw [if_pos c] at h
      cases h
      exact ⟨by omega, c⟩
    · rw [if_neg c] at h
      have := ih (j + 1) q0 h
      exact ⟨by omega, this.2⟩
theorem pg_pd_none {vs en : Int32} {pv : Nat → Int32} {b : Nat} : ∀ d j, cd_pd vs pv b en d j = none → ∀ q, j ≤ q → q < j + d → bt vs q = true → ¬ en ≤ nI (cd_sv vs pv b (pv (b + q)) 16) := by
  intro d
  induction d with
  | zero => intro j _ q h1 h2; omega
  | succ d ih =>
    intro j h q h1 h2 hb
    unfold cd_pd at h
    by_cases c : bt vs j = true ∧ en ≤ nI (cd_sv vs pv b (pv (b + j)) 16)
    · rw [if_pos c] at h
      exact absurd h (by simp)
    · rw [if_neg c] at h
      by_cases e : q = j
      · subst e; exact fun z => c ⟨hb, z⟩
      · exact ih (j + 1) h q (by omega) (by omega) hb
theorem pg_lo_some {vs : Int32} : ∀ d j q0, cd_lo vs d j = some q0 → q0 < j + d ∧ bt vs q0 = true := by
  intro d
  induction d with
  | zero => intro j q0 h; exact absurd h (by unfold cd_lo; simp)
  | succ d ih =>
    intro j q0 h
    unfold cd_lo at h
    by_cases c : bt vs j = true
    · rw [if_pos c] at h
      cases h
      exact ⟨by omega, c⟩
    · rw [if_neg c] at h
      have := ih (j + 1) q0 h
      exact ⟨by omega, this.2⟩
theorem pg_lo_none {vs : Int32} : ∀ d j, cd_lo vs d j = none → ∀ q, j ≤ q → q < j + d → bt vs q = false := by
  intro d
  induction d with
  | zero => intro j _ q h1 h2; omega
  | succ d ih =>
    intro j h q h1 h2
    unfold cd_lo at h
    by_cases c : bt vs j = true
    · rw [if_pos c] at h
      exact absurd h (by simp)
    · rw [if_neg c] at h
      by_cases e : q = j
      · subst e; exact cd_bn c
      · exact ih (j + 1) h q (by omega) (by omega)
theorem pg_cn_ct (x : Int32) : ∀ n, cd_cn x n = pg_ct (fun q => bt x q) n := by
  intro n
  induction n with
  | zero => rfl
  | succ n ih => unfold cd_cn; rw [pg_ctS, ih]
theorem pg_qtab : ∀ m, m < 17 → cd_fq (nI m) = nI (pg_fq m) ∧ cd_cq (nI m) = nI (pg_cq m) ∧ cd_en (nI m) = nI (pg_fq m + pg_cq m - m) := by decide +kernel
theorem pg_m_le (g : pg_G) (c : Nat) : pg_m g c ≤ 16 := by
  unfold pg_m
  rw [← pg_cn_ct]
  exact cd_cn_le _ 16
/-! the chosen value is safe -/
theorem pg_choose {g : pg_G} {c r b : Nat} {prs : Int32} {pr pv : Nat → Int32} (hr : 16 ≤ r) (hr2 : r < 2 ^ 31) (hok : ∀ q, q < 16 → bt prs q = true → pg_pok g c q r (pr (b + q)) (pv (b + q))) (hn : cd_ct prs = cd_cq (cd_ct (pg_M g c))) :
    (∀ q0, cd_ch prs (pg_M g c) pr pv b = some q0 → q0 < 16 ∧ bt prs q0 = true ∧ pg_safe g c r (pv (b + q0)) ∧ ((∃ r1, pv (b + q0) = pg_W g c r1 ∧ ¬ pg_W g c r1 = -1) ∨ (pv (b + q0) = pg_V g c q0 ∧ ¬ pg_V g c q0 = -1))) ∧
    (cd_ch prs (pg_M g c) pr pv b = none → ∀ v, pg_safe g c r v) := by
  have hm : cd_ct (pg_M g c) = nI (pg_m g c) := by unfold cd_ct pg_m; rw [pg_cn_ct]
  have hm16 := pg_m_le g c
  have hq := pg_qtab (pg_m g c) (by omega)
  have hcnt : pg_ct (fun q => bt prs q) 16 = pg_cq (pg_m g c) := by
    rw [hm, hq.2.1] at hn
    unfold cd_ct at hn
    rw [pg_cn_ct] at hn
    have h1 : pg_ct (fun q => bt prs q) 16 ≤ 16 := by rw [← pg_cn_ct]; exact cd_cn_le _ 16
    unfold pg_cq at hn ⊢
    exact (nI_eq (by omega) (by omega)).mp hn
  have hQ : ∀ q, q < 16 → bt prs q = true → bt (pg_M g c) q = true ∧ r ≤ pg_P g c q := fun q hq e => ⟨(hok q hq e).1, (hok q hq e).2.1⟩
  have hge : pg_cq (pg_m g c) ≤ pg_ct (fun q => bt prs q) 16 := by omega
  unfold cd_ch
  cases e1 : (cd_nc prs pr b 16).1 with
  | some q1 =>
    refine ⟨fun q0 e => ?_, fun e => absurd e (by simp)⟩
    cases e
    obtain ⟨h1, h2, h3, h4, h5⟩ := pg_nc_some 16 q1 e1
    obtain ⟨_, hP, h⟩ := hok q1 h1 h2
    rcases h with ⟨e, _⟩ | ⟨e, _⟩ | ⟨r1, e, h16, hlt, ez, hW, hA⟩
    · rw [e] at h4; exact absurd h4 (by decide)
    · rw [e] at h4; exact absurd h4 (by decide)
    · refine ⟨h1, h2, ⟨fun q => bt prs q, hQ, hge, Or.inl ⟨r1, h16, hlt, ez.symm, by rw [ez]; exact hW, fun q hq16 hb r' a b' => ?_⟩⟩, Or.inl ⟨r1, ez, hW⟩⟩
      have hmax := h5 q hq16 hb
      rw [e] at hmax
      obtain ⟨_, _, h⟩ := hok q hq16 hb
      rcases h with ⟨_, _, hA2⟩ | ⟨_, _, _, hA2⟩ | ⟨r2, e2, _, hlt2, _, _, hA2⟩
      · exact hA2 r' b'
      · exact hA2 r' b'
      · rw [e2] at hmax
        have : ¬ r1 < r2 := fun z => hmax (nI_lt z (by omega))
        exact hA2 r' (by omega) b'
  | none =>
    obtain ⟨_, hno⟩ := pg_nc_none 16 e1
    have hA : ∀ q, q < 16 → bt prs q = true → ∀ r', r' < r → pg_A g c q r' = false := by
      intro q hq16 hb r' a
      obtain ⟨_, _, h⟩ := hok q hq16 hb
      rcases h with ⟨_, _, hA2⟩ | ⟨_, _, _, hA2⟩ | ⟨r2, e2, h16, hlt2, _, _, _⟩
      · exact hA2 r' a
      · exact hA2 r' a
      · have := hno q hq16 hb
        rw [e2] at this
        exact absurd (nI_lt (a := 15) (by omega) (by omega)) this
    have hvs : ∀ q, q < 16 → (bt (cd_fp prs pr b 16) q = true ↔ bt prs q = true ∧ pr (b + q) = 0) := fun q hq16 => by
      rw [pg_fp_bt 16 (by omega) q (by omega)]
      exact ⟨fun z => z.2, fun z => ⟨hq16, z⟩⟩
    have hval : ∀ q, q < 16 → bt (cd_fp prs pr b 16) q = true → pv (b + q) = pg_V g c q ∧ ¬ pg_V g c q = -1 := by
      intro q hq16 hb
      obtain ⟨hb1, h0⟩ := (hvs q hq16).mp hb
      obtain ⟨_, _, h⟩ := hok q hq16 hb1
      rcases h with ⟨e, _⟩ | ⟨_, ez, hV, _⟩ | ⟨r2, e2, h16, _⟩
      · rw [h0] at e; exact absurd e (by decide)
      · exact ⟨ez, hV⟩
      · rw [h0] at e2
        exact absurd e2.symm (nI_ne0 (by omega) (by omega))
    have hcount : ∀ w, ¬ w = -1 → pg_ct (fun q => bt prs q && decide (pg_V g c q = w)) 16 = cd_sv (cd_fp prs pr b 16) pv b w 16 := by
      intro w hw
      rw [pg_sv_ct]
      refine pg_ct_congr 16 (fun q hq16 => ?_)
      cases e : bt (cd_fp prs pr b 16) q
      · cases e2 : bt prs q
        · rfl
        · obtain ⟨_, _, h⟩ := hok q hq16 e2
          have h0 : ¬ pr (b + q) = 0 := fun z => by
            have := (hvs q hq16).mpr ⟨e2, z⟩
            rw [e] at this
            exact absurd this (by decide)
          rcases h with ⟨_, hV, _⟩ | ⟨ez, _⟩ | ⟨r2, e3, h16, hlt, _⟩
          · rw [hV, decide_eq_false (fun z => hw z.symm)]
            rfl
          · exact absurd ez h0
          · have := hno q hq16 e2
            rw [e3] at this
            exact absurd (nI_lt (a := 15) (by omega) (by omega)) this
      · have h2 := (hvs q hq16).mp e
        rw [h2.1, (hval q hq16 e).1]
    have hsv : ∀ w, cd_sv (cd_fp prs pr b 16) pv b w 16 ≤ 16 := fun w => by
      rw [pg_sv_ct]
      exact Nat.le_trans (pg_ct_mono (T := fun _ => true) 16 (fun _ _ _ => rfl)) (by decide)
    have hen : ∀ n, n ≤ 16 → (cd_en (cd_ct (pg_M g c)) ≤ nI n ↔ pg_fq (pg_m g c) + pg_cq (pg_m g c) - pg_m g c ≤ n) := fun n hn16 => by
      rw [hm, hq.2.2]
      have : pg_fq (pg_m g c) + pg_cq (pg_m g c) - pg_m g c ≤ 64 := by unfold pg_fq pg_cq; omega
      exact nI_leI (by omega) (by omega)
    have hT : pg_m g c < pg_fq (pg_m g c) + pg_cq (pg_m g c) := by unfold pg_fq pg_cq; omega
    have hT2 : 2 * pg_m g c + pg_cq (pg_m g c) < 2 * (pg_fq (pg_m g c) + pg_cq (pg_m g c)) := by unfold pg_fq pg_cq; omega
    dsimp only
    cases e2 : cd_pd (cd_fp prs pr b 16) pv b (cd_en (cd_ct (pg_M g c))) 16 0 with
    | some q1 =>
      refine ⟨fun q0 e => ?_, fun e => absurd e (by simp)⟩
      cases e
      obtain ⟨h1, h2, h3⟩ := pg_pd_some 16 0 q1 e2
      have hv := hval q1 (by omega) h2
      refine ⟨by omega, ((hvs q1 (by omega)).mp h2).1, ⟨fun q => bt prs q, hQ, hge, Or.inr ⟨hA, fun w hw hw1 => ?_⟩⟩, Or.inr hv⟩
      have h4 := (hen _ (hsv _)).mp h3
      rw [← hcount _ (by rw [hv.1]; exact hv.2)] at h4
      have hm3 := pg_meet (S := fun q => bt prs q && decide (pg_V g c q = w)) (T := fun q => bt prs q && decide (pg_V g c q = pv (b + q1))) (U := fun q => bt prs q) (n := 16) (fun i _ e => (Bool.and_eq_true_iff.mp e).1) (fun i _ e => (Bool.and_eq_true_iff.mp e).1)
      have h0 : pg_ct (fun i => (bt prs i && decide (pg_V g c i = w)) && (bt prs i && decide (pg_V g c i = pv (b + q1)))) 16 = 0 := pg_ct_zero 16 (fun i hi => by
        cases e : ((bt prs i && decide (pg_V g c i = w)) && (bt prs i && decide (pg_V g c i = pv (b + q1))))
        · rfl
        · exfalso
          have e := Bool.and_eq_true_iff.mp e
          exact hw ((of_decide_eq_true (Bool.and_eq_true_iff.mp e.1).2).symm.trans (of_decide_eq_true (Bool.and_eq_true_iff.mp e.2).2)))
      show pg_ct (fun q => bt prs q && decide (pg_V g c q = w)) 16 + pg_m g c < pg_fq (pg_m g c) + pg_cq (pg_m g c)
      omega
    | none =>
      dsimp only
      have hnone := pg_pd_none 16 0 e2
      have hfew : ∀ w, ¬ w = -1 → pg_ct (fun q => bt prs q && decide (pg_V g c q = w)) 16 + pg_m g c < pg_fq (pg_m g c) + pg_cq (pg_m g c) := by
        intro w hw
        rcases Nat.eq_zero_or_pos (pg_ct (fun q => bt prs q && decide (pg_V g c q = w)) 16) with z | z
        · omega
        · rw [hcount w hw] at z ⊢
          have z2 := z
          rw [pg_sv_ct] at z2
          obtain ⟨q, hq16, hqq⟩ := pg_ct_pos 16 z2
          have hqq := Bool.and_eq_true_iff.mp hqq
          have h3 := hnone q (by omega) (by omega) hqq.1
          rw [of_decide_eq_true hqq.2, hen _ (hsv _)] at h3
          omega
      refine ⟨fun q0 e => ?_, fun e v => ⟨fun q => bt prs q, hQ, hge, Or.inr ⟨hA, fun w _ hw1 => hfew w hw1⟩⟩⟩
      obtain ⟨h1, h2⟩ := pg_lo_some 16 0 q0 e
      exact ⟨by omega, ((hvs q0 (by omega)).mp h2).1, ⟨fun q => bt prs q, hQ, hge, Or.inr ⟨hA, fun w _ hw1 => hfew w hw1⟩⟩, Or.inr (hval q0 (by omega) h2)⟩
end PG3
