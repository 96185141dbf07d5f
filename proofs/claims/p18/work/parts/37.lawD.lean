section PG17
variable {f_rings f_high f_low : Int32} {a_crashed a_config a_members a_newestCut a_reports a_votes a_myVote a_promised a_acceptedRound a_acceptedValue a_ownRound a_phase a_promisers a_promiserRound a_promiserValue a_learnedRound a_learnedFrom a_learnedValue a_slots : Nat → Int32}
variable {post : Int32 → Prop} {L : Nat} {xs : Nat → Int32} {J91 : lq_91} {x1 x3 x4 kn ov x18 x19 : Int32} {kc ks : Nat} {g : pg_G} {A B p0 p1 p2 k : Nat}
/-- the record of a history, b: something has been recorded -/
def lq_H (b : Prop) (g : pg_G) (A B p0 p1 p2 : Nat) (kn ov : Int32) : Prop := lq_R (fun c => b ∧ c ≤ pg_K g) g (fun c x => b ∧ ∃ q, q < 16 ∧ pg_V g c q = x ∧ ¬ x = -1) A B p0 p1 p2 kn ov
/-- the head of a turn -/
def lq_I (b : Prop) (g : pg_G) (k : Nat) (x3 x4 : Int32) (A B p0 p1 p2 : Nat) (kn ov had : Int32) (u : St2) : Prop := match u with
  | (f_rings, f_high, f_low, a_crashed, a_config, a_members, a_newestCut, a_reports, a_votes, a_myVote, a_promised, a_acceptedRound, a_acceptedValue, a_ownRound, a_phase, a_promisers, a_promiserRound, a_promiserValue, a_learnedRound, a_learnedFrom, a_learnedValue, a_slots) => pg_st g k (f_rings, f_high, f_low, a_crashed, a_config, a_members, a_newestCut, a_reports, a_votes, a_myVote, a_promised, a_acceptedRound, a_acceptedValue, a_ownRound, a_phase, a_promisers, a_promiserRound, a_promiserValue, a_learnedRound, a_learnedFrom, a_learnedValue, a_slots) ∧ f_high = x3 ∧ f_low = x4 ∧ (∃ K, K ≤ 6 ∧ f_rings = nI K) ∧ lq_H b g A B p0 p1 p2 kn ov ∧ (∀ q, q < 16 → (bt had q = true ↔ ¬ a_myVote q = -1)) ∧ (b ∨ (pg_K g = 0 ∧ ∀ c q, q < 16 → pg_V g c q = -1))
theorem lq_vote16 {x : Int32} (h0 : ¬ x = 0) (h : x &&& 65535 = x) : ∃ v, 1 ≤ v ∧ v ≤ 65535 ∧ x = nI v := by
  have e := lq_lo_e x
  rw [h] at e
  have l := lq_lo_lt x
  refine ⟨lq_lo x, ?_, by omega, e⟩
  rcases Nat.eq_zero_or_pos (lq_lo x) with z | z
  · rw [z] at e; exact absurd e h0
  · exact z
theorem pg_dec_v {g : pg_G} (I : pg_I g) {c : Nat} {v : Int32} (h : pg_dec g c v) : ∃ q, q < 16 ∧ pg_V g c q = v ∧ ¬ v = -1 := by
  obtain ⟨h1, ⟨_, q, hq, e⟩ | ⟨r, e, _⟩⟩ := h
  · exact ⟨q, hq, e, h1⟩
  · obtain ⟨_, _, q, hq, e2⟩ := I.2.2.1 c r (by rw [e]; exact h1)
    exact ⟨q, hq, e2.trans e, h1⟩
/-- the checks behind a turn's call -/
theorem lc_check {b : Prop} {u0 : St2} (hk : k ≤ 200) (I0 : lq_I b g k x3 x4 A B p0 p1 p2 kn ov x18 u0) (N : pg_next g k u0 (f_rings, f_high, f_low, a_crashed, a_config, a_members, a_newestCut, a_reports, a_votes, a_myVote, a_promised, a_acceptedRound, a_acceptedValue, a_ownRound, a_phase, a_promisers, a_promiserRound, a_promiserValue, a_learnedRound, a_learnedFrom, a_learnedValue, a_slots)) (hb : b ∨ ∀ q, q < 16 → a_config q = 0)
    (hE : ∀ A B p0 p1 p2 kn ov had g', lq_I True g' (k + 1) x3 x4 A B p0 p1 p2 kn ov had (f_rings, f_high, f_low, a_crashed, a_config, a_members, a_newestCut, a_reports, a_votes, a_myVote, a_promised, a_acceptedRound, a_acceptedValue, a_ownRound, a_phase, a_promisers, a_promiserRound, a_promiserValue, a_learnedRound, a_learnedFrom, a_learnedValue, a_slots) → J91 (lN A) (lN B) (lN p0) (lN p1) (lN p2) kn ov had (x19 + 3) f_rings f_high f_low a_crashed a_config a_members a_newestCut a_reports a_votes a_myVote a_promised a_acceptedRound a_acceptedValue a_ownRound a_phase a_promisers a_promiserRound a_promiserValue a_learnedRound a_learnedFrom a_learnedValue a_slots) :
    ∃ fu, wL_law_375 post L xs J91 x1 x3 x4 (lN A) (lN B) (lN p0) (lN p1) (lN p2) kn ov x18 x19 kc ks f_rings f_high f_low a_crashed a_config a_members a_newestCut a_reports a_votes a_myVote a_promised a_acceptedRound a_acceptedValue a_ownRound a_phase a_promisers a_promiserRound a_promiserValue a_learnedRound a_learnedFrom a_learnedValue a_slots fu 0 := by
  obtain ⟨f_rings0, f_high0, f_low0, a_crashed0, a_config0, a_members0, a_newestCut0, a_reports0, a_votes0, a_myVote0, a_promised0, a_acceptedRound0, a_acceptedValue0, a_ownRound0, a_phase0, a_promisers0, a_promiserRound0, a_promiserValue0, a_learnedRound0, a_learnedFrom0, a_learnedValue0, a_slots0⟩ := u0
  obtain ⟨st0, eh, el, ⟨K, hK6, eK⟩, H, hhad, hb0⟩ := I0
  obtain ⟨g', Le, st', out⟩ := N
  obtain ⟨o1, o2, o3, E1, EK, EV, EN⟩ := out
  have Ig : pg_I g := st0.1
  have st2 := st'
  obtain ⟨Ig', P', S'⟩ := st'
  have r := H
  obtain ⟨r1, r2, r3, r4, r5, r6, r7, r8⟩ := r
  have HC : ∀ p, p < 16 → ∃ c, c ≤ k + 1 ∧ a_config p = nI c ∧ c ≤ pg_K g' ∧ a_members p = pg_M g' c ∧ a_newestCut p = pg_C g' c ∧ a_myVote p = pg_V g' c p := by
    intro p hp
    obtain ⟨c, rc, h1, h2, h3, h4, h5, h6, _⟩ := P' p hp
    exact ⟨c, h2, h1, h3, h4, h5, h6⟩
  refine ⟨17, la_A r1 r2 r3 r4 r5 (fun p hp => ?_) ⟨17, ?_⟩ 16 0 rfl⟩
  · obtain ⟨c, hc, ec, hcK, em, eu, _⟩ := HC p hp
    refine ⟨c, by omega, ec, fun c1 c3 => ?_⟩
    have hb' : b := by
      rcases hb with y | y
      · exact y
      · exfalso
        rw [y p hp] at ec
        exact absurd ec.symm (nI_ne0 (by omega) (by omega))
    obtain ⟨pc, rfl⟩ : ∃ pc, c = pc + 1 := ⟨c - 1, by omega⟩
    rw [Nat.add_sub_cancel]
    obtain ⟨e1, e2, e3⟩ := E1.2 pc (by omega)
    obtain ⟨q, hq, ev, nv⟩ := pg_dec_v Ig e2
    have hv := Ig.2.1 pc q hq (by rw [ev]; exact nv)
    rw [ev] at hv
    have kn1 : b ∧ pc ≤ pg_K g := ⟨hb', e1⟩
    rw [eu, em]
    refine ⟨hv.2.1, (r6 pc (by omega)).mpr kn1, ?_, lq_lo (pg_M g pc), ?_, ?_⟩
    · rcases r8 pc (by omega) with o | o
      · exact Or.inl o
      · exact Or.inr (o _ ⟨hb', q, hq, ev, nv⟩)
    · have f := (r7 pc (by omega)).1 kn1
      unfold pf_F at f
      rw [← lq_rec_lo g pc, ← f]
      generalize lq_ag A B pc / 2 ^ (32 * (pc % 2)) = z
      omega
    · rw [e3, ← lq_lo_e]
      apply b_ext
      intro i hi
      rw [b_and, b_xor, b_xor, b_and, b_and]
      cases bt (pg_M g pc) i <;> cases bt (pg_C g' (pc + 1)) i <;> cases bt 65535 i <;> rfl
  · refine lb_B (g := g') (KN0 := fun c => b ∧ c ≤ pg_K g) (WT0 := fun c x => b ∧ ∃ q, q < 16 ∧ pg_V g c q = x ∧ ¬ x = -1) ?_ (fun q hq => ?_) (fun q hq hh m => ?_) ?_ 16 0 rfl A B p0 p1 p2 kn ov 0 ?_ (fun i hi => ?_)
    · rintro c x ⟨_, q, hq, e, n⟩
      have := (Ig.2.1 c q hq (by rw [e]; exact n)).2.1
      rw [e] at this
      exact this
    · obtain ⟨c, hc, ec, hcK, em, eu, ev⟩ := HC q hq
      refine ⟨c, by omega, ec, em, eu, fun n => ?_⟩
      rw [ev] at n ⊢
      have := Ig'.2.1 c q hq n
      exact lq_vote16 this.2.1 this.2.2
    · have h0 : a_myVote0 q = -1 := by
        by_cases z : a_myVote0 q = -1
        · exact z
        · have := (hhad q hq).mpr z
          rw [hh] at this
          exact absurd this (by decide)
      have := EN q hq h0 m
      rw [eh, el] at this
      exact this
    · intro A B p0 p1 p2 kn ov now R2 N2
      refine hE A B p0 p1 p2 kn ov now g' ⟨st2, o2.trans eh, o3.trans el, ⟨K, hK6, o1.trans eK⟩, ?_, fun q hq => ?_, Or.inl trivial⟩
      · refine lb_R_wt (lb_R_kn R2 (fun c hc => ?_)) (fun c hc x hx => ?_)
        · constructor
          · rintro ⟨_, hle⟩
            rcases Nat.lt_or_ge (pg_K g) c with l | l
            · rcases EK with e | ⟨q, hq, e⟩
              · omega
              · have : c = pg_K g' := by have := E1.1; omega
                rw [this]
                exact Or.inr ⟨q, hq, e⟩
            · by_cases hb2 : b
              · exact Or.inl ⟨hb2, l⟩
              · rcases hb with y | y
                · exact absurd y hb2
                · rcases hb0 with w | w
                  · exact absurd w hb2
                  · have : c = 0 := by omega
                    subst this
                    exact Or.inr ⟨0, by omega, y 0 (by omega)⟩
          · rintro (⟨hb', l⟩ | ⟨q, hq, e⟩)
            · exact ⟨trivial, Nat.le_trans l Le.1⟩
            · obtain ⟨c', hc', ec, hcK, _⟩ := HC q hq
              have : c = c' := (nI_eq (by omega) (by omega)).mp (e.symm.trans ec)
              rw [this]
              exact ⟨trivial, hcK⟩
        · obtain ⟨_, q, hq, e, n⟩ := hx
          rcases EV c q hq with z | ⟨z1, z2⟩
          · rcases hb0 with w | w
            · exact Or.inl ⟨w, q, hq, z.symm.trans e, n⟩
            · rw [w.2 c q hq] at z
              exact absurd (e.symm.trans z) n
          · exact Or.inr ⟨q, hq, z1, z2.trans e, n⟩
      · rw [N2 q hq]
        exact ⟨fun a => a.2, fun a => ⟨hq, a⟩⟩
    · refine lb_R_wt (lb_R_kn (KN := fun c => b ∧ c ≤ pg_K g) ⟨r1, r2, r3, r4, r5, r6, fun c hc => ⟨fun kk => ?_, (r7 c hc).2⟩, r8⟩ (fun c hc => ⟨?_, fun z => Or.inl z⟩)) (fun c hc x => ?_)
      · rw [(r7 c hc).1 kk]
        unfold lq_rec
        rw [(Le.2.1 c kk.2).1, (Le.2.1 c kk.2).2]
      · rintro (z | ⟨i, hi, _⟩)
        · exact z
        · omega
      · rintro (z | ⟨i, hi, _⟩)
        · exact z
        · omega
    · rw [b_0]
      constructor
      · intro z; exact absurd z (by decide)
      · rintro ⟨z, _⟩; omega
end PG17
