section PG16
variable {f_rings f_high f_low : Int32} {a_crashed a_config a_members a_newestCut a_reports a_votes a_myVote a_promised a_acceptedRound a_acceptedValue a_ownRound a_phase a_promisers a_promiserRound a_promiserValue a_learnedRound a_learnedFrom a_learnedValue a_slots : Nat → Int32}
variable {post : Int32 → Prop} {L : Nat} {xs : Nat → Int32} {J91 : lq_91} {J : lq_548} {x1 x3 x4 kn ov x18 x19 now : Int32} {kc ks : Nat} {g : pg_G} {KN : Nat → Prop} {WT : Nat → Int32 → Prop} {A B p0 p1 p2 q : Nat}
theorem lb_R_kn {KN' : Nat → Prop} (R : lq_R KN g WT A B p0 p1 p2 kn ov) (h : ∀ c, c ≤ 3 → (KN' c ↔ KN c)) : lq_R KN' g WT A B p0 p1 p2 kn ov := by
  obtain ⟨r1, r2, r3, r4, r5, r6, r7, r8⟩ := R
  exact ⟨r1, r2, r3, r4, r5, fun c hc => (r6 c hc).trans (h c hc).symm, fun c hc => ⟨fun k => (r7 c hc).1 ((h c hc).mp k), fun k => (r7 c hc).2 (fun z => k ((h c hc).mpr z))⟩, r8⟩
theorem lb_625 {KN' : Nat → Prop} (R : lq_R KN g WT A B p0 p1 p2 kn ov) {c : Nat} (hc : c ≤ 3) (hK : ∀ c', c' ≤ 3 → (KN' c' ↔ KN c' ∨ c' = c))
    (H : ∀ A' B' kn', lq_R KN' g WT A' B' p0 p1 p2 kn' ov → wL_law_692 post L xs J91 J x1 x3 x4 (lN A') (lN B') (lN p0) (lN p1) (lN p2) kn' ov x18 x19 now (nI q) (nI c) kc ks f_rings f_high f_low a_crashed a_config a_members a_newestCut a_reports a_votes a_myVote a_promised a_acceptedRound a_acceptedValue a_ownRound a_phase a_promisers a_promiserRound a_promiserValue a_learnedRound a_learnedFrom a_learnedValue a_slots) :
    wL_law_625 post L xs J91 J x1 x3 x4 (lN A) (lN B) (lN p0) (lN p1) (lN p2) kn ov x18 x19 now (nI q) (nI c) (lN (lq_rec g c)) (nI (32 * (c % 2))) (lN (lq_ag A B c)) kc ks f_rings f_high f_low a_crashed a_config a_members a_newestCut a_reports a_votes a_myVote a_promised a_acceptedRound a_acceptedValue a_ownRound a_phase a_promisers a_promiserRound a_promiserValue a_learnedRound a_learnedFrom a_learnedValue a_slots := by
  have R0 := R
  obtain ⟨r1, r2, r3, r4, r5, r6, r7, r8⟩ := R
  have hn : lq_ag A B c < 2 ^ 64 := by
    unfold lq_ag
    split
    · exact r1
    · exact r2
  have hrec := lq_rec_lt g c
  unfold wL_law_625
  rw [wb_shr hn (by omega), show (4294967295 : Int64) = lN (2 ^ 32 - 1) from rfl, wb_mask (Nat.lt_of_le_of_lt (Nat.div_le_self _ _) hn) (by decide)]
  refine nm_r (e' := lN (pf_F 32 (lq_ag A B c) (c % 2))) rfl ?_
  refine br_c (fun z => nm_e ?_) (fun z => ?_)
  · have nk : ¬ KN c := fun k => by
      have := (r6 c hc).mpr k
      rw [(cd_has (by omega)).mp z] at this
      exact absurd this (by decide)
    have f0 := (r7 c hc).2 nk
    have hm : lq_rec g c * 2 ^ (32 * (c % 2)) < 2 ^ 64 := by
      have a : lq_rec g c * 2 ^ (32 * (c % 2)) < 2 ^ 32 * 2 ^ (32 * (c % 2)) := Nat.mul_lt_mul_of_pos_right hrec (Nat.two_pow_pos _)
      have b : 2 ^ 32 * 2 ^ (32 * (c % 2)) ≤ 2 ^ 64 := by
        rw [← Nat.pow_add]
        exact Nat.pow_le_pow_right (by decide) (by omega)
      exact Nat.lt_of_lt_of_le a b
    rw [wb_shl _ (by omega)]
    have key : ∀ A' B', A' < 2 ^ 64 → B' < 2 ^ 64 → (∀ c', c' ≤ 3 → lq_ag A' B' c' = if (c' < 2 ↔ c < 2) then lq_ag A B c ||| lq_rec g c * 2 ^ (32 * (c % 2)) else lq_ag A B c') → lq_R KN' g WT A' B' p0 p1 p2 (kn ||| (1 <<< (nI c &&& 31))) ov := by
      intro A' B' a1 a2 he
      refine ⟨a1, a2, r3, r4, r5, fun c' hc' => ?_, fun c' hc' => ?_, r8⟩
      · rw [b_or, cd_shl1 c (by omega) (by omega), Bool.or_eq_true_iff, decide_eq_true_iff, r6 c' hc', hK c' hc']
      · rw [he c' hc']
        by_cases w : (c' < 2 ↔ c < 2)
        · have ew : lq_ag A B c' = lq_ag A B c := by
            unfold lq_ag
            by_cases y : c < 2
            · rw [if_pos y, if_pos (w.mpr y)]
            · rw [if_neg y, if_neg (fun t => y (w.mp t))]
          rw [if_pos w, pf_or 32 _ _ (c % 2) (c' % 2) hrec]
          by_cases e : c' = c
          · subst e
            rw [f0, if_pos rfl, Nat.zero_or]
            exact ⟨fun _ => rfl, fun n => absurd ((hK c' hc').mpr (Or.inr rfl)) n⟩
          · have ne : ¬ c' % 2 = c % 2 := by omega
            rw [if_neg ne, Nat.or_zero, ← ew]
            refine ⟨fun k => (r7 c' hc').1 ?_, fun k => (r7 c' hc').2 (fun y => k ((hK c' hc').mpr (Or.inl y)))⟩
            rcases (hK c' hc').mp k with y | y
            · exact y
            · exact absurd y e
        · rw [if_neg w]
          have e : ¬ c' = c := fun y => w (by rw [y])
          refine ⟨fun k => (r7 c' hc').1 ?_, fun k => (r7 c' hc').2 (fun y => k ((hK c' hc').mpr (Or.inl y)))⟩
          rcases (hK c' hc').mp k with y | y
          · exact y
          · exact absurd y e
    by_cases c2 : c < 2
    · refine br_f (nI_ge (b := 2) c2 (by decide)) ?_
      have ea : lq_ag A B c = A := if_pos c2
      rw [ea] at key
      rw [wb_or r1 hm]
      refine nm_e (H _ B _ (key _ B (Nat.or_lt_two_pow r1 hm) r2 (fun c' hc' => ?_)))
      unfold lq_ag
      by_cases w : c' < 2
      · rw [if_pos w, if_pos (iff_of_true w c2)]
      · rw [if_neg w, if_neg (fun y => w (y.mpr c2)), if_neg w]
    · refine br_t (nI_le (a := 2) (by omega) (by omega)) ?_
      have ea : lq_ag A B c = B := if_neg c2
      rw [ea] at key
      rw [wb_or r2 hm]
      refine nm_e (H A _ _ (key A _ r1 (Nat.or_lt_two_pow r2 hm) (fun c' hc' => ?_)))
      unfold lq_ag
      by_cases w : c' < 2
      · rw [if_pos w, if_neg (fun y => c2 (y.mp w)), if_pos w]
      · rw [if_neg w, if_pos (iff_of_false w c2)]
  · have k : KN c := (r6 c hc).mp ((cd_hasn (by omega)).mp z)
    rw [(r7 c hc).1 k]
    refine br_t rfl (H A B kn (lb_R_kn R0 (fun c' hc' => ?_)))
    rw [hK c' hc']
    constructor
    · rintro (y | y)
      · exact y
      · rw [y]; exact k
    · exact fun y => Or.inl y
def lq_KN (KN : Nat → Prop) (cf : Nat → Int32) (q c : Nat) : Prop := KN c ∨ ∃ i, i < q ∧ cf i = nI c
def lq_WT (WT : Nat → Int32 → Prop) (cf mv : Nat → Int32) (q c : Nat) (x : Int32) : Prop := WT c x ∨ ∃ i, i < q ∧ cf i = nI c ∧ mv i = x ∧ ¬ x = -1
theorem lb_B {KN0 : Nat → Prop} {WT0 : Nat → Int32 → Prop} (hW0 : ∀ c x, WT0 c x → ¬ x = 0)
    (HP : ∀ q, q < 16 → ∃ c, c ≤ 300 ∧ a_config q = nI c ∧ a_members q = pg_M g c ∧ a_newestCut q = pg_C g c ∧ (¬ a_myVote q = -1 → ∃ v, 1 ≤ v ∧ v ≤ 65535 ∧ a_myVote q = nI v))
    (HN : ∀ q, q < 16 → bt x18 q = false → ¬ a_myVote q = -1 → cd_st a_reports (q * 16) x3 x4 16 = some (a_myVote q))
    (hE : ∀ A B p0 p1 p2 kn ov now, lq_R (lq_KN KN0 a_config 16) g (lq_WT WT0 a_config a_myVote 16) A B p0 p1 p2 kn ov → (∀ i, i < 16 → (bt now i = true ↔ i < 16 ∧ ¬ a_myVote i = -1)) → J91 (lN A) (lN B) (lN p0) (lN p1) (lN p2) kn ov now (x19 + 3) f_rings f_high f_low a_crashed a_config a_members a_newestCut a_reports a_votes a_myVote a_promised a_acceptedRound a_acceptedValue a_ownRound a_phase a_promisers a_promiserRound a_promiserValue a_learnedRound a_learnedFrom a_learnedValue a_slots) :
    ∀ d q, q + d = 16 → ∀ A B p0 p1 p2 kn ov now, lq_R (lq_KN KN0 a_config q) g (lq_WT WT0 a_config a_myVote q) A B p0 p1 p2 kn ov → (∀ i, i < 16 → (bt now i = true ↔ i < q ∧ ¬ a_myVote i = -1)) →
      wL_law_548 post L xs J91 x1 x3 x4 x18 x19 kc ks f_rings f_high f_low a_crashed a_config a_members a_newestCut a_reports a_votes a_myVote a_promised a_acceptedRound a_acceptedValue a_ownRound a_phase a_promisers a_promiserRound a_promiserValue a_learnedRound a_learnedFrom a_learnedValue a_slots (d + 1) (lN A) (lN B) (lN p0) (lN p1) (lN p2) kn ov now (nI q) := by
  intro d
  induction d with
  | zero =>
    intro q hq A B p0 p1 p2 kn ov now R N
    have e : q = 16 := by omega
    subst e
    exact br_t (cd_at16 rfl) (nm_e (hE A B p0 p1 p2 kn ov now R N))
  | succ d ih =>
    intro q hq A B p0 p1 p2 kn ov now R N
    have hq16 : q < 16 := by omega
    have ih := ih (q + 1) (by omega)
    obtain ⟨c, hc, ec, em, eu, hv⟩ := HP q hq16
    have inj : ∀ c', c' ≤ 3 → a_config q = nI c' → c' = c := fun c' hc' e => (nI_eq (by omega) (by omega)).mp (e.symm.trans ec)
    have hKs : ∀ c', c' ≤ 3 → (lq_KN KN0 a_config (q + 1) c' ↔ lq_KN KN0 a_config q c' ∨ c' = c) := by
      intro c' hc'
      constructor
      · rintro (a | ⟨i, hi, e⟩)
        · exact Or.inl (Or.inl a)
        · by_cases iq : i = q
          · subst iq
            exact Or.inr (inj c' hc' e)
          · exact Or.inl (Or.inr ⟨i, by omega, e⟩)
      · rintro ((a | ⟨i, hi, e⟩) | a)
        · exact Or.inl a
        · exact Or.inr ⟨i, by omega, e⟩
        · exact Or.inr ⟨q, by omega, by rw [a]; exact ec⟩
    have hW1 : ∀ c' x, lq_WT WT0 a_config a_myVote q c' x → ¬ x = 0 := by
      rintro c' x (a | ⟨i, hi, _, e, n⟩)
      · exact hW0 c' x a
      · obtain ⟨_, _, _, _, _, hvi⟩ := HP i (by omega)
        rw [e] at hvi
        obtain ⟨v, v1, v2, ev⟩ := hvi n
        rw [ev]
        exact nI_ne0 (by omega) (by omega)
    have hWs : ∀ c', c' ≤ 2 → ∀ x, lq_WT WT0 a_config a_myVote (q + 1) c' x → lq_WT WT0 a_config a_myVote q c' x ∨ (c' = c ∧ x = a_myVote q ∧ ¬ x = -1) := by
      rintro c' hc' x (a | ⟨i, hi, e1, e2, n⟩)
      · exact Or.inl (Or.inl a)
      · by_cases iq : i = q
        · subst iq
          exact Or.inr ⟨inj c' (by omega) e1, e2.symm, n⟩
        · exact Or.inl (Or.inr ⟨i, by omega, e1, e2, n⟩)
    have H692 : ∀ A' B' kn', lq_R (lq_KN KN0 a_config (q + 1)) g (lq_WT WT0 a_config a_myVote q) A' B' p0 p1 p2 kn' ov → wL_law_692 post L xs J91 (wL_law_548 post L xs J91 x1 x3 x4 x18 x19 kc ks f_rings f_high f_low a_crashed a_config a_members a_newestCut a_reports a_votes a_myVote a_promised a_acceptedRound a_acceptedValue a_ownRound a_phase a_promisers a_promiserRound a_promiserValue a_learnedRound a_learnedFrom a_learnedValue a_slots (d + 1)) x1 x3 x4 (lN A') (lN B') (lN p0) (lN p1) (lN p2) kn' ov x18 x19 now (nI q) (nI c) kc ks f_rings f_high f_low a_crashed a_config a_members a_newestCut a_reports a_votes a_myVote a_promised a_acceptedRound a_acceptedValue a_ownRound a_phase a_promisers a_promiserRound a_promiserValue a_learnedRound a_learnedFrom a_learnedValue a_slots := by
      intro A' B' kn' R'
      refine lb_692 (g := g) (WT' := lq_WT WT0 a_config a_myVote (q + 1)) R' hq16 hc hv (HN q hq16) hW1 hWs (fun p0' p1' p2' ov' now' R2 N2 => ih A' B' p0' p1' p2' kn' ov' now' R2 (fun i hi => ?_))
      rw [N2 i hi, N i hi]
      constructor
      · rintro (a | ⟨rfl, a⟩)
        · exact ⟨by omega, a.2⟩
        · exact ⟨by omega, a⟩
      · intro a
        by_cases iq : i = q
        · subst iq; exact Or.inr ⟨rfl, a.2⟩
        · exact Or.inl ⟨by omega, a.2⟩
    refine br_f (cd_ge16 hq16) (sw_cfg hq16 ?_)
    rw [ec]
    refine br_f (nI_pos (by omega)) ?_
    by_cases c3 : 3 < c
    · refine br_t (nI_lt (a := 3) c3 (by omega)) (H692 A B kn (lb_R_kn R (fun c' hc' => ?_)))
      rw [hKs c' hc']
      constructor
      · rintro (a | a)
        · exact a
        · omega
      · exact fun a => Or.inl a
    refine br_f (nI_nlt (a := 3) (b := c) (by omega) (by decide)) (sw_mem hq16 (sw_cut hq16 ?_))
    have e1 : (a_members q &&& 65535).toInt64 ||| ((a_newestCut q &&& 65535).toInt64 <<< ((16 : Int32).toInt64 &&& 63)) = lN (lq_rec g c) := by
      have b1 := lq_lo_lt (pg_M g c)
      have b2 := lq_lo_lt (pg_C g c)
      rw [em, eu, lq_lo_e, lq_lo_e, nI_l (by omega), nI_l (by omega), show (16 : Int32) = nI 16 from rfl, wb_shl _ (by decide), wb_or (by omega) (by show lq_lo (pg_C g c) * 65536 < 18446744073709551616; omega)]
      rfl
    have e2 : (32 : Int32) * (nI c &&& 1) = nI (32 * (c % 2)) := by
      rw [pk_andN (n := c) (by omega) (m := 1) 1 (by decide)]
      exact pk_mul 32 (c % 2 ^ 1)
    refine nm_r e1 (nm_r e2 ?_)
    have H := lb_625 (post := post) (L := L) (xs := xs) (J91 := J91) (J := wL_law_548 post L xs J91 x1 x3 x4 x18 x19 kc ks f_rings f_high f_low a_crashed a_config a_members a_newestCut a_reports a_votes a_myVote a_promised a_acceptedRound a_acceptedValue a_ownRound a_phase a_promisers a_promiserRound a_promiserValue a_learnedRound a_learnedFrom a_learnedValue a_slots (d + 1)) (x1 := x1) (x3 := x3) (x4 := x4) (x18 := x18) (x19 := x19) (now := now) (q := q) (kc := kc) (ks := ks) R (show c ≤ 3 by omega) hKs H692
    by_cases c2 : c < 2
    · rw [show lq_ag A B c = A from if_pos c2] at H
      exact br_f (nI_ge (b := 2) c2 (by decide)) H
    · rw [show lq_ag A B c = B from if_neg c2] at H
      exact br_t (nI_le (a := 2) (by omega) (by omega)) H
end PG16
