section PG14
abbrev lq_91 : Type := Int64 → Int64 → Int64 → Int64 → Int64 → Int32 → Int32 → Int32 → Int32 → Int32 → Int32 → Int32 → (Nat → Int32) → (Nat → Int32) → (Nat → Int32) → (Nat → Int32) → (Nat → Int32) → (Nat → Int32) → (Nat → Int32) → (Nat → Int32) → (Nat → Int32) → (Nat → Int32) → (Nat → Int32) → (Nat → Int32) → (Nat → Int32) → (Nat → Int32) → (Nat → Int32) → (Nat → Int32) → (Nat → Int32) → (Nat → Int32) → (Nat → Int32) → Prop
abbrev lq_548 : Type := Int64 → Int64 → Int64 → Int64 → Int64 → Int32 → Int32 → Int32 → Int32 → Prop
variable {f_rings f_high f_low : Int32} {a_crashed a_config a_members a_newestCut a_reports a_votes a_myVote a_promised a_acceptedRound a_acceptedValue a_ownRound a_phase a_promisers a_promiserRound a_promiserValue a_learnedRound a_learnedFrom a_learnedValue a_slots : Nat → Int32}
variable {post : Int32 → Prop} {L : Nat} {xs : Nat → Int32} {J91 : lq_91} {x1 x3 x4 kn ov x18 x19 : Int32} {kc ks : Nat}
/-! the record: members and cuts by configuration, proposals by configuration -/
def lq_ps (p0 p1 p2 c : Nat) : Nat := if c = 0 then p0 else if c = 1 then p1 else p2
def lq_ag (A B c : Nat) : Nat := if c < 2 then A else B
def lq_lo (x : Int32) : Nat := x.toBitVec.toNat % 2 ^ 16
theorem lq_lo_e (x : Int32) : x &&& 65535 = nI (lq_lo x) := pk_and x 16 (by decide)
theorem lq_lo_lt (x : Int32) : lq_lo x < 65536 := Nat.mod_lt _ (by decide)
def lq_rec (g : pg_G) (c : Nat) : Nat := lq_lo (pg_M g c) ||| lq_lo (pg_C g c) * 2 ^ (16 * 1)
theorem lq_rec_lo (g : pg_G) (c : Nat) : lq_rec g c % 65536 = lq_lo (pg_M g c) := by
  have h := pf_or 16 (lq_lo (pg_M g c)) (lq_lo (pg_C g c)) 1 0 (lq_lo_lt _)
  unfold pf_F at h
  rw [if_neg (by omega), Nat.or_zero, Nat.mul_zero, Nat.pow_zero, Nat.div_one, Nat.div_one, Nat.mod_eq_of_lt (lq_lo_lt (pg_M g c))] at h
  exact h
theorem lq_rec_lt (g : pg_G) (c : Nat) : lq_rec g c < 2 ^ 32 := by
  have a := lq_lo_lt (pg_M g c)
  have b := lq_lo_lt (pg_C g c)
  refine Nat.or_lt_two_pow (by omega) ?_
  show lq_lo (pg_C g c) * 65536 < 4294967296
  omega
def lq_R (KN : Nat → Prop) (g : pg_G) (WT : Nat → Int32 → Prop) (A B p0 p1 p2 : Nat) (kn ov : Int32) : Prop :=
  A < 2 ^ 64 ∧ B < 2 ^ 64 ∧ p0 < 2 ^ 64 ∧ p1 < 2 ^ 64 ∧ p2 < 2 ^ 64 ∧ (∀ c, c ≤ 3 → (bt kn c = true ↔ KN c)) ∧
  (∀ c, c ≤ 3 → (KN c → pf_F 32 (lq_ag A B c) (c % 2) = lq_rec g c) ∧ (¬ KN c → pf_F 32 (lq_ag A B c) (c % 2) = 0)) ∧
  (∀ c, c ≤ 2 → bt ov c = true ∨ ∀ x, WT c x → pf_has (lq_ps p0 p1 p2 c) x)
theorem la_497 {J : Int32 → Prop} {x6 x8 x10 x12 x14 : Int64} {x22 : Int32} {p pc n m : Nat} (hp : p < 16) (hc : pc < 4) (hn : n < 2 ^ 64) (hm : n / 2 ^ (32 * (pc % 2)) % 65536 = m) (he : a_members p &&& 65535 = nI m ^^^ (x22 &&& 65535)) (hJ : J (nI (p + 1))) :
    wL_law_497 post L xs J91 J x1 x3 x4 x6 x8 x10 x12 x14 kn ov x18 x19 (nI p) x22 (nI pc) (lN n) kc ks f_rings f_high f_low a_crashed a_config a_members a_newestCut a_reports a_votes a_myVote a_promised a_acceptedRound a_acceptedValue a_ownRound a_phase a_promisers a_promiserRound a_promiserValue a_learnedRound a_learnedFrom a_learnedValue a_slots := by
  unfold wL_law_497
  have e1 : (32 : Int32) * (nI pc &&& 1) = nI (32 * (pc % 2)) := by
    rw [pk_andN (n := pc) (by omega) (m := 1) 1 (by decide)]
    exact pk_mul 32 (pc % 2 ^ 1)
  rw [e1, wb_shr hn (by omega), show (65535 : Int64) = lN (2 ^ 16 - 1) from rfl, wb_mask (Nat.lt_of_le_of_lt (Nat.div_le_self _ _) hn) (by decide)]
  refine nm_r (e' := lN m) (congrArg lN hm) (sw_mem hp ?_)
  have e2 : a_members p &&& 65535 = (lN m ^^^ (x22 &&& 65535).toInt64).toInt32 := by
    rw [he, lq_lo_e x22, nI_l (by have := lq_lo_lt x22; omega), lN_xor, lN_i, nx_xor]
  exact br_t e2 (nm_r (nI_1 p) hJ)
theorem la_484 {J : Int32 → Prop} {A B : Nat} {x10 x12 x14 : Int64} {x22 : Int32} {p pc m : Nat} (hp : p < 16) (hc : pc < 4) (hA : A < 2 ^ 64) (hB : B < 2 ^ 64) (hm : lq_ag A B pc / 2 ^ (32 * (pc % 2)) % 65536 = m) (he : a_members p &&& 65535 = nI m ^^^ (x22 &&& 65535)) (hJ : J (nI (p + 1))) :
    wL_law_484 post L xs J91 J x1 x3 x4 (lN A) (lN B) x10 x12 x14 kn ov x18 x19 (nI p) x22 (nI pc) kc ks f_rings f_high f_low a_crashed a_config a_members a_newestCut a_reports a_votes a_myVote a_promised a_acceptedRound a_acceptedValue a_ownRound a_phase a_promisers a_promiserRound a_promiserValue a_learnedRound a_learnedFrom a_learnedValue a_slots := by
  unfold lq_ag at hm
  by_cases c : pc < 2
  · rw [if_pos c] at hm
    exact br_f (nI_ge (b := 2) c (by decide)) (la_497 hp hc hA hm he hJ)
  · rw [if_neg c] at hm
    exact br_t (nI_le (a := 2) (by omega) (by omega)) (la_497 hp hc hB hm he hJ)
theorem la_460 {J : Int32 → Prop} {A B : Nat} {x10 x12 x14 : Int64} {x22 : Int32} {p pc m n : Nat} (hp : p < 16) (hc : pc < 4) (hA : A < 2 ^ 64) (hB : B < 2 ^ 64) (hn : n < 2 ^ 64) (ho : bt ov pc = true ∨ pf_has n x22) (hm : lq_ag A B pc / 2 ^ (32 * (pc % 2)) % 65536 = m) (he : a_members p &&& 65535 = nI m ^^^ (x22 &&& 65535)) (hJ : J (nI (p + 1))) :
    wL_law_460 post L xs J91 J x1 x3 x4 (lN A) (lN B) x10 x12 x14 kn ov x18 x19 (nI p) x22 (nI pc) (lN n) kc ks f_rings f_high f_low a_crashed a_config a_members a_newestCut a_reports a_votes a_myVote a_promised a_acceptedRound a_acceptedValue a_ownRound a_phase a_promisers a_promiserRound a_promiserValue a_learnedRound a_learnedFrom a_learnedValue a_slots := by
  have H := la_484 (post := post) (L := L) (xs := xs) (J91 := J91) (x1 := x1) (x3 := x3) (x4 := x4) (kn := kn) (ov := ov) (x18 := x18) (x19 := x19) (kc := kc) (ks := ks) (x10 := x10) (x12 := x12) (x14 := x14) (f_rings := f_rings) (f_high := f_high) (f_low := f_low) (a_crashed := a_crashed) (a_config := a_config) (a_newestCut := a_newestCut) (a_reports := a_reports) (a_votes := a_votes) (a_myVote := a_myVote) (a_promised := a_promised) (a_acceptedRound := a_acceptedRound) (a_acceptedValue := a_acceptedValue) (a_ownRound := a_ownRound) (a_phase := a_phase) (a_promisers := a_promisers) (a_promiserRound := a_promiserRound) (a_promiserValue := a_promiserValue) (a_learnedRound := a_learnedRound) (a_learnedFrom := a_learnedFrom) (a_learnedValue := a_learnedValue) (a_slots := a_slots) hp hc hA hB hm he hJ
  refine br_c (fun z => ?_) (fun _ => H)
  have z := (cd_has (by omega)).mp z
  rcases ho with o | o
  · rw [z] at o; exact absurd o (by decide)
  · exact lf_has hn (fun _ => br_f (by decide) H) (fun c => absurd o c)
theorem la_A {A B p0 p1 p2 : Nat} (hA : A < 2 ^ 64) (hB : B < 2 ^ 64) (h0 : p0 < 2 ^ 64) (h1 : p1 < 2 ^ 64) (h2 : p2 < 2 ^ 64)
    (H : ∀ p, p < 16 → ∃ c, c ≤ 300 ∧ a_config p = nI c ∧ (1 ≤ c → c ≤ 3 → ¬ a_newestCut p = 0 ∧ bt kn (c - 1) = true ∧ (bt ov (c - 1) = true ∨ pf_has (lq_ps p0 p1 p2 (c - 1)) (a_newestCut p)) ∧ ∃ m, lq_ag A B (c - 1) / 2 ^ (32 * ((c - 1) % 2)) % 65536 = m ∧ a_members p &&& 65535 = nI m ^^^ (a_newestCut p &&& 65535)))
    (hE : ∃ fu, wL_law_548 post L xs J91 x1 x3 x4 x18 x19 kc ks f_rings f_high f_low a_crashed a_config a_members a_newestCut a_reports a_votes a_myVote a_promised a_acceptedRound a_acceptedValue a_ownRound a_phase a_promisers a_promiserRound a_promiserValue a_learnedRound a_learnedFrom a_learnedValue a_slots fu (lN A) (lN B) (lN p0) (lN p1) (lN p2) kn ov 0 0) :
    ∀ d p, p + d = 16 → wL_law_375 post L xs J91 x1 x3 x4 (lN A) (lN B) (lN p0) (lN p1) (lN p2) kn ov x18 x19 kc ks f_rings f_high f_low a_crashed a_config a_members a_newestCut a_reports a_votes a_myVote a_promised a_acceptedRound a_acceptedValue a_ownRound a_phase a_promisers a_promiserRound a_promiserValue a_learnedRound a_learnedFrom a_learnedValue a_slots (d + 1) (nI p) := by
  intro d
  induction d with
  | zero =>
    intro p hp
    exact br_t (cd_at16 (by omega)) hE
  | succ d ih =>
    intro p hp
    have ih := ih (p + 1) (by omega)
    have hp16 : p < 16 := by omega
    obtain ⟨c, hc, ec, hh⟩ := H p hp16
    refine br_f (cd_ge16 hp16) (sw_cfg hp16 ?_)
    rw [ec]
    by_cases c1 : c < 1
    · exact br_t (nI_lt (b := 1) c1 (by decide)) (nm_r (nI_1 p) ih)
    refine br_f (nI_nlt (b := 1) (by omega) (by omega)) ?_
    by_cases c3 : 3 < c
    · exact br_t (nI_lt (a := 3) c3 (by omega)) (nm_r (nI_1 p) ih)
    refine br_f (nI_nlt (a := 3) (b := c) (by omega) (by decide)) (sw_cut hp16 ?_)
    obtain ⟨g1, g2, g3, m, g4, g5⟩ := hh (by omega) (by omega)
    obtain ⟨pc, rfl⟩ : ∃ pc, c = pc + 1 := ⟨c - 1, by omega⟩
    rw [Nat.add_sub_cancel] at g2 g3 g4
    refine br_f g1 (nm_r (nI_pred pc) ?_)
    refine br_f ((cd_hasn (by omega)).mpr g2) ?_
    by_cases e0 : pc = 0
    · subst e0
      exact br_t rfl (la_460 hp16 (by omega) hA hB h0 g3 g4 g5 ih)
    refine br_f (nI_ne0 (by omega) (by omega)) ?_
    by_cases e1 : pc = 1
    · subst e1
      exact br_t rfl (la_460 hp16 (by omega) hA hB h1 g3 g4 g5 ih)
    have e2 : pc = 2 := by omega
    subst e2
    exact br_f (by decide) (la_460 hp16 (by omega) hA hB h2 g3 g4 g5 ih)
end PG14
