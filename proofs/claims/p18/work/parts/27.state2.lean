section PG7
variable {f_rings f_high f_low : Int32} {a_crashed a_config a_members a_newestCut a_reports a_votes a_myVote a_promised a_acceptedRound a_acceptedValue a_ownRound a_phase a_promisers a_promiserRound a_promiserValue a_learnedRound a_learnedFrom a_learnedValue a_slots : Nat → Int32}
theorem cd_put2 {s : Nat → Int32} {b : Nat} {kind p c x y z d : Int32} : cd_put s b kind p c x y z d (b + 2) = c := by
  unfold cd_put
  rw [pk_un (by omega), pk_un (by omega), pk_un (by omega), pk_un (by omega), pk_us]
theorem cd_put4 {s : Nat → Int32} {b : Nat} {kind p c x y z d : Int32} : cd_put s b kind p c x y z d (b + 4) = y := by
  unfold cd_put
  rw [pk_un (by omega), pk_un (by omega), pk_us]
theorem cd_put5 {s : Nat → Int32} {b : Nat} {kind p c x y z d : Int32} : cd_put s b kind p c x y z d (b + 5) = z := by
  unfold cd_put
  rw [pk_un (by omega), pk_us]
/-! the slots -/
def pg_sl (g : pg_G) (k : Nat) (s : Nat → Int32) : Prop := ∀ i, i < 32 → ¬ s (i * 7 + 6) = 0 → pg_ms g k (s (i * 7)) (s (i * 7 + 1)) (s (i * 7 + 2)) (s (i * 7 + 3)) (s (i * 7 + 4)) (s (i * 7 + 5))
theorem pg_sl_up {g g' : pg_G} (L : pg_le g g') {k k' : Nat} (hk : k ≤ k') {s : Nat → Int32} (h : pg_sl g k s) : pg_sl g' k' s := fun i hi n => pg_ms_up L hk (h i hi n)
theorem pg_sl_send {g : pg_G} {k : Nat} {s : Nat → Int32} (h : pg_sl g k s) {kind p c x y z d : Int32} (m : pg_ms g k kind p c x y z) : pg_sl g k (cd_sd s p c kind x y z d) := by
  unfold cd_sd
  by_cases hd : d &&& 65535 = 0
  · rw [if_pos hd]; exact h
  · rw [if_neg hd]
    cases e : cd_fr s 32 0 with
    | none => exact h
    | some i =>
      dsimp only
      intro j hj n
      by_cases hji : j = i
      · subst hji
        rw [cd_put0, cd_put1, cd_put2, cd_put3, cd_put4, cd_put5]
        exact m
      · have o : ∀ f, f < 7 → cd_put s (i * 7) kind p c x y z (d &&& 65535) (j * 7 + f) = s (j * 7 + f) := fun f hf => cd_putO (by omega)
        have o0 : cd_put s (i * 7) kind p c x y z (d &&& 65535) (j * 7) = s (j * 7) := cd_putO (by omega)
        rw [o 6 (by omega)] at n
        rw [o0, o 1 (by omega), o 2 (by omega), o 3 (by omega), o 4 (by omega), o 5 (by omega)]
        exact h j hj n
theorem pg_sl_off {g : pg_G} {k : Nat} {s : Nat → Int32} (h : pg_sl g k s) {i p : Nat} : pg_sl g k (cd_off s i p) := by
  intro j hj n
  unfold cd_off at n ⊢
  by_cases z : s (i * 7 + 6) &&& cd_not p = 0
  · rw [if_pos z] at n ⊢
    by_cases hji : j = i
    · subst hji
      exact absurd (cd_fillI (by omega) (by omega)) n
    · have o : ∀ f, f < 7 → cd_fill (upd s (i * 7 + 6) (s (i * 7 + 6) &&& cd_not p)) (i * 7) 0 7 (j * 7 + f) = s (j * 7 + f) := fun f hf => by rw [cd_fillO (by omega), pk_un (by omega)]
      have o0 : cd_fill (upd s (i * 7 + 6) (s (i * 7 + 6) &&& cd_not p)) (i * 7) 0 7 (j * 7) = s (j * 7) := o 0 (by omega)
      rw [o 6 (by omega)] at n
      rw [o0, o 1 (by omega), o 2 (by omega), o 3 (by omega), o 4 (by omega), o 5 (by omega)]
      exact h j hj n
  · rw [if_neg z] at n ⊢
    have n0 : ¬ s (j * 7 + 6) = 0 := by
      by_cases hji : j = i
      · subst hji
        intro e
        rw [e] at z
        exact z Int32.zero_and
      · rw [pk_un (by omega)] at n; exact n
    rw [pk_un (by omega), pk_un (by omega), pk_un (by omega), pk_un (by omega), pk_un (by omega), pk_un (by omega)]
    exact h j hj n0
/-! a process of a state -/
def pg_at (g : pg_G) (k : Nat) (u : St2) (p : Nat) : Prop := match u with
  | (f_rings, f_high, f_low, a_crashed, a_config, a_members, a_newestCut, a_reports, a_votes, a_myVote, a_promised, a_acceptedRound, a_acceptedValue, a_ownRound, a_phase, a_promisers, a_promiserRound, a_promiserValue, a_learnedRound, a_learnedFrom, a_learnedValue, a_slots) => pg_p g k p (a_config p) (a_members p) (a_newestCut p) (a_myVote p) (a_promised p) (a_acceptedRound p) (a_acceptedValue p) (a_ownRound p) (a_phase p) (a_promisers p) (a_learnedRound p) (a_learnedFrom p) (a_learnedValue p) (fun q => a_votes (p * 16 + q)) (fun q => a_promiserRound (p * 16 + q)) (fun q => a_promiserValue (p * 16 + q))
def pg_eq (u u' : St2) (p : Nat) : Prop := match u with
  | (f_rings, f_high, f_low, a_crashed, a_config, a_members, a_newestCut, a_reports, a_votes, a_myVote, a_promised, a_acceptedRound, a_acceptedValue, a_ownRound, a_phase, a_promisers, a_promiserRound, a_promiserValue, a_learnedRound, a_learnedFrom, a_learnedValue, a_slots) => match u' with
    | (f_rings2, f_high2, f_low2, a_crashed2, a_config2, a_members2, a_newestCut2, a_reports2, a_votes2, a_myVote2, a_promised2, a_acceptedRound2, a_acceptedValue2, a_ownRound2, a_phase2, a_promisers2, a_promiserRound2, a_promiserValue2, a_learnedRound2, a_learnedFrom2, a_learnedValue2, a_slots2) => a_config2 p = a_config p ∧ a_members2 p = a_members p ∧ a_newestCut2 p = a_newestCut p ∧ a_myVote2 p = a_myVote p ∧ a_promised2 p = a_promised p ∧ a_acceptedRound2 p = a_acceptedRound p ∧ a_acceptedValue2 p = a_acceptedValue p ∧ a_ownRound2 p = a_ownRound p ∧ a_phase2 p = a_phase p ∧ a_promisers2 p = a_promisers p ∧ a_learnedRound2 p = a_learnedRound p ∧ a_learnedFrom2 p = a_learnedFrom p ∧ a_learnedValue2 p = a_learnedValue p ∧ (∀ j, j < 16 → a_votes2 (p * 16 + j) = a_votes (p * 16 + j)) ∧ (∀ j, j < 16 → a_promiserRound2 (p * 16 + j) = a_promiserRound (p * 16 + j)) ∧ (∀ j, j < 16 → a_promiserValue2 (p * 16 + j) = a_promiserValue (p * 16 + j))
theorem pg_p_cg {g : pg_G} {k p : Nat} {cfg mem cut mv pm ar av crn ph prs lr lf lv : Int32} {vt prr prv vt' prr' prv' : Nat → Int32} (h1 : ∀ j, j < 16 → vt' j = vt j) (h2 : ∀ j, j < 16 → prr' j = prr j) (h3 : ∀ j, j < 16 → prv' j = prv j) (h : pg_p g k p cfg mem cut mv pm ar av crn ph prs lr lf lv vt prr prv) : pg_p g k p cfg mem cut mv pm ar av crn ph prs lr lf lv vt' prr' prv' := by
  obtain ⟨c, rc, a1, a2, a3, a4, a5, a6, a7, a8, a9, a10, a11, a12, a13, a14, a15⟩ := h
  refine ⟨c, rc, a1, a2, a3, a4, a5, a6, a7, a8, a9, fun j hj n => ?_, a11, a12, ⟨a13.1, fun e => ?_⟩, a14, a15⟩
  · rw [h1 j hj] at n ⊢
    exact a10 j hj n
  · obtain ⟨b1, b2, b3⟩ := a13.2 e
    refine ⟨b1, b2, fun j hj hb => ?_⟩
    rw [h2 j hj, h3 j hj]
    exact b3 j hj hb
theorem pg_at_eq {g : pg_G} {k p : Nat} {u u' : St2} (E : pg_eq u u' p) (h : pg_at g k u p) : pg_at g k u' p := by
  obtain ⟨f_rings, f_high, f_low, a_crashed, a_config, a_members, a_newestCut, a_reports, a_votes, a_myVote, a_promised, a_acceptedRound, a_acceptedValue, a_ownRound, a_phase, a_promisers, a_promiserRound, a_promiserValue, a_learnedRound, a_learnedFrom, a_learnedValue, a_slots⟩ := u
  obtain ⟨f_rings2, f_high2, f_low2, a_crashed2, a_config2, a_members2, a_newestCut2, a_reports2, a_votes2, a_myVote2, a_promised2, a_acceptedRound2, a_acceptedValue2, a_ownRound2, a_phase2, a_promisers2, a_promiserRound2, a_promiserValue2, a_learnedRound2, a_learnedFrom2, a_learnedValue2, a_slots2⟩ := u'
  obtain ⟨e1, e2, e3, e4, e5, e6, e7, e8, e9, e10, e11, e12, e13, e14, e15, e16⟩ := E
  show pg_p g k p (a_config2 p) (a_members2 p) (a_newestCut2 p) (a_myVote2 p) (a_promised2 p) (a_acceptedRound2 p) (a_acceptedValue2 p) (a_ownRound2 p) (a_phase2 p) (a_promisers2 p) (a_learnedRound2 p) (a_learnedFrom2 p) (a_learnedValue2 p) (fun q => a_votes2 (p * 16 + q)) (fun q => a_promiserRound2 (p * 16 + q)) (fun q => a_promiserValue2 (p * 16 + q))
  rw [e1, e2, e3, e4, e5, e6, e7, e8, e9, e10, e11, e12, e13]
  exact pg_p_cg e14 e15 e16 h
def pg_ot (p : Nat) (u u' : St2) : Prop := ∀ q, q < 16 → ¬ q = p → pg_eq u u' q
theorem pg_ot_send {p : Nat} {u v : St2} (h : pg_ot p u v) {a : Nat} {kind x y z d : Int32} : pg_ot p u (cx_send v a kind x y z d) := by
  obtain ⟨f_rings, f_high, f_low, a_crashed, a_config, a_members, a_newestCut, a_reports, a_votes, a_myVote, a_promised, a_acceptedRound, a_acceptedValue, a_ownRound, a_phase, a_promisers, a_promiserRound, a_promiserValue, a_learnedRound, a_learnedFrom, a_learnedValue, a_slots⟩ := u
  obtain ⟨f_rings2, f_high2, f_low2, a_crashed2, a_config2, a_members2, a_newestCut2, a_reports2, a_votes2, a_myVote2, a_promised2, a_acceptedRound2, a_acceptedValue2, a_ownRound2, a_phase2, a_promisers2, a_promiserRound2, a_promiserValue2, a_learnedRound2, a_learnedFrom2, a_learnedValue2, a_slots2⟩ := v
  intro q hq hne
  obtain ⟨e1, e2, e3, e4, e5, e6, e7, e8, e9, e10, e11, e12, e13, e14, e15, e16⟩ := h q hq hne
  exact ⟨e1, e2, e3, e4, e5, e6, e7, e8, e9, e10, e11, e12, e13, e14, e15, e16⟩
theorem pg_ot_inst {p : Nat} {u v : St2} (h : pg_ot p u v) {n s c : Int32} : pg_ot p u (cx_inst v p n s c) := by
  obtain ⟨f_rings, f_high, f_low, a_crashed, a_config, a_members, a_newestCut, a_reports, a_votes, a_myVote, a_promised, a_acceptedRound, a_acceptedValue, a_ownRound, a_phase, a_promisers, a_promiserRound, a_promiserValue, a_learnedRound, a_learnedFrom, a_learnedValue, a_slots⟩ := u
  obtain ⟨f_rings2, f_high2, f_low2, a_crashed2, a_config2, a_members2, a_newestCut2, a_reports2, a_votes2, a_myVote2, a_promised2, a_acceptedRound2, a_acceptedValue2, a_ownRound2, a_phase2, a_promisers2, a_promiserRound2, a_promiserValue2, a_learnedRound2, a_learnedFrom2, a_learnedValue2, a_slots2⟩ := v
  intro q hq hne
  obtain ⟨e1, e2, e3, e4, e5, e6, e7, e8, e9, e10, e11, e12, e13, e14, e15, e16⟩ := h q hq hne
  exact ⟨(pk_un hne).trans e1, (pk_un hne).trans e2, (pk_un hne).trans e3, (pk_un hne).trans e4, (pk_un hne).trans e5, (pk_un hne).trans e6, (pk_un hne).trans e7, (pk_un hne).trans e8, (pk_un hne).trans e9, (pk_un hne).trans e10, (pk_un hne).trans e11, (pk_un hne).trans e12, (pk_un hne).trans e13, fun j hj => (cd_fillO (by omega)).trans (e14 j hj), e15, e16⟩
theorem pg_ot_rf (p : Nat) (u : St2) : pg_ot p u u := by
  obtain ⟨f_rings, f_high, f_low, a_crashed, a_config, a_members, a_newestCut, a_reports, a_votes, a_myVote, a_promised, a_acceptedRound, a_acceptedValue, a_ownRound, a_phase, a_promisers, a_promiserRound, a_promiserValue, a_learnedRound, a_learnedFrom, a_learnedValue, a_slots⟩ := u
  exact fun q _ _ => ⟨rfl, rfl, rfl, rfl, rfl, rfl, rfl, rfl, rfl, rfl, rfl, rfl, rfl, fun _ _ => rfl, fun _ _ => rfl, fun _ _ => rfl⟩
def pg_st (g : pg_G) (k : Nat) (u : St2) : Prop := match u with
  | (f_rings, f_high, f_low, a_crashed, a_config, a_members, a_newestCut, a_reports, a_votes, a_myVote, a_promised, a_acceptedRound, a_acceptedValue, a_ownRound, a_phase, a_promisers, a_promiserRound, a_promiserValue, a_learnedRound, a_learnedFrom, a_learnedValue, a_slots) => pg_I g ∧ (∀ p, p < 16 → pg_at g k (f_rings, f_high, f_low, a_crashed, a_config, a_members, a_newestCut, a_reports, a_votes, a_myVote, a_promised, a_acceptedRound, a_acceptedValue, a_ownRound, a_phase, a_promisers, a_promiserRound, a_promiserValue, a_learnedRound, a_learnedFrom, a_learnedValue, a_slots) p) ∧ pg_sl g k a_slots
/-- what a call of process p leaves -/
def pg_res (g : pg_G) (k p : Nat) (u u' : St2) : Prop := match u with
  | (f_rings, f_high, f_low, a_crashed, a_config, a_members, a_newestCut, a_reports, a_votes, a_myVote, a_promised, a_acceptedRound, a_acceptedValue, a_ownRound, a_phase, a_promisers, a_promiserRound, a_promiserValue, a_learnedRound, a_learnedFrom, a_learnedValue, a_slots) => match u' with
    | (f_rings2, f_high2, f_low2, a_crashed2, a_config2, a_members2, a_newestCut2, a_reports2, a_votes2, a_myVote2, a_promised2, a_acceptedRound2, a_acceptedValue2, a_ownRound2, a_phase2, a_promisers2, a_promiserRound2, a_promiserValue2, a_learnedRound2, a_learnedFrom2, a_learnedValue2, a_slots2) => f_rings2 = f_rings ∧ f_high2 = f_high ∧ f_low2 = f_low ∧ pg_ot p (f_rings, f_high, f_low, a_crashed, a_config, a_members, a_newestCut, a_reports, a_votes, a_myVote, a_promised, a_acceptedRound, a_acceptedValue, a_ownRound, a_phase, a_promisers, a_promiserRound, a_promiserValue, a_learnedRound, a_learnedFrom, a_learnedValue, a_slots) (f_rings2, f_high2, f_low2, a_crashed2, a_config2, a_members2, a_newestCut2, a_reports2, a_votes2, a_myVote2, a_promised2, a_acceptedRound2, a_acceptedValue2, a_ownRound2, a_phase2, a_promisers2, a_promiserRound2, a_promiserValue2, a_learnedRound2, a_learnedFrom2, a_learnedValue2, a_slots2) ∧ (a_myVote p = -1 → ¬ a_myVote2 p = -1 → cd_st a_reports2 (p * 16) f_high f_low 16 = some (a_myVote2 p)) ∧
      ∃ g', pg_I g' ∧ pg_le g g' ∧ pg_own p g g' ∧ pg_e1 g g' ∧ pg_e2 g g' p (a_config2 p) (a_myVote2 p) ∧ pg_at g' (k + 1) (f_rings2, f_high2, f_low2, a_crashed2, a_config2, a_members2, a_newestCut2, a_reports2, a_votes2, a_myVote2, a_promised2, a_acceptedRound2, a_acceptedValue2, a_ownRound2, a_phase2, a_promisers2, a_promiserRound2, a_promiserValue2, a_learnedRound2, a_learnedFrom2, a_learnedValue2, a_slots2) p ∧ pg_sl g' (k + 1) a_slots2
theorem cd_st_b {rep : Nat → Int32} {b : Nat} {h l : Int32} : ∀ s, s ≤ 16 → ∀ m, cd_st rep b h l s = some m → ∀ i, i < 32 → bt m i = true → i < s := by
  intro s
  induction s with
  | zero =>
    intro _ m e i hi hb
    cases e
    rw [b_0] at hb
    exact absurd hb (by decide)
  | succ s ih =>
    intro hs m e i hi hb
    have step : cd_st rep b h l (s + 1) = (match cd_st rep b h l s with
        | none => none
        | some m => if h ≤ cd_ct (rep (b + s)) then some (m ||| (1 <<< (nI s &&& 31))) else if l ≤ cd_ct (rep (b + s)) then none else some m) := rfl
    rw [step] at e
    cases e0 : cd_st rep b h l s with
    | none => rw [e0] at e; exact absurd e (by simp)
    | some m0 =>
      rw [e0] at e
      dsimp only at e
      have ih := ih (by omega) m0 e0 i hi
      by_cases c1 : h ≤ cd_ct (rep (b + s))
      · rw [if_pos c1] at e
        cases e
        rw [b_or, cd_shl1 s (by omega) hi, Bool.or_eq_true_iff, decide_eq_true_iff] at hb
        rcases hb with a | a
        · have := ih a; omega
        · omega
      · rw [if_neg c1] at e
        by_cases c2 : l ≤ cd_ct (rep (b + s))
        · rw [if_pos c2] at e; exact absurd e (by simp)
        · rw [if_neg c2] at e
          cases e
          have := ih hb; omega
theorem cd_st_16 {rep : Nat → Int32} {b : Nat} {h l m : Int32} (e : cd_st rep b h l 16 = some m) : m &&& 65535 = m := by
  apply b_ext
  intro i hi
  rw [b_and, b_65535]
  cases hb : bt m i
  · rfl
  · rw [decide_eq_true (cd_st_b 16 (by omega) m e i hi hb)]; rfl
end PG7
