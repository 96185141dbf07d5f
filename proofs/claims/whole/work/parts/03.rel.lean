section CD3
/-! the two states: one but for the recorded promises and the slots -/
def cy_Q (pm pr pv pr' pv' : Nat → Int32) : Prop := ∀ p q, p < 16 → q < 16 → bt (pm p) q = true → pr' (p * 16 + q) = pr (p * 16 + q) ∧ pv' (p * 16 + q) = pv (p * 16 + q)
def cy_S (s t : Nat → Int32) : Prop := ∀ i, i < 32 → t (i * 7 + 6) = s (i * 7 + 6) ∧ (s (i * 7 + 6) = 0 → ∀ f, f < 7 → s (i * 7 + f) = 0) ∧ (¬ s (i * 7 + 6) = 0 → (∀ f, f < 7 → t (i * 7 + f) = s (i * 7 + f)) ∧ (∃ q, q < 16 ∧ s (i * 7 + 1) = nI q) ∧ (s (i * 7) = 1 → ∃ x, x < 16 ∧ s (i * 7 + 3) = nI x))
def cy_R (u : SX) (v : SY) : Prop := match u with
  | (f_rings, f_high, f_low, a_crashed, a_config, a_members, a_newestCut, a_reports, a_votes, a_myVote, a_promised, a_acceptedRound, a_acceptedValue, a_ownRound, a_phase, a_promisers, a_promiserRound, a_promiserValue, a_learnedRound, a_learnedFrom, a_learnedValue, a_slots) => ∃ a_pr a_pv a_sm : Nat → Int32, v = (f_rings, f_high, f_low, a_crashed, a_config, a_members, a_newestCut, a_myVote, a_promised, a_acceptedRound, a_acceptedValue, a_ownRound, a_phase, a_promisers, a_learnedRound, a_learnedFrom, a_learnedValue, a_reports, a_votes, a_pr, a_pv, a_sm) ∧ (∃ K, K ≤ 6 ∧ f_rings = nI K) ∧ cy_Q a_promisers a_promiserRound a_promiserValue a_pr a_pv ∧ cy_S a_slots a_sm
theorem cd_putO {s : Nat → Int32} {b j : Nat} {kind p c x y z d : Int32} (h : ¬ (b ≤ j ∧ j < b + 7)) : cd_put s b kind p c x y z d j = s j := by
  unfold cd_put
  rw [pk_un (by omega), pk_un (by omega), pk_un (by omega), pk_un (by omega), pk_un (by omega), pk_un (by omega), pk_un (by omega)]
theorem cd_put6 {s : Nat → Int32} {b : Nat} {kind p c x y z d : Int32} : cd_put s b kind p c x y z d (b + 6) = d := pk_us
theorem cd_put3 {s : Nat → Int32} {b : Nat} {kind p c x y z d : Int32} : cd_put s b kind p c x y z d (b + 3) = x := by
  unfold cd_put
  rw [pk_un (by omega), pk_un (by omega), pk_un (by omega), pk_us]
theorem cd_put1 {s : Nat → Int32} {b : Nat} {kind p c x y z d : Int32} : cd_put s b kind p c x y z d (b + 1) = p := by
  unfold cd_put
  rw [pk_un (by omega), pk_un (by omega), pk_un (by omega), pk_un (by omega), pk_un (by omega), pk_us]
theorem cd_put0 {s : Nat → Int32} {b : Nat} {kind p c x y z d : Int32} : cd_put s b kind p c x y z d b = kind := by
  unfold cd_put
  rw [pk_un (by omega), pk_un (by omega), pk_un (by omega), pk_un (by omega), pk_un (by omega), pk_un (by omega), pk_us]
theorem cd_putE {s t : Nat → Int32} {b : Nat} {kind p c x y z d : Int32} {f : Nat} (hf : f < 7) : cd_put s b kind p c x y z d (b + f) = cd_put t b kind p c x y z d (b + f) := by
  unfold cd_put upd
  by_cases h6 : b + f = b + 6
  · rw [if_pos h6, if_pos h6]
  by_cases h5 : b + f = b + 5
  · rw [if_neg h6, if_neg h6, if_pos h5, if_pos h5]
  by_cases h4 : b + f = b + 4
  · rw [if_neg h6, if_neg h6, if_neg h5, if_neg h5, if_pos h4, if_pos h4]
  by_cases h3 : b + f = b + 3
  · rw [if_neg h6, if_neg h6, if_neg h5, if_neg h5, if_neg h4, if_neg h4, if_pos h3, if_pos h3]
  by_cases h2 : b + f = b + 2
  · rw [if_neg h6, if_neg h6, if_neg h5, if_neg h5, if_neg h4, if_neg h4, if_neg h3, if_neg h3, if_pos h2, if_pos h2]
  by_cases h1 : b + f = b + 1
  · rw [if_neg h6, if_neg h6, if_neg h5, if_neg h5, if_neg h4, if_neg h4, if_neg h3, if_neg h3, if_neg h2, if_neg h2, if_pos h1, if_pos h1]
  have h0 : b + f = b := by omega
  rw [if_neg h6, if_neg h6, if_neg h5, if_neg h5, if_neg h4, if_neg h4, if_neg h3, if_neg h3, if_neg h2, if_neg h2, if_neg h1, if_neg h1, if_pos h0, if_pos h0]
theorem cd_fr_in {s : Nat → Int32} : ∀ {d j i : Nat}, cd_fr s d j = some i → i < j + d ∧ s (i * 7 + 6) = 0 := by
  intro d
  induction d with
  | zero => intro j i h; exact absurd h (by unfold cd_fr; exact fun z => nomatch z)
  | succ d ih =>
    intro j i h
    unfold cd_fr at h
    by_cases z : s (j * 7 + 6) = 0
    · rw [if_pos z] at h
      cases h
      exact ⟨by omega, z⟩
    · rw [if_neg z] at h
      have := ih h
      exact ⟨by omega, this.2⟩
theorem cd_fr_eq {s t : Nat → Int32} : ∀ {d j : Nat}, (∀ i, i < j + d → t (i * 7 + 6) = s (i * 7 + 6)) → cd_fr t d j = cd_fr s d j := by
  intro d
  induction d with
  | zero => intro j _; rfl
  | succ d ih =>
    intro j h
    unfold cd_fr
    rw [h j (by omega), ih (fun i hi => h i (by omega))]
theorem cy_S_send {s t : Nat → Int32} (S : cy_S s t) {p : Nat} (hp : p < 16) {c kind x y z d : Int32} (hx : kind = 1 → ∃ j, j < 16 ∧ x = nI j) : cy_S (cd_sd s (nI p) c kind x y z d) (cd_sd t (nI p) c kind x y z d) := by
  unfold cd_sd
  by_cases hd : d &&& 65535 = 0
  · rw [if_pos hd, if_pos hd]; exact S
  · rw [if_neg hd, if_neg hd, cd_fr_eq (s := s) (t := t) (fun i hi => (S i (by omega)).1)]
    cases e : cd_fr s 32 0 with
    | none => exact S
    | some i =>
      have hi := cd_fr_in e
      dsimp only
      intro j hj
      by_cases hji : j = i
      · subst hji
        refine ⟨by rw [cd_put6, cd_put6], fun z0 => ?_, fun _ => ⟨fun f hf => cd_putE hf, ⟨p, hp, cd_put1⟩, fun k1 => ?_⟩⟩
        · rw [cd_put6] at z0; exact absurd z0 hd
        · rw [cd_put0] at k1
          obtain ⟨j2, h2, e2⟩ := hx k1
          exact ⟨j2, h2, cd_put3.trans e2⟩
      · have o : ∀ (a : Nat → Int32) (f : Nat), f < 7 → cd_put a (i * 7) kind (nI p) c x y z (d &&& 65535) (j * 7 + f) = a (j * 7 + f) := fun a f hf => cd_putO (by omega)
        have o0 : ∀ (a : Nat → Int32), cd_put a (i * 7) kind (nI p) c x y z (d &&& 65535) (j * 7) = a (j * 7) := fun a => cd_putO (by omega)
        obtain ⟨h1, h2, h3⟩ := S j hj
        refine ⟨by rw [o _ 6 (by omega), o _ 6 (by omega)]; exact h1, fun z0 f hf => ?_, fun n0 => ?_⟩
        · rw [o _ 6 (by omega)] at z0
          rw [o _ f hf]; exact h2 z0 f hf
        · rw [o _ 6 (by omega)] at n0
          obtain ⟨a, b, cc⟩ := h3 n0
          refine ⟨fun f hf => by rw [o _ f hf, o _ f hf]; exact a f hf, ?_, fun k1 => ?_⟩
          · rw [o _ 1 (by omega)]; exact b
          · rw [o0] at k1
            rw [o _ 3 (by omega)]; exact cc k1
theorem cy_S_off {s t : Nat → Int32} (S : cy_S s t) {i p : Nat} (hi : i < 32) : cy_S (cd_off s i p) (upd t (i * 7 + 6) (t (i * 7 + 6) &&& cd_not p)) := by
  intro j hj
  obtain ⟨h1, h2, h3⟩ := S j hj
  by_cases hji : j = i
  · subst hji
    unfold cd_off
    by_cases z : s (j * 7 + 6) &&& cd_not p = 0
    · rw [if_pos z]
      refine ⟨?_, fun _ f hf => cd_fillI (by omega) (by omega), fun n => absurd (cd_fillI (by omega) (by omega)) n⟩
      rw [pk_us, cd_fillI (by omega) (by omega), h1, z]
    · rw [if_neg z, pk_us, pk_us, h1]
      have n0 : ¬ s (j * 7 + 6) = 0 := by
        intro e
        rw [e] at z
        exact z (Int32.zero_and)
      obtain ⟨a, b, c⟩ := h3 n0
      refine ⟨rfl, fun e => absurd e z, fun _ => ⟨fun f hf => ?_, ?_, fun k1 => ?_⟩⟩
      · by_cases h6 : f = 6
        · subst h6; rw [pk_us, pk_us]
        · rw [pk_un (by omega), pk_un (by omega)]; exact a f hf
      · rw [pk_un (by omega)]; exact b
      · rw [pk_un (by omega)] at k1
        rw [pk_un (by omega)]; exact c k1
  · have o : ∀ f, f < 7 → cd_off s i p (j * 7 + f) = s (j * 7 + f) := by
      intro f hf
      unfold cd_off
      by_cases z : s (i * 7 + 6) &&& cd_not p = 0
      · rw [if_pos z, cd_fillO (by omega), pk_un (by omega)]
      · rw [if_neg z, pk_un (by omega)]
    have o0 : cd_off s i p (j * 7) = s (j * 7) := o 0 (by omega)
    refine ⟨by rw [o 6 (by omega), pk_un (by omega)]; exact h1, fun z0 f hf => ?_, fun n0 => ?_⟩
    · rw [o 6 (by omega)] at z0
      rw [o f hf]; exact h2 z0 f hf
    · rw [o 6 (by omega)] at n0
      obtain ⟨a, b, cc⟩ := h3 n0
      refine ⟨fun f hf => by rw [o f hf, pk_un (by omega)]; exact a f hf, ?_, fun k1 => ?_⟩
      · rw [o 1 (by omega)]; exact b
      · rw [o0] at k1
        rw [o 3 (by omega)]; exact cc k1
/-! the nearest on a ring, whatever the first bound -/
theorem cd_nr_eq (m s r : Int32) : ∀ y, cd_nr m s r 99 y = cd_nr m s r 17 y ∨ (cd_nr m s r 99 y = (-1, 99) ∧ cd_nr m s r 17 y = (-1, 17)) := by
  intro y
  induction y with
  | zero => exact Or.inr ⟨rfl, rfl⟩
  | succ y ih =>
    have h17 : cd_dst r s (nI y) < 17 := cd_mr _
    have h99 : cd_dst r s (nI y) < 99 := Int32.lt_trans h17 (by decide)
    unfold cd_nr
    rcases ih with e | ⟨e1, e2⟩
    · rw [e]; exact Or.inl rfl
    · rw [e1, e2]
      by_cases c : ¬ nI y = s ∧ bt m y = true
      · left
        rw [if_pos ⟨c.1, c.2, h99⟩, if_pos ⟨c.1, c.2, h17⟩]
      · right
        rw [if_neg (fun z => c ⟨z.1, z.2.1⟩), if_neg (fun z => c ⟨z.1, z.2.1⟩)]
        exact ⟨rfl, rfl⟩
theorem cd_nr_obs (m s r : Int32) : (cd_nr m s r 99 16).1 = cd_obs m s r := by
  unfold cd_obs
  rcases cd_nr_eq m s r 16 with e | ⟨e1, e2⟩
  · rw [e]
  · rw [e1, e2]
end CD3
