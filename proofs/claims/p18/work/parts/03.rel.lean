section CD3
theorem cd_putO {s : Nat → Int32} {b j : Nat} {kind p c x y z d : Int32} (h : ¬ (b ≤ j ∧ j < b + 7)) : cd_put s b kind p c x y z d j = s j := by
  unfold cd_put
  rw [pk_un (by omega), pk_un (by omega), pk_un (by omega), pk_un (by omega), pk_un (by omega), pk_un (by omega), pk_un (by omega)]
theorem cd_put6 {s : Nat → Int32} {b : Nat} {kind p c x y z d : Int32} : cd_put s b kind p c x y z d (b + 6) = d := pk_us
theorem cd_put3 {s : Nat → Int32} {b : Nat} {kind p c x y z d : Int32} : cd_put s b kind p c x y z d (b + 3) = x := by
  unfold cd_put
  rw [pk_un (by omega), pk_un (by omega), pk_un (by omega), pk_us]
theorem cd_put1 {s : Nat → Int32} {b : Nat} {kind p c x y z d : Int32} : cd_put s b kind p c x y z d (b + 1) = p := by
  unfold cd_put
  rw [pk_un (by omega), pk_un (by omega), pk_un (by omega), pk_un (by omega), pk_un (by omega), pk_us]
theorem cd_put0 {s : Nat → Int32} {b : Nat} {kind p c x y z d : Int32} : cd_put s b kind p c x y z d b = kind := by
  unfold cd_put
  rw [pk_un (by omega), pk_un (by omega), pk_un (by omega), pk_un (by omega), pk_un (by omega), pk_un (by omega), pk_us]
theorem cd_putE {s t : Nat → Int32} {b : Nat} {kind p c x y z d : Int32} {f : Nat} (hf : f < 7) : cd_put s b kind p c x y z d (b + f) = cd_put t b kind p c x y z d (b + f) := by
  unfold cd_put upd
  by_cases h6 : b + f = b + 6
  · rw [if_pos h6, if_pos h6]
  by_cases h5 : b + f = b + 5
  · rw [if_neg h6, if_neg h6, if_pos h5, if_pos h5]
  by_cases h4 : b + f = b + 4
  · rw [if_neg h6, if_neg h6, if_neg h5, if_neg h5, if_pos h4, if_pos h4]
  by_cases h3 : b + f = b + 3
  · rw [if_neg h6, if_neg h6, if_neg h5, if_neg h5, if_neg h4, if_neg h4, if_pos h3, if_pos h3]
  by_cases h2 : b + f = b + 2
  · rw [if_neg h6, if_neg h6, if_neg h5, if_neg h5, if_neg h4, if_neg h4, if_neg h3, if_neg h3, if_pos h2, if_pos h2]
  by_cases h1 : b + f = b + 1
  · rw [if_neg h6, if_neg h6, if_neg h5, if_neg h5, if_neg h4, if_neg h4, if_neg h3, if_neg h3, if_neg h2, if_neg h2, if_pos h1, if_pos h1]
  have h0 : b + f = b := by omega
  rw [if_neg h6, if_neg h6, if_neg h5, if_neg h5, if_neg h4, if_neg h4, if_neg h3, if_neg h3, if_neg h2, if_neg h2, if_neg h1, if_neg h1, if_pos h0, if_pos h0]
theorem cd_fr_in {s : Nat → Int32} : ∀ {d j i : Nat}, cd_fr s d j = some i → i < j + d ∧ s (i * 7 + 6) = 0 := by
  intro d
  induction d with
  | zero => intro j i h; exact absurd h (by unfold cd_fr; exact fun z => nomatch z)
  | succ d ih =>
    intro j i h
    unfold cd_fr at h
    by_cases z : s (j * 7 + 6) = 0
    · rw [if_pos z] at h
      cases h
      exact ⟨by omega, z⟩
    · rw [if_neg z] at h
      have := ih h
      exact ⟨by omega, this.2⟩
theorem cd_fr_eq {s t : Nat → Int32} : ∀ {d j : Nat}, (∀ i, i < j + d → t (i * 7 + 6) = s (i * 7 + 6)) → cd_fr t d j = cd_fr s d j := by
  intro d
  induction d with
  | zero => intro j _; rfl
  | succ d ih =>
    intro j h
    unfold cd_fr
    rw [h j (by omega), ih (fun i hi => h i (by omega))]
end CD3
