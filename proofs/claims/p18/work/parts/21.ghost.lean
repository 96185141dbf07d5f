section PG1
/-! counting below n -/
def pg_ct (S : Nat → Bool) : Nat → Nat
  | 0 => 0
  | i + 1 => pg_ct S i + (if S i = true then 1 else 0)
theorem pg_ctS (S : Nat → Bool) (i : Nat) : pg_ct S (i + 1) = pg_ct S i + (if S i = true then 1 else 0) := rfl
theorem pg_ct_mono {S T : Nat → Bool} : ∀ n, (∀ i, i < n → S i = true → T i = true) → pg_ct S n ≤ pg_ct T n := by
  intro n
  induction n with
  | zero => intro _; exact Nat.le_refl 0
  | succ n ih =>
    intro h
    have h1 := ih (fun i hi => h i (by omega))
    have h2 := h n (by omega)
    rw [pg_ctS, pg_ctS]
    by_cases e : S n = true
    · rw [if_pos e, if_pos (h2 e)]; omega
    · rw [if_neg e]
      by_cases e2 : T n = true
      · rw [if_pos e2]; omega
      · rw [if_neg e2]; omega
theorem pg_ct_congr {S T : Nat → Bool} (n : Nat) (h : ∀ i, i < n → S i = T i) : pg_ct S n = pg_ct T n :=
  Nat.le_antisymm (pg_ct_mono n (fun i hi e => by rw [← h i hi]; exact e)) (pg_ct_mono n (fun i hi e => by rw [h i hi]; exact e))
theorem pg_ct_ie (S T : Nat → Bool) : ∀ n, pg_ct S n + pg_ct T n = pg_ct (fun i => S i || T i) n + pg_ct (fun i => S i && T i) n := by
  intro n
  induction n with
  | zero => rfl
  | succ n ih =>
    rw [pg_ctS, pg_ctS, pg_ctS, pg_ctS]
    cases S n <;> cases T n <;> simp <;> omega
theorem pg_ct_pos {S : Nat → Bool} : ∀ n, 0 < pg_ct S n → ∃ i, i < n ∧ S i = true := by
  intro n
  induction n with
  | zero => intro h; exact absurd h (Nat.lt_irrefl 0)
  | succ n ih =>
    intro h
    rw [pg_ctS] at h
    by_cases e : S n = true
    · exact ⟨n, by omega, e⟩
    · rw [if_neg e] at h
      obtain ⟨i, hi, hs⟩ := ih (by omega)
      exact ⟨i, by omega, hs⟩
theorem pg_ct_zero {S : Nat → Bool} (n : Nat) (h : ∀ i, i < n → S i = false) : pg_ct S n = 0 := by
  rcases Nat.eq_zero_or_pos (pg_ct S n) with e | e
  · exact e
  · obtain ⟨i, hi, hs⟩ := pg_ct_pos n e
    rw [h i hi] at hs
    exact absurd hs (by decide)
theorem pg_meet {S T U : Nat → Bool} {n : Nat} (hS : ∀ i, i < n → S i = true → U i = true) (hT : ∀ i, i < n → T i = true → U i = true) : pg_ct S n + pg_ct T n ≤ pg_ct U n + pg_ct (fun i => S i && T i) n := by
  have h := pg_ct_ie S T n
  have h2 : pg_ct (fun i => S i || T i) n ≤ pg_ct U n := pg_ct_mono n (fun i hi e => by
    rcases Bool.or_eq_true_iff.mp e with a | a
    · exact hS i hi a
    · exact hT i hi a)
  omega
/-! the history: the greatest configuration, members, cuts; votes, promises, acceptances, values of rounds -/
abbrev pg_G : Type := Nat × (Nat → Int32) × (Nat → Int32) × (Nat → Nat → Int32) × (Nat → Nat → Nat) × (Nat → Nat → Nat → Bool) × (Nat → Nat → Int32)
def pg_K (g : pg_G) : Nat := g.1
def pg_M (g : pg_G) : Nat → Int32 := g.2.1
def pg_C (g : pg_G) : Nat → Int32 := g.2.2.1
def pg_V (g : pg_G) : Nat → Nat → Int32 := g.2.2.2.1
def pg_P (g : pg_G) : Nat → Nat → Nat := g.2.2.2.2.1
def pg_A (g : pg_G) : Nat → Nat → Nat → Bool := g.2.2.2.2.2.1
def pg_W (g : pg_G) : Nat → Nat → Int32 := g.2.2.2.2.2.2
def pg_m (g : pg_G) (c : Nat) : Nat := pg_ct (fun q => bt (pg_M g c) q) 16
def pg_fq (m : Nat) : Nat := (3 * m + 3) / 4
def pg_cq (m : Nat) : Nat := m / 2 + 1
def pg_safe (g : pg_G) (c r : Nat) (v : Int32) : Prop := ∃ Q : Nat → Bool, (∀ q, q < 16 → Q q = true → bt (pg_M g c) q = true ∧ r ≤ pg_P g c q) ∧ pg_cq (pg_m g c) ≤ pg_ct Q 16 ∧
  ((∃ r1, 16 ≤ r1 ∧ r1 < r ∧ pg_W g c r1 = v ∧ ¬ v = -1 ∧ ∀ q, q < 16 → Q q = true → ∀ r', r1 < r' → r' < r → pg_A g c q r' = false) ∨
   ((∀ q, q < 16 → Q q = true → ∀ r', r' < r → pg_A g c q r' = false) ∧ ∀ w, ¬ w = v → ¬ w = -1 → pg_ct (fun q => Q q && decide (pg_V g c q = w)) 16 + pg_m g c < pg_fq (pg_m g c) + pg_cq (pg_m g c)))
def pg_dec (g : pg_G) (c : Nat) (v : Int32) : Prop := ¬ v = -1 ∧
  ((pg_fq (pg_m g c) ≤ pg_ct (fun q => decide (pg_V g c q = v)) 16 ∧ ∃ q, q < 16 ∧ pg_V g c q = v) ∨ ∃ r, pg_W g c r = v ∧ pg_cq (pg_m g c) ≤ pg_ct (fun q => pg_A g c q r) 16)
def pg_I (g : pg_G) : Prop :=
  (∀ c q r, q < 16 → pg_A g c q r = true → ¬ pg_W g c r = -1 ∧ bt (pg_M g c) q = true ∧ r ≤ pg_P g c q) ∧
  (∀ c q, q < 16 → ¬ pg_V g c q = -1 → bt (pg_M g c) q = true ∧ ¬ pg_V g c q = 0 ∧ pg_V g c q &&& 65535 = pg_V g c q) ∧
  (∀ c r, ¬ pg_W g c r = -1 → 16 ≤ r ∧ pg_safe g c r (pg_W g c r) ∧ ∃ q, q < 16 ∧ pg_V g c q = pg_W g c r) ∧
  (∀ c, pg_K g < c → (∀ q, q < 16 → pg_V g c q = -1 ∧ pg_P g c q = 0) ∧ ∀ r, pg_W g c r = -1) ∧
  (∀ c, c < pg_K g → pg_M g (c + 1) = pg_M g c ^^^ pg_C g (c + 1) ∧ pg_dec g c (pg_C g (c + 1)))
/-! a value that a classic quorum accepted is every later round's -/
theorem pg_classic {g : pg_G} (I : pg_I g) {c r : Nat} (h : pg_cq (pg_m g c) ≤ pg_ct (fun q => pg_A g c q r) 16) : ∀ n r2, r2 < n → r < r2 → ¬ pg_W g c r2 = -1 → pg_W g c r2 = pg_W g c r := by
  intro n
  induction n with
  | zero => intro r2 h2; omega
  | succ n ih =>
    intro r2 hn hr hw
    obtain ⟨_, ⟨Q, hQ, hq, hc⟩, _⟩ := I.2.2.1 c r2 hw
    have hm := pg_meet (S := fun q => pg_A g c q r) (T := Q) (U := fun q => bt (pg_M g c) q) (n := 16) (fun i hi e => (I.1 c i r hi e).2.1) (fun i hi e => (hQ i hi e).1)
    have hm2 : pg_ct (fun q => bt (pg_M g c) q) 16 = pg_m g c := rfl
    have hpos : 0 < pg_ct (fun i => pg_A g c i r && Q i) 16 := by
      unfold pg_cq at h hq
      omega
    obtain ⟨q, hq16, hqq⟩ := pg_ct_pos 16 hpos
    have hqq := Bool.and_eq_true_iff.mp hqq
    have hA : pg_A g c q r = true := hqq.1
    rcases hc with ⟨r1, h16, h1, hW, hv, hno⟩ | ⟨hno, _⟩
    · rcases Nat.lt_trichotomy r r1 with a | a | a
      · rw [← hW]
        exact ih r1 (by omega) a (by rw [hW]; exact hv)
      · rw [a]; exact hW.symm
      · have := hno q hq16 hqq.2 r a hr
        rw [this] at hA
        exact absurd hA (by decide)
    · have := hno q hq16 hqq.2 r hr
      rw [this] at hA
      exact absurd hA (by decide)
/-! a value that a fast quorum voted for is every round's -/
theorem pg_fast {g : pg_G} (I : pg_I g) {c : Nat} {w : Int32} (hw1 : ¬ w = -1) (h : pg_fq (pg_m g c) ≤ pg_ct (fun q => decide (pg_V g c q = w)) 16) : ∀ n r, r < n → ¬ pg_W g c r = -1 → pg_W g c r = w := by
  intro n
  induction n with
  | zero => intro r h2; omega
  | succ n ih =>
    intro r hn hw
    obtain ⟨_, ⟨Q, hQ, hq, hc⟩, _⟩ := I.2.2.1 c r hw
    rcases hc with ⟨r1, h16, h1, hW, hv, hno⟩ | ⟨hno, hcnt⟩
    · rw [← hW]
      exact ih r1 (by omega) (by rw [hW]; exact hv)
    · by_cases e : w = pg_W g c r
      · exact e.symm
      · have hk := hcnt w e hw1
        have hm := pg_meet (S := Q) (T := fun q => decide (pg_V g c q = w)) (U := fun q => bt (pg_M g c) q) (n := 16) (fun i hi e => (hQ i hi e).1) (fun i hi e => (I.2.1 c i hi (by rw [of_decide_eq_true e]; exact hw1)).1)
        have hm2 : pg_ct (fun q => bt (pg_M g c) q) 16 = pg_m g c := rfl
        omega
theorem pg_agree {g : pg_G} (I : pg_I g) {c : Nat} {v w : Int32} (hv : pg_dec g c v) (hw : pg_dec g c w) : v = w := by
  obtain ⟨v1, hv⟩ := hv
  obtain ⟨w1, hw⟩ := hw
  rcases hv with ⟨hv, qv, qv16, hqv⟩ | ⟨r, hr, hv⟩
  · rcases hw with ⟨hw, _⟩ | ⟨r, hr, hw⟩
    · by_cases e : v = w
      · exact e
      · exfalso
        have mem : ∀ x : Int32, ¬ x = -1 → ∀ i, i < 16 → decide (pg_V g c i = x) = true → bt (pg_M g c) i = true := fun x hx i hi e => (I.2.1 c i hi (by rw [of_decide_eq_true e]; exact hx)).1
        have hm := pg_meet (S := fun q => decide (pg_V g c q = v)) (T := fun q => decide (pg_V g c q = w)) (U := fun q => bt (pg_M g c) q) (n := 16) (mem v v1) (mem w w1)
        have hm2 : pg_ct (fun q => bt (pg_M g c) q) 16 = pg_m g c := rfl
        have h0 : pg_ct (fun i => decide (pg_V g c i = v) && decide (pg_V g c i = w)) 16 = 0 := pg_ct_zero 16 (fun i hi => by
          by_cases a : pg_V g c i = v
          · show (decide (pg_V g c i = v) && decide (pg_V g c i = w)) = false
            rw [decide_eq_false (fun z => e (a.symm.trans z) : ¬ pg_V g c i = w), Bool.and_false]
          · show (decide (pg_V g c i = v) && decide (pg_V g c i = w)) = false
            rw [decide_eq_false a, Bool.false_and])
        have hp : 0 < pg_m g c := by
          have hb := mem v v1 qv qv16 (decide_eq_true hqv)
          rcases Nat.eq_zero_or_pos (pg_m g c) with z | z
          · have : pg_ct (fun q => decide (pg_V g c q = v)) 16 ≤ pg_m g c := pg_ct_mono 16 (mem v v1)
            have h1 : 0 < pg_ct (fun q => decide (pg_V g c q = v)) 16 := by
              rcases Nat.eq_zero_or_pos (pg_ct (fun q => decide (pg_V g c q = v)) 16) with y | y
              · exfalso
                have hle : pg_ct (fun q => decide (q = qv)) 16 ≤ pg_ct (fun q => decide (pg_V g c q = v)) 16 := pg_ct_mono 16 (fun i _ e => decide_eq_true (by rw [of_decide_eq_true e]; exact hqv))
                have hone : ∀ n, qv < n → 0 < pg_ct (fun q => decide (q = qv)) n := by
                  intro n
                  induction n with
                  | zero => intro h; omega
                  | succ n ih =>
                    intro h
                    rw [pg_ctS]
                    by_cases e : n = qv
                    · rw [if_pos (decide_eq_true e)]; omega
                    · have := ih (by omega)
                      omega
                have := hone 16 qv16
                omega
              · exact y
            omega
          · exact z
        unfold pg_fq at hv hw
        omega
    · have := pg_fast I v1 hv (r + 1) r (by omega) (by rw [hr]; exact w1)
      rw [hr] at this
      exact this.symm
  · rcases hw with ⟨hw, _⟩ | ⟨r2, hr2, hw⟩
    · have := pg_fast I w1 hw (r + 1) r (by omega) (by rw [hr]; exact v1)
      rw [hr] at this
      exact this
    · rcases Nat.lt_trichotomy r r2 with a | a | a
      · have := pg_classic I hv (r2 + 1) r2 (by omega) a (by rw [hr2]; exact w1)
        rw [hr, hr2] at this
        exact this.symm
      · subst a
        exact hr.symm.trans hr2
      · have := pg_classic I hw (r + 1) r (by omega) a (by rw [hr]; exact v1)
        rw [hr, hr2] at this
        exact this
end PG1
