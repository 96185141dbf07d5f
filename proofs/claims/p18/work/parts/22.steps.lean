section PG2
/-! a later history -/
def pg_le (g g' : pg_G) : Prop :=
  pg_K g ≤ pg_K g' ∧
  (∀ c, c ≤ pg_K g → pg_M g' c = pg_M g c ∧ pg_C g' c = pg_C g c) ∧
  (∀ c q, q < 16 → pg_V g' c q = pg_V g c q ∨ (pg_V g c q = -1 ∧ pg_P g c q = 0)) ∧
  (∀ c q, q < 16 → pg_P g c q ≤ pg_P g' c q) ∧
  (∀ c q r, q < 16 → (pg_A g c q r = true → pg_A g' c q r = true) ∧ (pg_A g' c q r = true → pg_A g c q r = true ∨ pg_P g c q ≤ r)) ∧
  (∀ c r, ¬ pg_W g c r = -1 → pg_W g' c r = pg_W g c r)
theorem pg_le_rf (g : pg_G) : pg_le g g := ⟨Nat.le_refl _, fun _ _ => ⟨rfl, rfl⟩, fun _ _ _ => Or.inl rfl, fun _ _ _ => Nat.le_refl _, fun _ _ _ _ => ⟨fun h => h, fun h => Or.inl h⟩, fun _ _ _ => rfl⟩
theorem pg_le_V {g g' : pg_G} (L : pg_le g g') {c q : Nat} (hq : q < 16) (h : ¬ pg_V g c q = -1) : pg_V g' c q = pg_V g c q := by
  rcases L.2.2.1 c q hq with e | e
  · exact e
  · exact absurd e.1 h
theorem pg_le_VP {g g' : pg_G} (L : pg_le g g') {c q : Nat} (hq : q < 16) (h : 0 < pg_P g c q) : pg_V g' c q = pg_V g c q := by
  rcases L.2.2.1 c q hq with e | e
  · exact e
  · omega
theorem pg_le_A {g g' : pg_G} (L : pg_le g g') {c q r : Nat} (hq : q < 16) (h : pg_A g c q r = false) (hr : r < pg_P g c q) : pg_A g' c q r = false := by
  cases e : pg_A g' c q r
  · rfl
  · rcases (L.2.2.2.2.1 c q r hq).2 e with a | a
    · rw [h] at a; exact absurd a (by decide)
    · omega
theorem pg_le_m {g g' : pg_G} (L : pg_le g g') {c : Nat} (hc : c ≤ pg_K g) : pg_m g' c = pg_m g c := by
  unfold pg_m
  rw [(L.2.1 c hc).1]
theorem pg_safe_up {g g' : pg_G} (L : pg_le g g') {c r : Nat} {v : Int32} (hc : c ≤ pg_K g) (hr : 16 ≤ r) (h : pg_safe g c r v) : pg_safe g' c r v := by
  obtain ⟨Q, hQ, hq, hh⟩ := h
  refine ⟨Q, fun q hq e => ?_, by rw [pg_le_m L hc]; exact hq, ?_⟩
  · have := hQ q hq e
    exact ⟨by rw [(L.2.1 c hc).1]; exact this.1, Nat.le_trans this.2 (L.2.2.2.1 c q hq)⟩
  · rcases hh with ⟨r1, h16, h1, hW, hv, hno⟩ | ⟨hno, hcnt⟩
    · refine Or.inl ⟨r1, h16, h1, by rw [L.2.2.2.2.2 c r1 (by rw [hW]; exact hv)]; exact hW, hv, fun q hq e r' a b => ?_⟩
      exact pg_le_A L hq (hno q hq e r' a b) (by have := (hQ q hq e).2; omega)
    · refine Or.inr ⟨fun q hq e r' a => pg_le_A L hq (hno q hq e r' a) (by have := (hQ q hq e).2; omega), fun w hw hw1 => ?_⟩
      rw [pg_le_m L hc]
      have e : pg_ct (fun q => Q q && decide (pg_V g' c q = w)) 16 = pg_ct (fun q => Q q && decide (pg_V g c q = w)) 16 := pg_ct_congr 16 (fun i hi => by
        cases e : Q i
        · rfl
        · rw [pg_le_VP L hi (by have := (hQ i hi e).2; omega)])
      rw [e]
      exact hcnt w hw hw1
theorem pg_dec_up {g g' : pg_G} (L : pg_le g g') {c : Nat} {v : Int32} (hc : c ≤ pg_K g) (h : pg_dec g c v) : pg_dec g' c v := by
  obtain ⟨hv, h⟩ := h
  refine ⟨hv, ?_⟩
  rw [pg_le_m L hc]
  rcases h with ⟨h, q, hq, e⟩ | ⟨r, hr, h⟩
  · refine Or.inl ⟨Nat.le_trans h (pg_ct_mono 16 (fun i hi e => ?_)), q, hq, by rw [pg_le_V L hq (by rw [e]; exact hv)]; exact e⟩
    have e := of_decide_eq_true e
    exact decide_eq_true (by rw [pg_le_V L hi (by rw [e]; exact hv)]; exact e)
  · exact Or.inr ⟨r, by rw [L.2.2.2.2.2 c r (by rw [hr]; exact hv)]; exact hr, Nat.le_trans h (pg_ct_mono 16 (fun i hi e => (L.2.2.2.2.1 c i r hi).1 e))⟩
theorem pg_I_up {g g' : pg_G} (I : pg_I g) (L : pg_le g g')
    (hA : ∀ c q r, q < 16 → pg_A g' c q r = true → pg_A g c q r = true ∨ (¬ pg_W g' c r = -1 ∧ bt (pg_M g' c) q = true ∧ r ≤ pg_P g' c q))
    (hV : ∀ c q, q < 16 → pg_V g' c q = pg_V g c q ∨ (bt (pg_M g' c) q = true ∧ ¬ pg_V g' c q = 0 ∧ pg_V g' c q &&& 65535 = pg_V g' c q))
    (hW : ∀ c r, pg_W g' c r = pg_W g c r ∨ (16 ≤ r ∧ pg_safe g' c r (pg_W g' c r) ∧ ∃ q, q < 16 ∧ pg_V g' c q = pg_W g' c r))
    (hK : ∀ c, pg_K g' < c → (∀ q, q < 16 → pg_V g' c q = -1 ∧ pg_P g' c q = 0) ∧ ∀ r, pg_W g' c r = -1)
    (hD : ∀ c, pg_K g ≤ c → c < pg_K g' → pg_M g' (c + 1) = pg_M g' c ^^^ pg_C g' (c + 1) ∧ pg_dec g' c (pg_C g' (c + 1))) : pg_I g' := by
  obtain ⟨i1, i2, i3, i4, i5⟩ := I
  have kW : ∀ c r, ¬ pg_W g c r = -1 → c ≤ pg_K g := fun c r h => by
    rcases Nat.lt_or_ge (pg_K g) c with a | a
    · exact absurd ((i4 c a).2 r) h
    · exact a
  have kV : ∀ c q, q < 16 → ¬ pg_V g c q = -1 → c ≤ pg_K g := fun c q hq h => by
    rcases Nat.lt_or_ge (pg_K g) c with a | a
    · exact absurd ((i4 c a).1 q hq).1 h
    · exact a
  refine ⟨fun c q r hq e => ?_, fun c q hq e => ?_, fun c r e => ?_, hK, fun c hc => ?_⟩
  · rcases hA c q r hq e with a | a
    · obtain ⟨h1, h2, h3⟩ := i1 c q r hq a
      refine ⟨by rw [L.2.2.2.2.2 c r h1]; exact h1, by rw [(L.2.1 c (kW c r h1)).1]; exact h2, Nat.le_trans h3 (L.2.2.2.1 c q hq)⟩
    · exact a
  · rcases hV c q hq with a | a
    · rw [a] at e ⊢
      have h := i2 c q hq e
      exact ⟨by rw [(L.2.1 c (kV c q hq e)).1]; exact h.1, h.2⟩
    · exact a
  · rcases hW c r with a | a
    · rw [a] at e ⊢
      obtain ⟨h1, h2, q, hq, h3⟩ := i3 c r e
      exact ⟨h1, pg_safe_up L (kW c r e) h1 h2, q, hq, by rw [pg_le_V L hq (by rw [h3]; exact e)]; exact h3⟩
    · exact a
  · rcases Nat.lt_or_ge c (pg_K g) with a | a
    · have h := i5 c a
      rw [(L.2.1 (c + 1) (by omega)).1, (L.2.1 (c + 1) (by omega)).2, (L.2.1 c (by omega)).1]
      exact ⟨h.1, pg_dec_up L (by omega) h.2⟩
    · exact hD c a hc
/-! the five steps -/
def pg_vote (g : pg_G) (c p : Nat) (x : Int32) : pg_G := (pg_K g, pg_M g, pg_C g, fun c' q => if c' = c ∧ q = p then x else pg_V g c' q, pg_P g, pg_A g, pg_W g)
def pg_prom (g : pg_G) (c p r : Nat) : pg_G := (pg_K g, pg_M g, pg_C g, pg_V g, fun c' q => if c' = c ∧ q = p then r else pg_P g c' q, pg_A g, pg_W g)
def pg_acc (g : pg_G) (c p r : Nat) : pg_G := (pg_K g, pg_M g, pg_C g, pg_V g, fun c' q => if c' = c ∧ q = p then r else pg_P g c' q, fun c' q r' => if c' = c ∧ q = p ∧ r' = r then true else pg_A g c' q r', pg_W g)
def pg_prop (g : pg_G) (c r : Nat) (v : Int32) : pg_G := (pg_K g, pg_M g, pg_C g, pg_V g, pg_P g, pg_A g, fun c' r' => if c' = c ∧ r' = r then v else pg_W g c' r')
def pg_inst (g : pg_G) (v : Int32) : pg_G := (pg_K g + 1, fun c => if c = pg_K g + 1 then pg_M g (pg_K g) ^^^ v else pg_M g c, fun c => if c = pg_K g + 1 then v else pg_C g c, pg_V g, pg_P g, pg_A g, pg_W g)
/-- only what is p's own has changed -/
def pg_own (p : Nat) (g g' : pg_G) : Prop := (∀ c q, q < 16 → ¬ q = p → pg_V g' c q = pg_V g c q ∧ pg_P g' c q = pg_P g c q ∧ ∀ r, pg_A g' c q r = pg_A g c q r) ∧ ∀ c r, ¬ r % 16 = p → pg_W g' c r = pg_W g c r
theorem pg_own_rf (p : Nat) (g : pg_G) : pg_own p g g := ⟨fun _ _ _ _ => ⟨rfl, rfl, fun _ => rfl⟩, fun _ _ _ => rfl⟩
theorem pg_vote_ok {g : pg_G} (I : pg_I g) {c p : Nat} {x : Int32} (hc : c ≤ pg_K g) (hp : p < 16) (h0 : pg_P g c p = 0) (hv : pg_V g c p = -1) (hm : bt (pg_M g c) p = true) (hx : ¬ x = 0) (hx2 : x &&& 65535 = x) : pg_I (pg_vote g c p x) ∧ pg_le g (pg_vote g c p x) ∧ pg_own p g (pg_vote g c p x) := by
  have L : pg_le g (pg_vote g c p x) := by
    refine ⟨Nat.le_refl _, fun _ _ => ⟨rfl, rfl⟩, fun c' q hq => ?_, fun _ _ _ => Nat.le_refl _, fun _ _ _ _ => ⟨fun h => h, fun h => Or.inl h⟩, fun _ _ _ => rfl⟩
    by_cases e : c' = c ∧ q = p
    · obtain ⟨rfl, rfl⟩ := e
      exact Or.inr ⟨hv, h0⟩
    · exact Or.inl (if_neg e)
  refine ⟨pg_I_up I L (fun c q r _ e => Or.inl e) (fun c' q hq => ?_) (fun _ _ => Or.inl rfl) (fun c' hc' => ⟨fun q hq => ?_, (I.2.2.2.1 c' hc').2⟩) (fun c' a b => absurd b (Nat.not_lt.mpr a)), L, fun c' q _ hqp => ⟨if_neg (fun z => hqp z.2), rfl, fun _ => rfl⟩, fun _ _ _ => rfl⟩
  · by_cases e : c' = c ∧ q = p
    · refine Or.inr ?_
      have : pg_V (pg_vote g c p x) c' q = x := if_pos e
      rw [this]
      obtain ⟨rfl, rfl⟩ := e
      exact ⟨hm, hx, hx2⟩
    · exact Or.inl (if_neg e)
  · have hc' : pg_K g < c' := hc'
    have := (I.2.2.2.1 c' hc').1 q hq
    exact ⟨(if_neg (fun z => by omega)).trans this.1, this.2⟩
theorem pg_prom_ok {g : pg_G} (I : pg_I g) {c p r : Nat} (hc : c ≤ pg_K g) (hr : pg_P g c p ≤ r) : pg_I (pg_prom g c p r) ∧ pg_le g (pg_prom g c p r) ∧ pg_own p g (pg_prom g c p r) := by
  have hP : ∀ c' q, pg_P g c' q ≤ pg_P (pg_prom g c p r) c' q := fun c' q => by
    by_cases e : c' = c ∧ q = p
    · have : pg_P (pg_prom g c p r) c' q = r := if_pos e
      rw [this]
      obtain ⟨rfl, rfl⟩ := e
      exact hr
    · have : pg_P (pg_prom g c p r) c' q = pg_P g c' q := if_neg e
      rw [this]; exact Nat.le_refl _
  have L : pg_le g (pg_prom g c p r) := ⟨Nat.le_refl _, fun _ _ => ⟨rfl, rfl⟩, fun _ _ _ => Or.inl rfl, fun c' q _ => hP c' q, fun _ _ _ _ => ⟨fun h => h, fun h => Or.inl h⟩, fun _ _ _ => rfl⟩
  refine ⟨pg_I_up I L (fun c q r _ e => Or.inl e) (fun _ _ _ => Or.inl rfl) (fun _ _ => Or.inl rfl) (fun c' hc' => ⟨fun q hq => ?_, (I.2.2.2.1 c' hc').2⟩) (fun c' a b => absurd b (Nat.not_lt.mpr a)), L, fun c' q _ hqp => ⟨rfl, if_neg (fun z => hqp z.2), fun _ => rfl⟩, fun _ _ _ => rfl⟩
  have hc' : pg_K g < c' := hc'
  have := (I.2.2.2.1 c' hc').1 q hq
  exact ⟨this.1, (if_neg (fun z => by omega)).trans this.2⟩
theorem pg_acc_ok {g : pg_G} (I : pg_I g) {c p r : Nat} (hc : c ≤ pg_K g) (hr : pg_P g c p ≤ r) (hw : ¬ pg_W g c r = -1) (hm : bt (pg_M g c) p = true) : pg_I (pg_acc g c p r) ∧ pg_le g (pg_acc g c p r) ∧ pg_own p g (pg_acc g c p r) := by
  have hP : ∀ c' q, pg_P g c' q ≤ pg_P (pg_acc g c p r) c' q := fun c' q => by
    by_cases e : c' = c ∧ q = p
    · have : pg_P (pg_acc g c p r) c' q = r := if_pos e
      rw [this]
      obtain ⟨rfl, rfl⟩ := e
      exact hr
    · have : pg_P (pg_acc g c p r) c' q = pg_P g c' q := if_neg e
      rw [this]; exact Nat.le_refl _
  have hA : ∀ c' q r', pg_A (pg_acc g c p r) c' q r' = true → pg_A g c' q r' = true ∨ (c' = c ∧ q = p ∧ r' = r) := fun c' q r' h => by
    by_cases e : c' = c ∧ q = p ∧ r' = r
    · exact Or.inr e
    · have : pg_A (pg_acc g c p r) c' q r' = pg_A g c' q r' := if_neg e
      rw [this] at h
      exact Or.inl h
  have L : pg_le g (pg_acc g c p r) := by
    refine ⟨Nat.le_refl _, fun _ _ => ⟨rfl, rfl⟩, fun _ _ _ => Or.inl rfl, fun c' q _ => hP c' q, fun c' q r' _ => ⟨fun h => ?_, fun h => ?_⟩, fun _ _ _ => rfl⟩
    · by_cases e : c' = c ∧ q = p ∧ r' = r
      · exact if_pos e
      · exact (if_neg e).trans h
    · rcases hA c' q r' h with a | ⟨rfl, rfl, rfl⟩
      · exact Or.inl a
      · exact Or.inr hr
  refine ⟨pg_I_up I L (fun c' q r' _ h => ?_) (fun _ _ _ => Or.inl rfl) (fun _ _ => Or.inl rfl) (fun c' hc' => ⟨fun q hq => ?_, (I.2.2.2.1 c' hc').2⟩) (fun c' a b => absurd b (Nat.not_lt.mpr a)), L, fun c' q _ hqp => ⟨rfl, if_neg (fun z => hqp z.2), fun _ => if_neg (fun z => hqp z.2.1)⟩, fun _ _ _ => rfl⟩
  · rcases hA c' q r' h with a | ⟨rfl, rfl, rfl⟩
    · exact Or.inl a
    · refine Or.inr ⟨hw, hm, ?_⟩
      have : pg_P (pg_acc g c' q r') c' q = r' := if_pos ⟨rfl, rfl⟩
      rw [this]; exact Nat.le_refl _
  · have hc' : pg_K g < c' := hc'
    have := (I.2.2.2.1 c' hc').1 q hq
    exact ⟨this.1, (if_neg (fun z => by omega)).trans this.2⟩
theorem pg_prop_ok {g : pg_G} (I : pg_I g) {c r : Nat} {v : Int32} (hc : c ≤ pg_K g) (h0 : pg_W g c r = -1) (hr : 16 ≤ r) (hs : pg_safe g c r v) (hq : ∃ q, q < 16 ∧ pg_V g c q = v) : pg_I (pg_prop g c r v) ∧ pg_le g (pg_prop g c r v) ∧ pg_own (r % 16) g (pg_prop g c r v) := by
  have L : pg_le g (pg_prop g c r v) := by
    refine ⟨Nat.le_refl _, fun _ _ => ⟨rfl, rfl⟩, fun _ _ _ => Or.inl rfl, fun _ _ _ => Nat.le_refl _, fun _ _ _ _ => ⟨fun h => h, fun h => Or.inl h⟩, fun c' r' h => ?_⟩
    exact if_neg (fun z => by obtain ⟨rfl, rfl⟩ := z; exact h h0)
  refine ⟨pg_I_up I L (fun c q r _ e => Or.inl e) (fun _ _ _ => Or.inl rfl) (fun c' r' => ?_) (fun c' hc' => ⟨fun q hq => (I.2.2.2.1 c' hc').1 q hq, fun r' => ?_⟩) (fun c' a b => absurd b (Nat.not_lt.mpr a)), L, fun _ _ _ _ => ⟨rfl, rfl, fun _ => rfl⟩, fun c' r' h => if_neg (fun z => h (by rw [z.2]))⟩
  · by_cases e : c' = c ∧ r' = r
    · refine Or.inr ?_
      have : pg_W (pg_prop g c r v) c' r' = v := if_pos e
      rw [this]
      obtain ⟨rfl, rfl⟩ := e
      exact ⟨hr, pg_safe_up L hc hr hs, hq⟩
    · exact Or.inl (if_neg e)
  · have hc' : pg_K g < c' := hc'
    exact (if_neg (fun z => by omega)).trans ((I.2.2.2.1 c' hc').2 r')
theorem pg_inst_ok {g : pg_G} (I : pg_I g) {v : Int32} (hd : pg_dec g (pg_K g) v) (p : Nat) : pg_I (pg_inst g v) ∧ pg_le g (pg_inst g v) ∧ pg_own p g (pg_inst g v) := by
  have L : pg_le g (pg_inst g v) := by
    refine ⟨Nat.le_succ _, fun c hc => ⟨if_neg (by omega), if_neg (by omega)⟩, fun _ _ _ => Or.inl rfl, fun _ _ _ => Nat.le_refl _, fun _ _ _ _ => ⟨fun h => h, fun h => Or.inl h⟩, fun _ _ _ => rfl⟩
  refine ⟨pg_I_up I L (fun c q r _ e => Or.inl e) (fun _ _ _ => Or.inl rfl) (fun _ _ => Or.inl rfl) (fun c' hc' => I.2.2.2.1 c' (Nat.lt_of_succ_lt hc')) (fun c' a b => ?_), L, pg_own_rf p g⟩
  have b : c' < pg_K g + 1 := b
  have e : c' = pg_K g := by omega
  subst e
  have e1 : pg_M (pg_inst g v) (pg_K g + 1) = pg_M g (pg_K g) ^^^ v := if_pos rfl
  have e2 : pg_C (pg_inst g v) (pg_K g + 1) = v := if_pos rfl
  have e3 : pg_M (pg_inst g v) (pg_K g) = pg_M g (pg_K g) := if_neg (by omega)
  rw [e1, e2, e3]
  exact ⟨rfl, pg_dec_up L (Nat.le_refl _) hd⟩
end PG2
