section PG4
/-! a process, by its own cells; a message -/
def pg_hist (g : pg_G) (c p : Nat) (ar av : Int32) : Prop :=
  (ar = -1 ∧ pg_V g c p = -1 ∧ ∀ r, pg_A g c p r = false) ∨
  (ar = 0 ∧ av = pg_V g c p ∧ ¬ pg_V g c p = -1 ∧ ∀ r, pg_A g c p r = false) ∨
  (∃ r1, ar = nI r1 ∧ 16 ≤ r1 ∧ r1 ≤ pg_P g c p ∧ av = pg_W g c r1 ∧ ¬ pg_W g c r1 = -1 ∧ ∀ r', r1 < r' → pg_A g c p r' = false)
def pg_crd (g : pg_G) (c p rc : Nat) (ph prs : Int32) (prr prv : Nat → Int32) : Prop :=
  (∀ r, r % 16 = p → ¬ pg_W g c r = -1 → r ≤ rc ∧ (ph = 1 → ¬ r = rc)) ∧
  (ph = 1 → 16 ≤ rc ∧ rc % 16 = p ∧ ∀ q, q < 16 → bt prs q = true → pg_pok g c q rc (prr q) (prv q))
def pg_lrn (g : pg_G) (c k : Nat) (lr lf lv : Int32) : Prop := ∃ rl, rl ≤ 16 * k + 15 ∧ lr = nI rl ∧ ((rl = 0 ∧ ∀ q, q < 16 → bt lf q = false) ∨ (lv = pg_W g c rl ∧ ¬ pg_W g c rl = -1 ∧ ∀ q, q < 16 → bt lf q = true → pg_A g c q rl = true))
def pg_new (g : pg_G) (c p : Nat) : Prop := ∀ c', c < c' → pg_V g c' p = -1 ∧ pg_P g c' p = 0 ∧ (∀ r, pg_A g c' p r = false) ∧ ∀ r, r % 16 = p → pg_W g c' r = -1
def pg_p (g : pg_G) (k p : Nat) (cfg mem cut mv pm ar av crn ph prs lr lf lv : Int32) (vt prr prv : Nat → Int32) : Prop := ∃ c rc : Nat, cfg = nI c ∧ c ≤ k ∧ c ≤ pg_K g ∧ mem = pg_M g c ∧ cut = pg_C g c ∧ mv = pg_V g c p ∧ pm = nI (pg_P g c p) ∧ pg_P g c p ≤ 16 * k + 15 ∧
  pg_hist g c p ar av ∧ (∀ q, q < 16 → ¬ vt q = -1 → vt q = pg_V g c q) ∧ crn = nI rc ∧ rc ≤ 16 * k + 15 ∧ pg_crd g c p rc ph prs prr prv ∧ pg_lrn g c k lr lf lv ∧ pg_new g c p
def pg_ms (g : pg_G) (k : Nat) (kind src cfg x y z : Int32) : Prop := ∃ q c : Nat, q < 16 ∧ src = nI q ∧ cfg = nI c ∧ c ≤ k ∧ c ≤ pg_K g ∧
  ((kind = 1 ∧ ∃ s, s < 16 ∧ x = nI s) ∨ (kind = 2 ∧ x = pg_V g c q ∧ ¬ pg_V g c q = -1) ∨ (kind = 3 ∧ ∃ r, 16 ≤ r ∧ r ≤ 16 * k + 15 ∧ x = nI r) ∨
   (kind = 4 ∧ ∃ r, 16 ≤ r ∧ r ≤ 16 * k + 15 ∧ x = nI r ∧ pg_pok g c q r y z) ∨ (kind = 5 ∧ ∃ r, 16 ≤ r ∧ r ≤ 16 * k + 15 ∧ x = nI r ∧ y = pg_W g c r ∧ ¬ pg_W g c r = -1) ∨
   (kind = 6 ∧ ∃ r, 16 ≤ r ∧ r ≤ 16 * k + 15 ∧ x = nI r ∧ y = pg_W g c r ∧ ¬ pg_W g c r = -1 ∧ pg_A g c q r = true) ∨ (kind = 7 ∧ x = pg_M g c ∧ y = pg_C g c))
theorem pg_ms_up {g g' : pg_G} (L : pg_le g g') {k k' : Nat} (hk : k ≤ k') {kind src cfg x y z : Int32} (h : pg_ms g k kind src cfg x y z) : pg_ms g' k' kind src cfg x y z := by
  obtain ⟨q, c, hq, es, ec, hck, hc, h⟩ := h
  refine ⟨q, c, hq, es, ec, by omega, Nat.le_trans hc L.1, ?_⟩
  rcases h with h | ⟨e, ex, hv⟩ | ⟨e, r, h1, h2, h3⟩ | ⟨e, r, h1, h2, h3, h4⟩ | ⟨e, r, h1, h2, h3, h4, h5⟩ | ⟨e, r, h1, h2, h3, h4, h5, h6⟩ | ⟨e, h1, h2⟩
  · exact Or.inl h
  · exact Or.inr (Or.inl ⟨e, by rw [pg_le_V L hq hv]; exact ex, by rw [pg_le_V L hq hv]; exact hv⟩)
  · exact Or.inr (Or.inr (Or.inl ⟨e, r, h1, by omega, h3⟩))
  · exact Or.inr (Or.inr (Or.inr (Or.inl ⟨e, r, h1, by omega, h3, pg_pok_up L hc hq h1 h4⟩)))
  · exact Or.inr (Or.inr (Or.inr (Or.inr (Or.inl ⟨e, r, h1, by omega, h3, by rw [L.2.2.2.2.2 c r h5]; exact h4, by rw [L.2.2.2.2.2 c r h5]; exact h5⟩))))
  · exact Or.inr (Or.inr (Or.inr (Or.inr (Or.inr (Or.inl ⟨e, r, h1, by omega, h3, by rw [L.2.2.2.2.2 c r h5]; exact h4, by rw [L.2.2.2.2.2 c r h5]; exact h5, (L.2.2.2.2.1 c q r hq).1 h6⟩)))))
  · exact Or.inr (Or.inr (Or.inr (Or.inr (Or.inr (Or.inr ⟨e, by rw [(L.2.1 c hc).1]; exact h1, by rw [(L.2.1 c hc).2]; exact h2⟩)))))
theorem pg_lrn_up {g g' : pg_G} (L : pg_le g g') {c k k' : Nat} (hk : k ≤ k') {lr lf lv : Int32} (h : pg_lrn g c k lr lf lv) : pg_lrn g' c k' lr lf lv := by
  obtain ⟨rl, h1, h2, h⟩ := h
  refine ⟨rl, by omega, h2, ?_⟩
  rcases h with h | ⟨a, b, d⟩
  · exact Or.inl h
  · exact Or.inr ⟨by rw [L.2.2.2.2.2 c rl b]; exact a, by rw [L.2.2.2.2.2 c rl b]; exact b, fun q hq e => (L.2.2.2.2.1 c q rl hq).1 (d q hq e)⟩
/-- a process that did not act -/
theorem pg_p_up {g g' : pg_G} (I : pg_I g) (L : pg_le g g') {a : Nat} (O : pg_own a g g') {k k' p : Nat} (hk : k ≤ k') (hp : p < 16) (hpa : ¬ p = a) {cfg mem cut mv pm ar av crn ph prs lr lf lv : Int32} {vt prr prv : Nat → Int32}
    (h : pg_p g k p cfg mem cut mv pm ar av crn ph prs lr lf lv vt prr prv) : pg_p g' k' p cfg mem cut mv pm ar av crn ph prs lr lf lv vt prr prv := by
  obtain ⟨c, rc, h1, h2, h3, h4, h5, h6, h7, h8, h9, h10, h11, h12, h13, h14, h15⟩ := h
  have eV := fun c => (O.1 c p hp hpa).1
  have eP := fun c => (O.1 c p hp hpa).2.1
  have eA := fun c => (O.1 c p hp hpa).2.2
  have eW : ∀ c r, r % 16 = p → pg_W g' c r = pg_W g c r := fun c r e => O.2 c r (fun z => hpa (e.symm.trans z))
  refine ⟨c, rc, h1, by omega, Nat.le_trans h3 L.1, by rw [(L.2.1 c h3).1]; exact h4, by rw [(L.2.1 c h3).2]; exact h5, by rw [eV]; exact h6, by rw [eP]; exact h7, by rw [eP]; omega, ?_, fun q hq e => ?_, h11, by omega, ?_, pg_lrn_up L hk h14, ?_⟩
  · rcases h9 with ⟨e, v, al⟩ | ⟨e, v, v2, al⟩ | ⟨r1, e, a1, a2, a3, a4, al⟩
    · exact Or.inl ⟨e, by rw [eV]; exact v, fun r => by rw [eA]; exact al r⟩
    · exact Or.inr (Or.inl ⟨e, by rw [eV]; exact v, by rw [eV]; exact v2, fun r => by rw [eA]; exact al r⟩)
    · exact Or.inr (Or.inr ⟨r1, e, a1, by rw [eP]; exact a2, by rw [L.2.2.2.2.2 c r1 a4]; exact a3, by rw [L.2.2.2.2.2 c r1 a4]; exact a4, fun r' hr => by rw [eA]; exact al r' hr⟩)
  · have h := h10 q hq e
    rw [pg_le_V L hq (by rw [← h]; exact e)]; exact h
  · refine ⟨fun r e hW => ?_, fun e => ?_⟩
    · rw [eW c r e] at hW
      exact h13.1 r e hW
    · obtain ⟨b1, b2, b3⟩ := h13.2 e
      exact ⟨b1, b2, fun q hq hb => pg_pok_up L h3 hq b1 (b3 q hq hb)⟩
  · intro c' hc'
    obtain ⟨b1, b2, b3, b4⟩ := h15 c' hc'
    exact ⟨by rw [eV]; exact b1, by rw [eP]; exact b2, fun r => by rw [eA]; exact b3 r, fun r e => by rw [eW c' r e]; exact b4 r e⟩
end PG4
