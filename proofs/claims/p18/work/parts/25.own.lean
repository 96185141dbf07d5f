section PG5
/-! what one delivery does to its own process -/
def pg_e1 (g g' : pg_G) : Prop := pg_K g' ≤ pg_K g + 1 ∧ ∀ c, c < pg_K g' → c ≤ pg_K g ∧ pg_dec g c (pg_C g' (c + 1)) ∧ pg_M g' (c + 1) = pg_M g c ^^^ pg_C g' (c + 1)
def pg_e2 (g g' : pg_G) (p : Nat) (cfg mv : Int32) : Prop := (pg_K g' = pg_K g ∨ cfg = nI (pg_K g')) ∧ ∀ c q, q < 16 → pg_V g' c q = pg_V g c q ∨ (q = p ∧ cfg = nI c ∧ mv = pg_V g' c q)
theorem pg_e1_rf {g : pg_G} (I : pg_I g) {g' : pg_G} (hK : pg_K g' = pg_K g) (hC : pg_C g' = pg_C g) (hM : pg_M g' = pg_M g) : pg_e1 g g' := by
  refine ⟨by omega, fun c hc => ?_⟩
  rw [hK] at hc
  rw [hC, hM]
  exact ⟨by omega, (I.2.2.2.2 c hc).2, (I.2.2.2.2 c hc).1⟩
theorem pg_e2_rf {g : pg_G} {g' : pg_G} (hV : pg_V g' = pg_V g) {p : Nat} {cfg mv : Int32} (hK : pg_K g' = pg_K g ∨ cfg = nI (pg_K g')) : pg_e2 g g' p cfg mv := ⟨hK, fun c q _ => Or.inl (by rw [hV])⟩
theorem pg_crd_up {g g' : pg_G} (L : pg_le g g') {c p rc : Nat} (hc : c ≤ pg_K g) (hW : ∀ r, r % 16 = p → pg_W g' c r = pg_W g c r) {ph prs : Int32} {prr prv : Nat → Int32} (h : pg_crd g c p rc ph prs prr prv) : pg_crd g' c p rc ph prs prr prv := by
  refine ⟨fun r e w => ?_, fun e => ?_⟩
  · rw [hW r e] at w
    exact h.1 r e w
  · obtain ⟨b1, b2, b3⟩ := h.2 e
    exact ⟨b1, b2, fun q hq hb => pg_pok_up L hc hq b1 (b3 q hq hb)⟩
theorem pg_vt_up {g g' : pg_G} (L : pg_le g g') {c : Nat} {vt : Nat → Int32} (h : ∀ q, q < 16 → ¬ vt q = -1 → vt q = pg_V g c q) : ∀ q, q < 16 → ¬ vt q = -1 → vt q = pg_V g' c q := by
  intro q hq e
  have h := h q hq e
  rw [pg_le_V L hq (by rw [← h]; exact e)]; exact h
theorem pg_new_up {g g' : pg_G} {c p : Nat} (h : pg_new g c p) (hV : ∀ c', c < c' → pg_V g' c' p = pg_V g c' p ∧ pg_P g' c' p = pg_P g c' p ∧ (∀ r, pg_A g' c' p r = pg_A g c' p r) ∧ ∀ r, pg_W g' c' r = pg_W g c' r) : pg_new g' c p := by
  intro c' hc'
  obtain ⟨b1, b2, b3, b4⟩ := h c' hc'
  obtain ⟨e1, e2, e3, e4⟩ := hV c' hc'
  exact ⟨by rw [e1]; exact b1, by rw [e2]; exact b2, fun r => by rw [e3]; exact b3 r, fun r e => by rw [e4]; exact b4 r e⟩
section OWN
variable {g : pg_G} {k p : Nat} {cfg mem cut mv pm ar av crn ph prs lr lf lv : Int32} {vt prr prv : Nat → Int32}
/-- the same cells, a turn later -/
theorem po_id (I : pg_I g) (hp : p < 16) (h : pg_p g k p cfg mem cut mv pm ar av crn ph prs lr lf lv vt prr prv) : pg_p g (k + 1) p cfg mem cut mv pm ar av crn ph prs lr lf lv vt prr prv :=
  pg_p_up I (pg_le_rf g) (pg_own_rf (p + 1) g) (Nat.le_succ k) hp (by omega) h
theorem po_vote (I : pg_I g) (hp : p < 16) (hk : k ≤ 200) (h : pg_p g k p cfg mem cut mv pm ar av crn ph prs lr lf lv vt prr prv) (hmv : mv = -1) (hpm : pm = 0) (hm : bt mem p = true) {m : Int32} (hm0 : ¬ m = 0) (hm16 : m &&& 65535 = m) :
    ∃ g', pg_I g' ∧ pg_le g g' ∧ pg_own p g g' ∧ pg_e1 g g' ∧ pg_e2 g g' p cfg m ∧ pg_p g' (k + 1) p cfg mem cut m pm 0 m crn ph prs lr lf lv vt prr prv ∧ pg_ms g' (k + 1) 2 (nI p) cfg m 0 0 := by
  obtain ⟨c, rc, h1, h2, h3, h4, h5, h6, h7, h8, h9, h10, h11, h12, h13, h14, h15⟩ := h
  have hP : pg_P g c p = 0 := by
    rw [hpm] at h7
    rcases Nat.eq_zero_or_pos (pg_P g c p) with z | z
    · exact z
    · exact absurd h7.symm (nI_ne0 z (by omega))
  have hV : pg_V g c p = -1 := by rw [← h6]; exact hmv
  have hm1 : ¬ m = -1 := by
    intro e
    rw [e] at hm16
    exact absurd hm16 (by decide)
  obtain ⟨I', L, O⟩ := pg_vote_ok I h3 hp hP hV (by rw [← h4]; exact hm) hm0 hm16
  have eV : pg_V (pg_vote g c p m) c p = m := if_pos ⟨rfl, rfl⟩
  have hA : ∀ r, pg_A g c p r = false := by
    rcases h9 with ⟨_, _, a⟩ | ⟨_, _, v, _⟩ | ⟨r1, _, a1, a2, _⟩
    · exact a
    · exact absurd hV v
    · omega
  refine ⟨pg_vote g c p m, I', L, O, pg_e1_rf I rfl rfl rfl, ⟨Or.inl rfl, fun c' q _ => ?_⟩, ⟨c, rc, h1, by omega, h3, h4, h5, eV.symm, h7, by rw [show pg_P (pg_vote g c p m) c p = pg_P g c p from rfl]; omega, Or.inr (Or.inl ⟨rfl, eV.symm, by rw [eV]; exact hm1, hA⟩), pg_vt_up L h10, h11, by omega, pg_crd_up L h3 (fun _ _ => rfl) h13, pg_lrn_up L (Nat.le_succ k) h14, pg_new_up h15 (fun c' hc' => ⟨if_neg (by omega), rfl, fun _ => rfl, fun _ => rfl⟩)⟩, ⟨p, c, hp, rfl, h1, by omega, h3, Or.inr (Or.inl ⟨rfl, eV.symm, by rw [eV]; exact hm1⟩)⟩⟩
  by_cases e : c' = c ∧ q = p
  · obtain ⟨rfl, rfl⟩ := e
    exact Or.inr ⟨rfl, h1, eV.symm⟩
  · exact Or.inl (if_neg e)
theorem po_prep (I : pg_I g) (hp : p < 16) (hk : k ≤ 200) (h : pg_p g k p cfg mem cut mv pm ar av crn ph prs lr lf lv vt prr prv) (hm : bt mem p = true) {r : Nat} (hr : 16 ≤ r) (hrk : r ≤ 16 * k + 15) (hlt : pm < nI r) :
    ∃ g', pg_I g' ∧ pg_le g g' ∧ pg_own p g g' ∧ pg_e1 g g' ∧ pg_e2 g g' p cfg mv ∧ pg_p g' (k + 1) p cfg mem cut mv (nI r) ar av crn ph prs lr lf lv vt prr prv ∧ pg_ms g' (k + 1) 4 (nI p) cfg (nI r) ar av := by
  obtain ⟨c, rc, h1, h2, h3, h4, h5, h6, h7, h8, h9, h10, h11, h12, h13, h14, h15⟩ := h
  have hP : pg_P g c p < r := by
    rw [h7] at hlt
    exact (nI_ltI (by omega) (by omega)).mp hlt
  have hmM : bt (pg_M g c) p = true := by rw [← h4]; exact hm
  obtain ⟨I', L, O⟩ := pg_prom_ok I (p := p) h3 (Nat.le_of_lt hP)
  have eP : pg_P (pg_prom g c p r) c p = r := if_pos ⟨rfl, rfl⟩
  refine ⟨pg_prom g c p r, I', L, O, pg_e1_rf I rfl rfl rfl, pg_e2_rf rfl (Or.inl rfl), ⟨c, rc, h1, by omega, h3, h4, h5, h6, by rw [eP], by rw [eP]; omega, ?_, h10, h11, by omega, pg_crd_up L h3 (fun _ _ => rfl) h13, pg_lrn_up L (Nat.le_succ k) h14, pg_new_up h15 (fun c' hc' => ⟨rfl, if_neg (by omega), fun _ => rfl, fun _ => rfl⟩)⟩, ⟨p, c, hp, rfl, h1, by omega, h3, Or.inr (Or.inr (Or.inr (Or.inl ⟨rfl, r, hr, by omega, rfl, hmM, by rw [eP]; exact Nat.le_refl r, ?_⟩)))⟩⟩
  · rcases h9 with a | a | ⟨r1, e, a1, a2, a3, a4, al⟩
    · exact Or.inl a
    · exact Or.inr (Or.inl a)
    · exact Or.inr (Or.inr ⟨r1, e, a1, by rw [eP]; omega, a3, a4, al⟩)
  · rcases h9 with ⟨a, b, d⟩ | ⟨a, b, b2, d⟩ | ⟨r1, e, a1, a2, a3, a4, al⟩
    · exact Or.inl ⟨a, b, fun r' _ => d r'⟩
    · exact Or.inr (Or.inl ⟨a, b, b2, fun r' _ => d r'⟩)
    · exact Or.inr (Or.inr ⟨r1, e, a1, by omega, a3, a4, fun r' x _ => al r' x⟩)
theorem po_acc (I : pg_I g) (hp : p < 16) (hk : k ≤ 200) (h : pg_p g k p cfg mem cut mv pm ar av crn ph prs lr lf lv vt prr prv) (hm : bt mem p = true) {r c0 : Nat} {y : Int32} (hr : 16 ≤ r) (hrk : r ≤ 16 * k + 15) (hc0 : cfg = nI c0) (hc0k : c0 ≤ k) (hy : y = pg_W g c0 r) (hw : ¬ pg_W g c0 r = -1) (hle : pm ≤ nI r) :
    ∃ g', pg_I g' ∧ pg_le g g' ∧ pg_own p g g' ∧ pg_e1 g g' ∧ pg_e2 g g' p cfg mv ∧ pg_p g' (k + 1) p cfg mem cut mv (nI r) (nI r) y crn ph prs lr lf lv vt prr prv ∧ pg_ms g' (k + 1) 6 (nI p) cfg (nI r) y 0 := by
  obtain ⟨c, rc, h1, h2, h3, h4, h5, h6, h7, h8, h9, h10, h11, h12, h13, h14, h15⟩ := h
  have e : c0 = c := (nI_eq (by omega) (by omega)).mp (hc0.symm.trans h1)
  subst e
  have hP : pg_P g c0 p ≤ r := by
    rw [h7] at hle
    exact (nI_leI (by omega) (by omega)).mp hle
  obtain ⟨I', L, O⟩ := pg_acc_ok I (p := p) h3 hP hw (by rw [← h4]; exact hm)
  have eP : pg_P (pg_acc g c0 p r) c0 p = r := if_pos ⟨rfl, rfl⟩
  have eA : pg_A (pg_acc g c0 p r) c0 p r = true := if_pos ⟨rfl, rfl, rfl⟩
  have hAn : ∀ r', r < r' → pg_A (pg_acc g c0 p r) c0 p r' = false := by
    intro r' hr'
    have e : pg_A (pg_acc g c0 p r) c0 p r' = pg_A g c0 p r' := if_neg (by omega)
    rw [e]
    cases e2 : pg_A g c0 p r'
    · rfl
    · have := (I.1 c0 p r' hp e2).2.2
      omega
  refine ⟨pg_acc g c0 p r, I', L, O, pg_e1_rf I rfl rfl rfl, pg_e2_rf rfl (Or.inl rfl), ⟨c0, rc, h1, by omega, h3, h4, h5, h6, by rw [eP], by rw [eP]; omega, Or.inr (Or.inr ⟨r, rfl, hr, by rw [eP]; exact Nat.le_refl r, hy, hw, hAn⟩), h10, h11, by omega, pg_crd_up L h3 (fun _ _ => rfl) h13, pg_lrn_up L (Nat.le_succ k) h14, pg_new_up h15 (fun c' hc' => ⟨rfl, if_neg (by omega), fun _ => if_neg (by omega), fun _ => rfl⟩)⟩, ⟨p, c0, hp, rfl, h1, by omega, h3, Or.inr (Or.inr (Or.inr (Or.inr (Or.inr (Or.inl ⟨rfl, r, hr, by omega, rfl, hy, hw, eA⟩)))))⟩⟩
/-- the vote of q, noted -/
theorem po_note (I : pg_I g) (hp : p < 16) (hk : k ≤ 200) (h : pg_p g k p cfg mem cut mv pm ar av crn ph prs lr lf lv vt prr prv) {q c0 : Nat} {x : Int32} (hq : q < 16) (hc0 : cfg = nI c0) (hc0k : c0 ≤ k) (hx : x = pg_V g c0 q) {vt' : Nat → Int32} (hv : ∀ j, j < 16 → vt' j = if j = q then x else vt j) :
    pg_p g k p cfg mem cut mv pm ar av crn ph prs lr lf lv vt' prr prv := by
  obtain ⟨c, rc, h1, h2, h3, h4, h5, h6, h7, h8, h9, h10, h11, h12, h13, h14, h15⟩ := h
  have e : c0 = c := (nI_eq (by omega) (by omega)).mp (hc0.symm.trans h1)
  subst e
  refine ⟨c0, rc, h1, h2, h3, h4, h5, h6, h7, h8, h9, fun j hj n => ?_, h11, h12, h13, h14, h15⟩
  rw [hv j hj] at n ⊢
  by_cases e : j = q
  · rw [if_pos e] at n ⊢
    rw [e]; exact hx
  · rw [if_neg e] at n ⊢
    exact h10 j hj n
/-- the next configuration, installed -/
theorem po_fresh {c : Nat} (hp : p < 16) (hc : c ≤ k) (hcK : c ≤ pg_K g) (h : pg_V g c p = -1 ∧ pg_P g c p = 0 ∧ (∀ r, pg_A g c p r = false) ∧ ∀ r, r % 16 = p → pg_W g c r = -1) (hn : pg_new g c p) {vt' : Nat → Int32} (hv : ∀ j, j < 16 → vt' j = -1) :
    pg_p g k p (nI c) (pg_M g c) (pg_C g c) (-1) 0 (-1) 0 0 0 0 0 0 0 vt' prr prv := by
  refine ⟨c, 0, rfl, hc, hcK, rfl, rfl, h.1.symm, by rw [h.2.1]; rfl, by rw [h.2.1]; omega, Or.inl ⟨rfl, h.1, h.2.2.1⟩, fun q hq n => absurd (hv q hq) n, rfl, by omega, ⟨fun r e w => absurd (h.2.2.2 r e) w, fun e => absurd e (by decide)⟩, ⟨0, by omega, rfl, Or.inl ⟨rfl, fun q _ => b_0 q⟩⟩, hn⟩
theorem po_dec (I : pg_I g) (hp : p < 16) (hk : k ≤ 200) (h : pg_p g k p cfg mem cut mv pm ar av crn ph prs lr lf lv vt prr prv) {x : Int32} {c0 : Nat} (hc0 : cfg = nI c0) (hc0k : c0 ≤ k) (hd : pg_dec g c0 x) {vt' : Nat → Int32} (hv : ∀ j, j < 16 → vt' j = -1) {prr' prv' : Nat → Int32} :
    ∃ g', pg_I g' ∧ pg_le g g' ∧ pg_own p g g' ∧ pg_e1 g g' ∧ pg_e2 g g' p (cfg + 1) (-1) ∧ pg_p g' (k + 1) p (cfg + 1) (mem ^^^ x) x (-1) 0 (-1) 0 0 0 0 0 0 0 vt' prr' prv' ∧ pg_ms g' (k + 1) 7 (nI p) (cfg + 1) (mem ^^^ x) x 0 := by
  obtain ⟨c, rc, h1, h2, h3, h4, h5, h6, h7, h8, h9, h10, h11, h12, h13, h14, h15⟩ := h
  have e : c0 = c := (nI_eq (by omega) (by omega)).mp (hc0.symm.trans h1)
  subst e
  have ec : cfg + 1 = nI (c0 + 1) := by rw [h1, nI_1]
  have key : ∀ g', pg_I g' → pg_le g g' → pg_own p g g' → pg_e1 g g' → pg_V g' = pg_V g → pg_P g' = pg_P g → pg_A g' = pg_A g → pg_W g' = pg_W g → (pg_K g' = pg_K g ∨ cfg + 1 = nI (pg_K g')) → c0 + 1 ≤ pg_K g' → pg_M g' (c0 + 1) = mem ^^^ x → pg_C g' (c0 + 1) = x →
      ∃ g', pg_I g' ∧ pg_le g g' ∧ pg_own p g g' ∧ pg_e1 g g' ∧ pg_e2 g g' p (cfg + 1) (-1) ∧ pg_p g' (k + 1) p (cfg + 1) (mem ^^^ x) x (-1) 0 (-1) 0 0 0 0 0 0 0 vt' prr' prv' ∧ pg_ms g' (k + 1) 7 (nI p) (cfg + 1) (mem ^^^ x) x 0 := by
    intro g' I' L O E eV eP eA eW hKK hK eM eC
    refine ⟨g', I', L, O, E, pg_e2_rf eV hKK, ?_, ⟨p, c0 + 1, hp, rfl, ec, by omega, hK, Or.inr (Or.inr (Or.inr (Or.inr (Or.inr (Or.inr ⟨rfl, eM.symm, eC.symm⟩)))))⟩⟩
    have hn := h15 (c0 + 1) (by omega)
    have F := po_fresh (g := g') (k := k + 1) (c := c0 + 1) (prr := prr') (prv := prv') hp (by omega) hK (by rw [eV, eP, eA, eW]; exact hn) (fun c' hc' => by rw [eV, eP, eA, eW]; exact h15 c' (by omega)) hv
    rw [eM, eC, ← ec] at F
    exact F
  rcases Nat.lt_or_ge c0 (pg_K g) with lt | ge
  · have hi := I.2.2.2.2 c0 lt
    have ex : pg_C g (c0 + 1) = x := pg_agree I hi.2 hd
    refine key g I (pg_le_rf g) (pg_own_rf p g) (pg_e1_rf I rfl rfl rfl) rfl rfl rfl rfl (Or.inl rfl) (by omega) ?_ ex
    rw [hi.1, ex, h4]
  · have eK : c0 = pg_K g := by omega
    subst eK
    obtain ⟨I', L, O⟩ := pg_inst_ok I hd p
    have eM : pg_M (pg_inst g x) (pg_K g + 1) = pg_M g (pg_K g) ^^^ x := if_pos rfl
    have eC : pg_C (pg_inst g x) (pg_K g + 1) = x := if_pos rfl
    refine key (pg_inst g x) I' L O ⟨Nat.le_refl _, fun c hc => ?_⟩ rfl rfl rfl rfl (Or.inr ec) (Nat.le_refl _) (by rw [eM, h4]) eC
    have hc : c < pg_K g + 1 := hc
    rcases Nat.lt_or_ge c (pg_K g) with l | l
    · have a := I.2.2.2.2 c l
      rw [(L.2.1 (c + 1) (by omega)).2, (L.2.1 (c + 1) (by omega)).1]
      exact ⟨by omega, a.2, a.1⟩
    · have e2 : c = pg_K g := by omega
      subst e2
      rw [eC, eM]
      exact ⟨Nat.le_refl _, hd, rfl⟩
theorem po_wel (I : pg_I g) (hp : p < 16) (hk : k ≤ 200) (h : pg_p g k p cfg mem cut mv pm ar av crn ph prs lr lf lv vt prr prv) {c0 : Nat} (hc0k : c0 ≤ k) (hc0K : c0 ≤ pg_K g) (hlt : cfg < nI c0) {vt' : Nat → Int32} (hv : ∀ j, j < 16 → vt' j = -1) {prr' prv' : Nat → Int32} :
    pg_p g (k + 1) p (nI c0) (pg_M g c0) (pg_C g c0) (-1) 0 (-1) 0 0 0 0 0 0 0 vt' prr' prv' := by
  obtain ⟨c, rc, h1, h2, h3, h4, h5, h6, h7, h8, h9, h10, h11, h12, h13, h14, h15⟩ := h
  have lt : c < c0 := by
    rw [h1] at hlt
    exact (nI_ltI (by omega) (by omega)).mp hlt
  exact po_fresh hp (by omega) hc0K (h15 c0 lt) (fun c' hc' => h15 c' (by omega)) hv
theorem po_fb (I : pg_I g) (hp : p < 16) (hk : k ≤ 200) (h : pg_p g k p cfg mem cut mv pm ar av crn ph prs lr lf lv vt prr prv) {b : Int32} (hb : b = (if pm ≤ crn then crn else pm)) :
    pg_p g (k + 1) p cfg mem cut mv pm ar av ((b / 16 + 1) * 16 + nI p) 1 0 lr lf lv vt prr prv ∧ pg_ms g (k + 1) 3 (nI p) cfg ((b / 16 + 1) * 16 + nI p) 0 0 := by
  obtain ⟨c, rc, h1, h2, h3, h4, h5, h6, h7, h8, h9, h10, h11, h12, h13, h14, h15⟩ := h
  have hB : ∃ B, b = nI B ∧ B ≤ 16 * k + 15 ∧ rc ≤ B := by
    rw [h7, h11] at hb
    by_cases e : nI (pg_P g c p) ≤ nI rc
    · rw [if_pos e] at hb
      exact ⟨rc, hb, h12, Nat.le_refl _⟩
    · rw [if_neg e] at hb
      refine ⟨pg_P g c p, hb, h8, ?_⟩
      rcases Nat.lt_or_ge (pg_P g c p) rc with l | l
      · exact absurd (nI_le (Nat.le_of_lt l) (by omega)) e
      · exact l
  obtain ⟨B, eB, hBk, hrB⟩ := hB
  have eR : (b / 16 + 1) * 16 + nI p = nI ((B / 16 + 1) * 16 + p) := by
    rw [eB, show (16 : Int32) = nI 16 from rfl, pk_div (by omega) (by omega) (by decide), show (nI (B / 16) + 1) = nI (B / 16 + 1) from nI_1 _, pk_mul, nI_add]
  rw [eR]
  have hlt : rc < (B / 16 + 1) * 16 + p := by omega
  have hmod : ((B / 16 + 1) * 16 + p) % 16 = p := by omega
  have hle : (B / 16 + 1) * 16 + p ≤ 16 * (k + 1) + 15 := by omega
  refine ⟨⟨c, (B / 16 + 1) * 16 + p, h1, by omega, h3, h4, h5, h6, h7, by omega, h9, h10, rfl, hle, ⟨fun r e w => ?_, fun _ => ⟨by omega, hmod, fun q _ hq => ?_⟩⟩, pg_lrn_up (pg_le_rf g) (Nat.le_succ k) h14, h15⟩, ⟨p, c, hp, rfl, h1, by omega, h3, Or.inr (Or.inr (Or.inl ⟨rfl, _, by omega, hle, rfl⟩))⟩⟩
  · have := (h13.1 r e w).1
    exact ⟨by omega, fun _ => by omega⟩
  · rw [b_0] at hq
    exact absurd hq (by decide)
theorem po_tell (hp : p < 16) (h : pg_p g k p cfg mem cut mv pm ar av crn ph prs lr lf lv vt prr prv) : pg_ms g (k + 1) 7 (nI p) cfg mem cut 0 := by
  obtain ⟨c, rc, h1, h2, h3, h4, h5, h6, h7, h8, h9, h10, h11, h12, h13, h14, h15⟩ := h
  exact ⟨p, c, hp, rfl, h1, by omega, h3, Or.inr (Or.inr (Or.inr (Or.inr (Or.inr (Or.inr ⟨rfl, h4, h5⟩)))))⟩
end OWN
end PG5
