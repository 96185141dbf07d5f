section CD12
variable {f_rings f_high f_low : Int32} {a_crashed a_config a_members a_newestCut a_reports a_votes a_myVote a_promised a_acceptedRound a_acceptedValue a_ownRound a_phase a_promisers a_promiserRound a_promiserValue a_learnedRound a_learnedFrom a_learnedValue a_slots a_pr a_pv a_sm : Nat → Int32}
/-! the start -/
def cd_row (n : Nat) (v : Int32) : Nat → Int32 := fun j => if j < n then v else 0
theorem cd_row0 (v : Int32) : cd_row 0 v = fun _ => 0 := by
  funext j
  exact if_neg (Nat.not_lt_zero j)
theorem cd_rowS (p : Nat) (v : Int32) : upd (cd_row p v) p v = cd_row (p + 1) v := by
  funext j
  show (if j = p then v else if j < p then v else 0) = (if j < p + 1 then v else 0)
  by_cases e : j = p
  · rw [if_pos e, if_pos (by omega)]
  · rw [if_neg e]
    by_cases l : j < p
    · rw [if_pos l, if_pos (by omega)]
    · rw [if_neg l, if_neg (by omega)]
theorem cd_rowF (p : Nat) (v : Int32) : cd_fill (cd_row (p * 16) v) (p * 16) v 16 = cd_row ((p + 1) * 16) v := by
  funext j
  show (if p * 16 ≤ j ∧ j < p * 16 + 16 then v else if j < p * 16 then v else 0) = (if j < (p + 1) * 16 then v else 0)
  by_cases e : p * 16 ≤ j ∧ j < p * 16 + 16
  · rw [if_pos e, if_pos (by omega)]
  · rw [if_neg e]
    by_cases l : j < p * 16
    · rw [if_pos l, if_pos (by omega)]
    · rw [if_neg l, if_neg (by omega)]
theorem cd_u0 (p : Nat) : upd (fun _ => 0) p 0 = fun _ => 0 := by
  funext j
  show (if j = p then (0 : Int32) else 0) = 0
  split <;> rfl
theorem cd_f0 (b n : Nat) : cd_fill (fun _ => 0) b 0 n = fun _ => 0 := by
  funext j
  show (if b ≤ j ∧ j < b + n then (0 : Int32) else 0) = 0
  split <;> rfl
def cd_clamp (v lo hi : Int32) : Int32 := if lo ≤ v then (if v ≤ hi then v else hi) else lo
theorem cd_clamp_in {v lo hi : Int32} (h : lo ≤ hi) : lo ≤ cd_clamp v lo hi ∧ cd_clamp v lo hi ≤ hi := by
  unfold cd_clamp
  by_cases a : lo ≤ v
  · rw [if_pos a]
    by_cases b : v ≤ hi
    · rw [if_pos b]; exact ⟨a, b⟩
    · rw [if_neg b]; exact ⟨h, Int32.le_refl _⟩
  · rw [if_neg a]; exact ⟨Int32.le_refl _, h⟩
theorem xw_clamp {post : Int32 → Prop} {v lo hi : Int32} (h : post (cd_clamp v lo hi)) : wpX_clamp post v lo hi := by
  unfold cd_clamp at h
  unfold wpX_clamp
  by_cases a : lo ≤ v
  · rw [if_pos a] at h
    refine br_t a ?_
    by_cases b : v ≤ hi
    · rw [if_pos b] at h; exact br_t b h
    · rw [if_neg b] at h; exact br_f b h
  · rw [if_neg a] at h; exact br_f a h
theorem yw_clamp {A B : Int32 → Prop} {v lo hi : Int32} (hB : ∀ w, ((w ≤ hi → A w) ∧ (¬ w ≤ hi → A hi)) → B w) (h : lo ≤ hi) (ha : A (cd_clamp v lo hi)) : (lo ≤ v → B v) ∧ (¬ lo ≤ v → B lo) := by
  unfold cd_clamp at ha
  by_cases a : lo ≤ v
  · rw [if_pos a] at ha
    refine br_t a (hB v ?_)
    by_cases b : v ≤ hi
    · rw [if_pos b] at ha; exact br_t b ha
    · rw [if_neg b] at ha; exact br_f b ha
  · rw [if_neg a] at ha; exact br_f a (hB lo (br_t h ha))
def cx_0 (r h l f : Int32) (p : Nat) : SX := (r, h, l, fun _ => 0, fun _ => 0, cd_row p f, fun _ => 0, fun _ => 0, cd_row (p * 16) (-1), cd_row p (-1), fun _ => 0, cd_row p (-1), fun _ => 0, fun _ => 0, fun _ => 0, fun _ => 0, fun _ => 0, fun _ => 0, fun _ => 0, fun _ => 0, fun _ => 0, fun _ => 0)
def cy_0 (r h l f : Int32) (p : Nat) : SY := (r, h, l, fun _ => 0, fun _ => 0, cd_row p f, fun _ => 0, cd_row p (-1), fun _ => 0, cd_row p (-1), fun _ => 0, fun _ => 0, fun _ => 0, fun _ => 0, fun _ => 0, fun _ => 0, fun _ => 0, fun _ => 0, cd_row (p * 16) (-1), fun _ => 0, fun _ => 0, fun _ => 0)
theorem xw_iniL {post : SX → Prop} {r h l f : Int32} (hh : post (cx_0 r h l f 16)) : ∀ d p, p + d = 16 → wX_init_219 post f (d + 1) (nI p) r h l (fun _ => 0) (fun _ => 0) (cd_row p f) (fun _ => 0) (fun _ => 0) (cd_row (p * 16) (-1)) (cd_row p (-1)) (fun _ => 0) (cd_row p (-1)) (fun _ => 0) (fun _ => 0) (fun _ => 0) (fun _ => 0) (fun _ => 0) (fun _ => 0) (fun _ => 0) (fun _ => 0) (fun _ => 0) (fun _ => 0) := by
  intro d
  induction d with
  | zero =>
    intro p hp
    have e : p = 16 := by omega
    subst e
    exact br_t (cd_at16 rfl) hh
  | succ d ih =>
    intro p hp
    have ih := ih (p + 1) (by omega)
    refine br_f (cd_ge16 (by omega)) (xw_inst (by omega) ?_)
    unfold cx_inst
    dsimp only
    rw [cd_u0, cd_f0, cd_rowS, cd_rowS, cd_rowF]
    exact nm_r (nI_1 p) ih
theorem yw_iniL {post : SY → Prop} {r h l n : Int32} (hh : post (cy_0 r h l ((1 <<< (n &&& 31)) - 1) 16)) : ∀ d p, p + d = 16 → wY_init_244 post n (d + 1) (nI p) r h l (fun _ => 0) (fun _ => 0) (cd_row p ((1 <<< (n &&& 31)) - 1)) (fun _ => 0) (cd_row p (-1)) (fun _ => 0) (cd_row p (-1)) (fun _ => 0) (fun _ => 0) (fun _ => 0) (fun _ => 0) (fun _ => 0) (fun _ => 0) (fun _ => 0) (fun _ => 0) (cd_row (p * 16) (-1)) (fun _ => 0) (fun _ => 0) (fun _ => 0) := by
  intro d
  induction d with
  | zero =>
    intro p hp
    have e : p = 16 := by omega
    subst e
    exact br_t (cd_at16 rfl) hh
  | succ d ih =>
    intro p hp
    have ih := ih (p + 1) (by omega)
    refine br_f (cd_ge16 (by omega)) ⟨cd_vi (by omega), ?_⟩
    rw [cd_cl (show p < 16 by omega)]
    refine nm_r (cd_rowS p _) (yw_reset (by omega) ?_)
    rw [cd_u0, cd_f0, cd_rowS, cd_rowF]
    exact nm_r (nI_1 p) ih
def i_Rel (k : Nat) (u : SX) (v : SY) : Prop := cy_R u v
theorem i_up {k : Nat} {u : SX} {v : SY} (h : i_Rel k u v) : i_Rel (k + 4) u v := h
theorem cy_R0 {r h l f : Int32} (hr : ∃ K, K ≤ 6 ∧ r = nI K) : cy_R (cx_0 r h l f 16) (cy_0 r h l f 16) := by
  refine ⟨fun _ => 0, fun _ => 0, fun _ => 0, rfl, hr, fun p q _ _ hb => ?_, fun i _ => ⟨rfl, fun _ f _ => rfl, fun n => absurd rfl n⟩⟩
  rw [b_0] at hb
  exact absurd hb (by decide)
theorem i_vc0 (k0 : Int32) (k1 : Int32) (k2 : Int32) (k3 : Int32) : wpX_init (fun u => wpY_init (fun v => i_Rel 4 u v) k0 k1 k2 k3) k0 k1 k2 k3 := by
  have c2 := cd_clamp_in (v := k1) (lo := 2) (hi := 6) (by decide)
  have c2' : (1 : Int32) ≤ cd_clamp k1 2 6 := Int32.le_trans (by decide) c2.1
  have c3 := cd_clamp_in (v := k2) c2'
  have hK : ∃ K, K ≤ 6 ∧ cd_clamp k1 2 6 = nI K := nI_of2 (M := 6) (n := 6) (by decide) (Int32.not_lt.mpr (Int32.le_trans (by decide) c2.1)) c2.2
  unfold wpX_init
  refine xw_clamp (xw_clamp (xw_clamp (xw_clamp (nm_e ⟨17, ?_⟩))))
  have L := xw_iniL (post := fun u => wpY_init (fun v => i_Rel 4 u v) k0 k1 k2 k3) (r := cd_clamp k1 2 6) (h := cd_clamp k2 1 (cd_clamp k1 2 6)) (l := cd_clamp k3 1 (cd_clamp k2 1 (cd_clamp k1 2 6))) (f := (1 <<< (cd_clamp k0 3 16 &&& 31)) - 1) ?_ 16 0 rfl
  · rw [Nat.zero_mul, cd_row0, cd_row0] at L
    exact L
  · have M := yw_iniL (post := fun v => i_Rel 4 (cx_0 (cd_clamp k1 2 6) (cd_clamp k2 1 (cd_clamp k1 2 6)) (cd_clamp k3 1 (cd_clamp k2 1 (cd_clamp k1 2 6))) ((1 <<< (cd_clamp k0 3 16 &&& 31)) - 1) 16) v) (n := cd_clamp k0 3 16) (cy_R0 hK) 16 0 rfl
    rw [Nat.zero_mul, cd_row0, cd_row0] at M
    unfold wpY_init
    refine yw_clamp (hi := 16) (A := fun n => wY_init_177 _ n k1 k2 k3 0 0 0 (fun _ => 0) (fun _ => 0) (fun _ => 0) (fun _ => 0) (fun _ => 0) (fun _ => 0) (fun _ => 0) (fun _ => 0) (fun _ => 0) (fun _ => 0) (fun _ => 0) (fun _ => 0) (fun _ => 0) (fun _ => 0) (fun _ => 0) (fun _ => 0) (fun _ => 0) (fun _ => 0) (fun _ => 0)) (fun w h => h) (by decide) ?_
    refine yw_clamp (hi := 6) (A := fun n => wY_init_193 _ (cd_clamp k0 3 16) n k2 k3 0 0 0 (fun _ => 0) (fun _ => 0) (fun _ => 0) (fun _ => 0) (fun _ => 0) (fun _ => 0) (fun _ => 0) (fun _ => 0) (fun _ => 0) (fun _ => 0) (fun _ => 0) (fun _ => 0) (fun _ => 0) (fun _ => 0) (fun _ => 0) (fun _ => 0) (fun _ => 0) (fun _ => 0) (fun _ => 0)) (fun w h => h) (by decide) ?_
    refine yw_clamp (hi := cd_clamp k1 2 6) (A := fun n => wY_init_207 _ (cd_clamp k0 3 16) (cd_clamp k1 2 6) n k3 0 0 0 (fun _ => 0) (fun _ => 0) (fun _ => 0) (fun _ => 0) (fun _ => 0) (fun _ => 0) (fun _ => 0) (fun _ => 0) (fun _ => 0) (fun _ => 0) (fun _ => 0) (fun _ => 0) (fun _ => 0) (fun _ => 0) (fun _ => 0) (fun _ => 0) (fun _ => 0) (fun _ => 0) (fun _ => 0)) (fun w h => h) c2' ?_
    refine yw_clamp (hi := cd_clamp k2 1 (cd_clamp k1 2 6)) (A := fun n => wY_init_225 _ (cd_clamp k0 3 16) (cd_clamp k1 2 6) (cd_clamp k2 1 (cd_clamp k1 2 6)) n 0 0 0 (fun _ => 0) (fun _ => 0) (fun _ => 0) (fun _ => 0) (fun _ => 0) (fun _ => 0) (fun _ => 0) (fun _ => 0) (fun _ => 0) (fun _ => 0) (fun _ => 0) (fun _ => 0) (fun _ => 0) (fun _ => 0) (fun _ => 0) (fun _ => 0) (fun _ => 0) (fun _ => 0) (fun _ => 0)) (fun w h => h) c3.1 ?_
    exact ⟨17, M⟩
end CD12
