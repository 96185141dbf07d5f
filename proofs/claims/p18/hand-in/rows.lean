section
section CD1
def bt (x : Int32) (i : Nat) : Bool := x.toBitVec.getLsbD i
theorem b_ext {x y : Int32} (h : ∀ i, i < 32 → bt x i = bt y i) : x = y := Int32.toBitVec_inj.mp (BitVec.eq_of_getLsbD_eq (fun i hi => h i hi))
theorem b_or (x y : Int32) (i : Nat) : bt (x ||| y) i = (bt x i || bt y i) := by unfold bt; rw [Int32.toBitVec_or, BitVec.getLsbD_or]
theorem b_and (x y : Int32) (i : Nat) : bt (x &&& y) i = (bt x i && bt y i) := by unfold bt; rw [Int32.toBitVec_and, BitVec.getLsbD_and]
theorem b_xor (x y : Int32) (i : Nat) : bt (x ^^^ y) i = (bt x i ^^ bt y i) := by unfold bt; rw [Int32.toBitVec_xor, BitVec.getLsbD_xor]
theorem b_big {x : Int32} {i : Nat} (h : 32 ≤ i) : bt x i = false := BitVec.getLsbD_of_ge _ _ h
theorem b_65535 (i : Nat) : bt 65535 i = decide (i < 16) := by
  rcases Nat.lt_or_ge i 32 with h | h
  · exact (by decide +kernel : ∀ i, i < 32 → bt 65535 i = decide (i < 16)) i h
  · rw [b_big h, decide_eq_false (by omega)]
theorem b_m1 : ∀ i, i < 32 → bt (-1) i = true := by decide +kernel
theorem b_0 (i : Nat) : bt 0 i = false := BitVec.getLsbD_zero
theorem s_l : ∀ n, n < 32 → ((nI n &&& 31).toBitVec.smod 32).toNat = n := by decide +kernel
theorem b_shl (n : Nat) (hn : n < 32) (x : Int32) {i : Nat} (hi : i < 32) : bt (x <<< (nI n &&& 31)) i = (decide (n ≤ i) && bt x (i - n)) := by
  unfold bt
  rw [Int32.toBitVec_shiftLeft]
  show (x.toBitVec <<< ((nI n &&& 31).toBitVec.smod 32).toNat).getLsbD i = _
  rw [s_l n hn, BitVec.getLsbD_shiftLeft]
  rcases Nat.lt_or_ge i n with h | h
  · simp [h, Nat.not_le.mpr h]
  · simp [hi, h, Nat.not_lt.mpr h]
theorem b_sshr (n : Nat) (hn : n < 32) (x : Int32) {i : Nat} (hi : i < 32) : bt (x >>> (nI n &&& 31)) i = if n + i < 32 then bt x (n + i) else bt x 31 := by
  unfold bt
  rw [Int32.toBitVec_shiftRight]
  show (x.toBitVec.sshiftRight ((nI n &&& 31).toBitVec.smod 32).toNat).getLsbD i = _
  rw [s_l n hn, BitVec.getLsbD_sshiftRight, BitVec.msb_eq_getLsbD_last]
  simp [hi]
theorem cd_b1 (j : Nat) : bt 1 j = decide (j = 0) := by
  rcases Nat.lt_or_ge j 32 with h | h
  · exact (by decide +kernel : ∀ i, i < 32 → bt 1 i = decide (i = 0)) j h
  · rw [b_big h, decide_eq_false (by omega)]
theorem cd_a1z (x : Int32) : x &&& 1 = 0 ↔ bt x 0 = false := by
  constructor
  · intro h
    have e : bt (x &&& 1) 0 = bt x 0 := by rw [b_and, cd_b1]; simp
    rw [h, b_0] at e
    exact e.symm
  · intro h
    apply b_ext
    intro i _
    rw [b_and, cd_b1, b_0]
    by_cases e : i = 0
    · subst e; rw [h]; rfl
    · rw [decide_eq_false e, Bool.and_false]
theorem cd_a1o (x : Int32) (h : ¬ x &&& 1 = 0) : x &&& 1 = 1 := by
  have h1 : bt x 0 = true := by
    cases e : bt x 0
    · exact absurd ((cd_a1z x).mpr e) h
    · rfl
  apply b_ext
  intro i _
  rw [b_and, cd_b1]
  by_cases e : i = 0
  · subst e; rw [h1]; rfl
  · rw [decide_eq_false e, Bool.and_false]
theorem cd_has {x : Int32} {i : Nat} (hi : i < 32) : (x >>> (nI i &&& 31)) &&& 1 = 0 ↔ bt x i = false := by
  rw [cd_a1z, b_sshr i hi x (by omega), if_pos (by omega)]
  exact Iff.rfl
theorem cd_hasn {x : Int32} {i : Nat} (hi : i < 32) : ¬ (x >>> (nI i &&& 31)) &&& 1 = 0 ↔ bt x i = true := by
  rw [cd_has hi]
  cases bt x i <;> simp
theorem cd_has1 {x : Int32} {i : Nat} (hi : i < 32) (h : bt x i = true) : (x >>> (nI i &&& 31)) &&& 1 = 1 := cd_a1o _ ((cd_hasn hi).mpr h)
theorem cd_has0 {x : Int32} {i : Nat} (hi : i < 32) (h : bt x i = false) : (x >>> (nI i &&& 31)) &&& 1 = 0 := (cd_has hi).mpr h
theorem cd_shl1 (q : Nat) (hq : q < 32) {i : Nat} (hi : i < 32) : bt (1 <<< (nI q &&& 31)) i = decide (i = q) := by
  rw [b_shl q hq 1 hi, cd_b1]
  by_cases e : i = q
  · subst e; simp
  · rw [decide_eq_false e]
    by_cases h : q ≤ i
    · rw [decide_eq_false (by omega : ¬ i - q = 0), Bool.and_false]
    · rw [decide_eq_false h, Bool.false_and]
theorem cd_mr (x : Int32) : x - x / 17 * 17 < 17 := by
  rw [irem_eq_mod, Int32.lt_iff_toInt_lt, Int32.toInt_mod]
  have h17 : (17 : Int32).toInt = 17 := by decide
  rw [h17]
  exact Int.tmod_lt_of_pos _ (by omega)
theorem cd_bn {x : Bool} (h : ¬ x = true) : x = false := by cases x <;> simp_all
/-! the number of bits below i -/
def cd_cn (x : Int32) : Nat → Nat
  | 0 => 0
  | i + 1 => cd_cn x i + (if bt x i = true then 1 else 0)
theorem cd_cnS (x : Int32) (i : Nat) : cd_cn x (i + 1) = cd_cn x i + (if bt x i = true then 1 else 0) := rfl
theorem cd_cn_le (x : Int32) : ∀ i, cd_cn x i ≤ i := by
  intro i
  induction i with
  | zero => exact Nat.le_refl 0
  | succ i ih =>
    show cd_cn x i + (if bt x i = true then 1 else 0) ≤ i + 1
    split <;> omega
def cd_ct (x : Int32) : Int32 := nI (cd_cn x 16)
/-! a row of n cells from b on, all v -/
def cd_fill (a : Nat → Int32) (b : Nat) (v : Int32) (n : Nat) : Nat → Int32 := fun j => if b ≤ j ∧ j < b + n then v else a j
theorem cd_fill0 {a : Nat → Int32} {b : Nat} {v : Int32} : cd_fill a b v 0 = a := by
  funext j
  exact if_neg (by omega)
theorem cd_fillS {a : Nat → Int32} {b n : Nat} {v : Int32} : upd (cd_fill a b v n) (b + n) v = cd_fill a b v (n + 1) := by
  funext j
  show (if j = b + n then v else if b ≤ j ∧ j < b + n then v else a j) = (if b ≤ j ∧ j < b + (n + 1) then v else a j)
  by_cases h : j = b + n
  · rw [if_pos h, if_pos (by omega)]
  · rw [if_neg h]
    by_cases h2 : b ≤ j ∧ j < b + n
    · rw [if_pos h2, if_pos (by omega)]
    · rw [if_neg h2, if_neg (by omega)]
theorem cd_fillI {a : Nat → Int32} {b n j : Nat} {v : Int32} (h : b ≤ j) (h2 : j < b + n) : cd_fill a b v n j = v := if_pos ⟨h, h2⟩
theorem cd_fillO {a : Nat → Int32} {b n j : Nat} {v : Int32} (h : ¬ (b ≤ j ∧ j < b + n)) : cd_fill a b v n j = a j := if_neg h
/-! indices -/
theorem cd_i16 (p q : Nat) : nI p * 16 + nI q = nI (p * 16 + q) := by rw [show (16 : Int32) = nI 16 from rfl, pk_mul, nI_add]
theorem cd_i7 (p : Nat) : nI p * 7 = nI (p * 7) := by rw [show (7 : Int32) = nI 7 from rfl, pk_mul]
theorem cd_i7k (p k : Nat) : nI p * 7 + nI k = nI (p * 7 + k) := by rw [cd_i7, nI_add]
end CD1
end
section
section CD2
/-! the class as functions -/
def cd_key (r x : Int32) : Int32 := (x + 1) * (2 * r + 3) - (x + 1) * (2 * r + 3) / 17 * 17
def cd_dst (r s y : Int32) : Int32 := (cd_key r y - cd_key r s + 17) - (cd_key r y - cd_key r s + 17) / 17 * 17
/-- the nearest on a ring and its distance, y below i, b the first bound -/
def cd_nr (m s r b : Int32) : Nat → Int32 × Int32
  | 0 => (-1, b)
  | y + 1 => if ¬ nI y = s ∧ bt m y = true ∧ cd_dst r s (nI y) < (cd_nr m s r b y).2 then (nI y, cd_dst r s (nI y)) else cd_nr m s r b y
def cd_obs (m s r : Int32) : Int32 := (cd_nr m s r 17 16).1
def cd_wat (m o s : Int32) : Nat → Int32
  | 0 => 0
  | r + 1 => if cd_obs m s (nI r) = o then cd_wat m o s r ||| (1 <<< (nI r &&& 31)) else cd_wat m o s r
/-- the lowest free slot among d from j on -/
def cd_fr (s : Nat → Int32) : Nat → Nat → Option Nat
  | 0, _ => none
  | d + 1, j => if s (j * 7 + 6) = 0 then some j else cd_fr s d (j + 1)
def cd_oi : Option Nat → Int32
  | none => -1
  | some i => nI i
def cd_put (s : Nat → Int32) (b : Nat) (kind p c x y z d : Int32) : Nat → Int32 :=
  upd (upd (upd (upd (upd (upd (upd s b kind) (b + 1) p) (b + 2) c) (b + 3) x) (b + 4) y) (b + 5) z) (b + 6) d
def cd_sd (s : Nat → Int32) (p c kind x y z d : Int32) : Nat → Int32 :=
  if d &&& 65535 = 0 then s else match cd_fr s 32 0 with
    | none => s
    | some i => cd_put s (i * 7) kind p c x y z (d &&& 65535)
def cd_not (p : Nat) : Int32 := (1 <<< (nI p &&& 31)) ^^^ (-1)
def cd_off (s : Nat → Int32) (i p : Nat) : Nat → Int32 :=
  if s (i * 7 + 6) &&& cd_not p = 0 then cd_fill (upd s (i * 7 + 6) (s (i * 7 + 6) &&& cd_not p)) (i * 7) 0 7 else upd s (i * 7 + 6) (s (i * 7 + 6) &&& cd_not p)
def cx_send (u : St2) (p : Nat) (kind x y z d : Int32) : St2 := match u with
  | (f_rings, f_high, f_low, a_crashed, a_config, a_members, a_newestCut, a_reports, a_votes, a_myVote, a_promised, a_acceptedRound, a_acceptedValue, a_ownRound, a_phase, a_promisers, a_promiserRound, a_promiserValue, a_learnedRound, a_learnedFrom, a_learnedValue, a_slots) => (f_rings, f_high, f_low, a_crashed, a_config, a_members, a_newestCut, a_reports, a_votes, a_myVote, a_promised, a_acceptedRound, a_acceptedValue, a_ownRound, a_phase, a_promisers, a_promiserRound, a_promiserValue, a_learnedRound, a_learnedFrom, a_learnedValue, cd_sd a_slots (nI p) (a_config p) kind x y z d)
def cx_inst (u : St2) (p : Nat) (n s c : Int32) : St2 := match u with
  | (f_rings, f_high, f_low, a_crashed, a_config, a_members, a_newestCut, a_reports, a_votes, a_myVote, a_promised, a_acceptedRound, a_acceptedValue, a_ownRound, a_phase, a_promisers, a_promiserRound, a_promiserValue, a_learnedRound, a_learnedFrom, a_learnedValue, a_slots) => (f_rings, f_high, f_low, a_crashed, upd a_config p n, upd a_members p s, upd a_newestCut p c, cd_fill a_reports (p * 16) 0 16, cd_fill a_votes (p * 16) (-1) 16, upd a_myVote p (-1), upd a_promised p 0, upd a_acceptedRound p (-1), upd a_acceptedValue p 0, upd a_ownRound p 0, upd a_phase p 0, upd a_promisers p 0, a_promiserRound, a_promiserValue, upd a_learnedRound p 0, upd a_learnedFrom p 0, upd a_learnedValue p 0, a_slots)
def cx_dec (u : St2) (p : Nat) (cut : Int32) : St2 := match u with
  | (f_rings, f_high, f_low, a_crashed, a_config, a_members, a_newestCut, a_reports, a_votes, a_myVote, a_promised, a_acceptedRound, a_acceptedValue, a_ownRound, a_phase, a_promisers, a_promiserRound, a_promiserValue, a_learnedRound, a_learnedFrom, a_learnedValue, a_slots) => cx_send (cx_inst (f_rings, f_high, f_low, a_crashed, a_config, a_members, a_newestCut, a_reports, a_votes, a_myVote, a_promised, a_acceptedRound, a_acceptedValue, a_ownRound, a_phase, a_promisers, a_promiserRound, a_promiserValue, a_learnedRound, a_learnedFrom, a_learnedValue, a_slots) p (a_config p + 1) (a_members p ^^^ cut) cut) p 7 (a_members p ^^^ cut) cut 0 (cut &&& cd_not p)
/-- the stable subjects below s, none where one is unstable -/
def cd_st (rep : Nat → Int32) (b : Nat) (h l : Int32) : Nat → Option Int32
  | 0 => some 0
  | s + 1 => match cd_st rep b h l s with
    | none => none
    | some m => if h ≤ cd_ct (rep (b + s)) then some (m ||| (1 <<< (nI s &&& 31))) else if l ≤ cd_ct (rep (b + s)) then none else some m
def cx_pis (u : St2) (p : Nat) : St2 := match u with
  | (f_rings, f_high, f_low, a_crashed, a_config, a_members, a_newestCut, a_reports, a_votes, a_myVote, a_promised, a_acceptedRound, a_acceptedValue, a_ownRound, a_phase, a_promisers, a_promiserRound, a_promiserValue, a_learnedRound, a_learnedFrom, a_learnedValue, a_slots) => match cd_st a_reports (p * 16) f_high f_low 16 with
    | none => (f_rings, f_high, f_low, a_crashed, a_config, a_members, a_newestCut, a_reports, a_votes, a_myVote, a_promised, a_acceptedRound, a_acceptedValue, a_ownRound, a_phase, a_promisers, a_promiserRound, a_promiserValue, a_learnedRound, a_learnedFrom, a_learnedValue, a_slots)
    | some m => if m = 0 then (f_rings, f_high, f_low, a_crashed, a_config, a_members, a_newestCut, a_reports, a_votes, a_myVote, a_promised, a_acceptedRound, a_acceptedValue, a_ownRound, a_phase, a_promisers, a_promiserRound, a_promiserValue, a_learnedRound, a_learnedFrom, a_learnedValue, a_slots) else cx_send (f_rings, f_high, f_low, a_crashed, a_config, a_members, a_newestCut, a_reports, a_votes, upd a_myVote p m, a_promised, upd a_acceptedRound p 0, upd a_acceptedValue p m, a_ownRound, a_phase, a_promisers, a_promiserRound, a_promiserValue, a_learnedRound, a_learnedFrom, a_learnedValue, a_slots) p 2 m 0 0 (a_members p)
def cx_alert (u : St2) (p s : Nat) (y : Int32) : St2 := match u with
  | (f_rings, f_high, f_low, a_crashed, a_config, a_members, a_newestCut, a_reports, a_votes, a_myVote, a_promised, a_acceptedRound, a_acceptedValue, a_ownRound, a_phase, a_promisers, a_promiserRound, a_promiserValue, a_learnedRound, a_learnedFrom, a_learnedValue, a_slots) => if a_myVote p = -1 ∧ a_promised p = 0 then cx_pis (f_rings, f_high, f_low, a_crashed, a_config, a_members, a_newestCut, upd a_reports (p * 16 + s) (a_reports (p * 16 + s) ||| y), a_votes, a_myVote, a_promised, a_acceptedRound, a_acceptedValue, a_ownRound, a_phase, a_promisers, a_promiserRound, a_promiserValue, a_learnedRound, a_learnedFrom, a_learnedValue, a_slots) p else (f_rings, f_high, f_low, a_crashed, a_config, a_members, a_newestCut, upd a_reports (p * 16 + s) (a_reports (p * 16 + s) ||| y), a_votes, a_myVote, a_promised, a_acceptedRound, a_acceptedValue, a_ownRound, a_phase, a_promisers, a_promiserRound, a_promiserValue, a_learnedRound, a_learnedFrom, a_learnedValue, a_slots)
/-- how many of the cells b .. b + i - 1 hold x -/
def cd_sm (a : Nat → Int32) (b : Nat) (x : Int32) : Nat → Nat
  | 0 => 0
  | i + 1 => cd_sm a b x i + (if a (b + i) = x then 1 else 0)
theorem cd_smS (a : Nat → Int32) (b : Nat) (x : Int32) (i : Nat) : cd_sm a b x (i + 1) = cd_sm a b x i + (if a (b + i) = x then 1 else 0) := rfl
def cd_fq (m : Int32) : Int32 := (3 * m + 3) / 4
def cd_cq (m : Int32) : Int32 := m / 2 + 1
def cx_vote (u : St2) (p q : Nat) (x : Int32) : St2 := match u with
  | (f_rings, f_high, f_low, a_crashed, a_config, a_members, a_newestCut, a_reports, a_votes, a_myVote, a_promised, a_acceptedRound, a_acceptedValue, a_ownRound, a_phase, a_promisers, a_promiserRound, a_promiserValue, a_learnedRound, a_learnedFrom, a_learnedValue, a_slots) => if a_votes (p * 16 + q) = -1 then (if cd_fq (cd_ct (a_members p)) ≤ nI (cd_sm (upd a_votes (p * 16 + q) x) (p * 16) x 16) then cx_dec (f_rings, f_high, f_low, a_crashed, a_config, a_members, a_newestCut, a_reports, upd a_votes (p * 16 + q) x, a_myVote, a_promised, a_acceptedRound, a_acceptedValue, a_ownRound, a_phase, a_promisers, a_promiserRound, a_promiserValue, a_learnedRound, a_learnedFrom, a_learnedValue, a_slots) p x else (f_rings, f_high, f_low, a_crashed, a_config, a_members, a_newestCut, a_reports, upd a_votes (p * 16 + q) x, a_myVote, a_promised, a_acceptedRound, a_acceptedValue, a_ownRound, a_phase, a_promisers, a_promiserRound, a_promiserValue, a_learnedRound, a_learnedFrom, a_learnedValue, a_slots)) else (f_rings, f_high, f_low, a_crashed, a_config, a_members, a_newestCut, a_reports, a_votes, a_myVote, a_promised, a_acceptedRound, a_acceptedValue, a_ownRound, a_phase, a_promisers, a_promiserRound, a_promiserValue, a_learnedRound, a_learnedFrom, a_learnedValue, a_slots)
def cx_prep (u : St2) (p q : Nat) (x : Int32) : St2 := match u with
  | (f_rings, f_high, f_low, a_crashed, a_config, a_members, a_newestCut, a_reports, a_votes, a_myVote, a_promised, a_acceptedRound, a_acceptedValue, a_ownRound, a_phase, a_promisers, a_promiserRound, a_promiserValue, a_learnedRound, a_learnedFrom, a_learnedValue, a_slots) => if a_promised p < x then cx_send (f_rings, f_high, f_low, a_crashed, a_config, a_members, a_newestCut, a_reports, a_votes, a_myVote, upd a_promised p x, a_acceptedRound, a_acceptedValue, a_ownRound, a_phase, a_promisers, a_promiserRound, a_promiserValue, a_learnedRound, a_learnedFrom, a_learnedValue, a_slots) p 4 x (a_acceptedRound p) (a_acceptedValue p) (1 <<< (nI q &&& 31)) else (f_rings, f_high, f_low, a_crashed, a_config, a_members, a_newestCut, a_reports, a_votes, a_myVote, a_promised, a_acceptedRound, a_acceptedValue, a_ownRound, a_phase, a_promisers, a_promiserRound, a_promiserValue, a_learnedRound, a_learnedFrom, a_learnedValue, a_slots)
/-- the newest classic promiser among q below i, and its round -/
def cd_nc (pm : Int32) (pr : Nat → Int32) (b : Nat) : Nat → Option Nat × Int32
  | 0 => (none, 15)
  | q + 1 => if bt pm q = true ∧ (cd_nc pm pr b q).2 < pr (b + q) then (some q, pr (b + q)) else cd_nc pm pr b q
def cd_fp (pm : Int32) (pr : Nat → Int32) (b : Nat) : Nat → Int32
  | 0 => 0
  | q + 1 => if bt pm q = true ∧ pr (b + q) = 0 then cd_fp pm pr b q ||| (1 <<< (nI q &&& 31)) else cd_fp pm pr b q
def cd_sv (vs : Int32) (pv : Nat → Int32) (b : Nat) (w : Int32) : Nat → Nat
  | 0 => 0
  | i + 1 => cd_sv vs pv b w i + (if bt vs i = true ∧ pv (b + i) = w then 1 else 0)
/-- the first of d from j on that are voters with at least en of one value -/
def cd_pd (vs : Int32) (pv : Nat → Int32) (b : Nat) (en : Int32) : Nat → Nat → Option Nat
  | 0, _ => none
  | d + 1, j => if bt vs j = true ∧ en ≤ nI (cd_sv vs pv b (pv (b + j)) 16) then some j else cd_pd vs pv b en d (j + 1)
def cd_lo (vs : Int32) : Nat → Nat → Option Nat
  | 0, _ => none
  | d + 1, j => if bt vs j = true then some j else cd_lo vs d (j + 1)
def cd_en (m : Int32) : Int32 := cd_fq m + cd_cq m - m
def cd_ch (pm m : Int32) (pr pv : Nat → Int32) (b : Nat) : Option Nat := match (cd_nc pm pr b 16).1 with
  | some q => some q
  | none => match cd_pd (cd_fp pm pr b 16) pv b (cd_en (cd_ct m)) 16 0 with
    | some q => some q
    | none => cd_lo (cd_fp pm pr b 16) 16 0
def cx_choose (u : St2) (p : Nat) : St2 := match u with
  | (f_rings, f_high, f_low, a_crashed, a_config, a_members, a_newestCut, a_reports, a_votes, a_myVote, a_promised, a_acceptedRound, a_acceptedValue, a_ownRound, a_phase, a_promisers, a_promiserRound, a_promiserValue, a_learnedRound, a_learnedFrom, a_learnedValue, a_slots) => match cd_ch (a_promisers p) (a_members p) a_promiserRound a_promiserValue (p * 16) with
    | some q => cx_send (f_rings, f_high, f_low, a_crashed, a_config, a_members, a_newestCut, a_reports, a_votes, a_myVote, a_promised, a_acceptedRound, a_acceptedValue, a_ownRound, upd a_phase p 2, a_promisers, a_promiserRound, a_promiserValue, a_learnedRound, a_learnedFrom, a_learnedValue, a_slots) p 5 (a_ownRound p) (a_promiserValue (p * 16 + q)) 0 (a_members p)
    | none => if a_myVote p = -1 then (f_rings, f_high, f_low, a_crashed, a_config, a_members, a_newestCut, a_reports, a_votes, a_myVote, a_promised, a_acceptedRound, a_acceptedValue, a_ownRound, upd a_phase p 0, a_promisers, a_promiserRound, a_promiserValue, a_learnedRound, a_learnedFrom, a_learnedValue, a_slots) else cx_send (f_rings, f_high, f_low, a_crashed, a_config, a_members, a_newestCut, a_reports, a_votes, a_myVote, a_promised, a_acceptedRound, a_acceptedValue, a_ownRound, upd a_phase p 2, a_promisers, a_promiserRound, a_promiserValue, a_learnedRound, a_learnedFrom, a_learnedValue, a_slots) p 5 (a_ownRound p) (a_myVote p) 0 (a_members p)
def cx_prom (u : St2) (p q : Nat) (x y z : Int32) : St2 := match u with
  | (f_rings, f_high, f_low, a_crashed, a_config, a_members, a_newestCut, a_reports, a_votes, a_myVote, a_promised, a_acceptedRound, a_acceptedValue, a_ownRound, a_phase, a_promisers, a_promiserRound, a_promiserValue, a_learnedRound, a_learnedFrom, a_learnedValue, a_slots) => if a_phase p = 1 ∧ x = a_ownRound p ∧ bt (a_promisers p) q = false then (if cd_ct (a_promisers p ||| (1 <<< (nI q &&& 31))) = cd_cq (cd_ct (a_members p)) then cx_choose (f_rings, f_high, f_low, a_crashed, a_config, a_members, a_newestCut, a_reports, a_votes, a_myVote, a_promised, a_acceptedRound, a_acceptedValue, a_ownRound, a_phase, upd a_promisers p (a_promisers p ||| (1 <<< (nI q &&& 31))), upd a_promiserRound (p * 16 + q) y, upd a_promiserValue (p * 16 + q) z, a_learnedRound, a_learnedFrom, a_learnedValue, a_slots) p else (f_rings, f_high, f_low, a_crashed, a_config, a_members, a_newestCut, a_reports, a_votes, a_myVote, a_promised, a_acceptedRound, a_acceptedValue, a_ownRound, a_phase, upd a_promisers p (a_promisers p ||| (1 <<< (nI q &&& 31))), upd a_promiserRound (p * 16 + q) y, upd a_promiserValue (p * 16 + q) z, a_learnedRound, a_learnedFrom, a_learnedValue, a_slots)) else (f_rings, f_high, f_low, a_crashed, a_config, a_members, a_newestCut, a_reports, a_votes, a_myVote, a_promised, a_acceptedRound, a_acceptedValue, a_ownRound, a_phase, a_promisers, a_promiserRound, a_promiserValue, a_learnedRound, a_learnedFrom, a_learnedValue, a_slots)
def cx_acc (u : St2) (p : Nat) (x y : Int32) : St2 := match u with
  | (f_rings, f_high, f_low, a_crashed, a_config, a_members, a_newestCut, a_reports, a_votes, a_myVote, a_promised, a_acceptedRound, a_acceptedValue, a_ownRound, a_phase, a_promisers, a_promiserRound, a_promiserValue, a_learnedRound, a_learnedFrom, a_learnedValue, a_slots) => if a_promised p ≤ x then cx_send (f_rings, f_high, f_low, a_crashed, a_config, a_members, a_newestCut, a_reports, a_votes, a_myVote, upd a_promised p x, upd a_acceptedRound p x, upd a_acceptedValue p y, a_ownRound, a_phase, a_promisers, a_promiserRound, a_promiserValue, a_learnedRound, a_learnedFrom, a_learnedValue, a_slots) p 6 x y 0 (a_members p) else (f_rings, f_high, f_low, a_crashed, a_config, a_members, a_newestCut, a_reports, a_votes, a_myVote, a_promised, a_acceptedRound, a_acceptedValue, a_ownRound, a_phase, a_promisers, a_promiserRound, a_promiserValue, a_learnedRound, a_learnedFrom, a_learnedValue, a_slots)
def cx_lrn (u : St2) (p q : Nat) : St2 := match u with
  | (f_rings, f_high, f_low, a_crashed, a_config, a_members, a_newestCut, a_reports, a_votes, a_myVote, a_promised, a_acceptedRound, a_acceptedValue, a_ownRound, a_phase, a_promisers, a_promiserRound, a_promiserValue, a_learnedRound, a_learnedFrom, a_learnedValue, a_slots) => if cd_cq (cd_ct (a_members p)) ≤ cd_ct (a_learnedFrom p ||| (1 <<< (nI q &&& 31))) then cx_dec (f_rings, f_high, f_low, a_crashed, a_config, a_members, a_newestCut, a_reports, a_votes, a_myVote, a_promised, a_acceptedRound, a_acceptedValue, a_ownRound, a_phase, a_promisers, a_promiserRound, a_promiserValue, a_learnedRound, upd a_learnedFrom p (a_learnedFrom p ||| (1 <<< (nI q &&& 31))), a_learnedValue, a_slots) p (a_learnedValue p) else (f_rings, f_high, f_low, a_crashed, a_config, a_members, a_newestCut, a_reports, a_votes, a_myVote, a_promised, a_acceptedRound, a_acceptedValue, a_ownRound, a_phase, a_promisers, a_promiserRound, a_promiserValue, a_learnedRound, upd a_learnedFrom p (a_learnedFrom p ||| (1 <<< (nI q &&& 31))), a_learnedValue, a_slots)
def cx_acd (u : St2) (p q : Nat) (x y : Int32) : St2 := match u with
  | (f_rings, f_high, f_low, a_crashed, a_config, a_members, a_newestCut, a_reports, a_votes, a_myVote, a_promised, a_acceptedRound, a_acceptedValue, a_ownRound, a_phase, a_promisers, a_promiserRound, a_promiserValue, a_learnedRound, a_learnedFrom, a_learnedValue, a_slots) => if x < a_learnedRound p then (f_rings, f_high, f_low, a_crashed, a_config, a_members, a_newestCut, a_reports, a_votes, a_myVote, a_promised, a_acceptedRound, a_acceptedValue, a_ownRound, a_phase, a_promisers, a_promiserRound, a_promiserValue, a_learnedRound, a_learnedFrom, a_learnedValue, a_slots) else if a_learnedRound p < x then cx_lrn (f_rings, f_high, f_low, a_crashed, a_config, a_members, a_newestCut, a_reports, a_votes, a_myVote, a_promised, a_acceptedRound, a_acceptedValue, a_ownRound, a_phase, a_promisers, a_promiserRound, a_promiserValue, upd a_learnedRound p x, upd a_learnedFrom p 0, upd a_learnedValue p y, a_slots) p q else cx_lrn (f_rings, f_high, f_low, a_crashed, a_config, a_members, a_newestCut, a_reports, a_votes, a_myVote, a_promised, a_acceptedRound, a_acceptedValue, a_ownRound, a_phase, a_promisers, a_promiserRound, a_promiserValue, a_learnedRound, a_learnedFrom, a_learnedValue, a_slots) p q
def cx_mem (u : St2) (p q : Nat) (kind c x y z : Int32) : St2 := match u with
  | (f_rings, f_high, f_low, a_crashed, a_config, a_members, a_newestCut, a_reports, a_votes, a_myVote, a_promised, a_acceptedRound, a_acceptedValue, a_ownRound, a_phase, a_promisers, a_promiserRound, a_promiserValue, a_learnedRound, a_learnedFrom, a_learnedValue, a_slots) => if c < a_config p then (if q = p then (f_rings, f_high, f_low, a_crashed, a_config, a_members, a_newestCut, a_reports, a_votes, a_myVote, a_promised, a_acceptedRound, a_acceptedValue, a_ownRound, a_phase, a_promisers, a_promiserRound, a_promiserValue, a_learnedRound, a_learnedFrom, a_learnedValue, a_slots) else cx_send (f_rings, f_high, f_low, a_crashed, a_config, a_members, a_newestCut, a_reports, a_votes, a_myVote, a_promised, a_acceptedRound, a_acceptedValue, a_ownRound, a_phase, a_promisers, a_promiserRound, a_promiserValue, a_learnedRound, a_learnedFrom, a_learnedValue, a_slots) p 7 (a_members p) (a_newestCut p) 0 (1 <<< (nI q &&& 31)))
    else if a_config p < c then (f_rings, f_high, f_low, a_crashed, a_config, a_members, a_newestCut, a_reports, a_votes, a_myVote, a_promised, a_acceptedRound, a_acceptedValue, a_ownRound, a_phase, a_promisers, a_promiserRound, a_promiserValue, a_learnedRound, a_learnedFrom, a_learnedValue, a_slots)
    else if kind = 1 then cx_alert (f_rings, f_high, f_low, a_crashed, a_config, a_members, a_newestCut, a_reports, a_votes, a_myVote, a_promised, a_acceptedRound, a_acceptedValue, a_ownRound, a_phase, a_promisers, a_promiserRound, a_promiserValue, a_learnedRound, a_learnedFrom, a_learnedValue, a_slots) p x.toNatClampNeg y
    else if kind = 2 then cx_vote (f_rings, f_high, f_low, a_crashed, a_config, a_members, a_newestCut, a_reports, a_votes, a_myVote, a_promised, a_acceptedRound, a_acceptedValue, a_ownRound, a_phase, a_promisers, a_promiserRound, a_promiserValue, a_learnedRound, a_learnedFrom, a_learnedValue, a_slots) p q x
    else if kind = 3 then cx_prep (f_rings, f_high, f_low, a_crashed, a_config, a_members, a_newestCut, a_reports, a_votes, a_myVote, a_promised, a_acceptedRound, a_acceptedValue, a_ownRound, a_phase, a_promisers, a_promiserRound, a_promiserValue, a_learnedRound, a_learnedFrom, a_learnedValue, a_slots) p q x
    else if kind = 4 then cx_prom (f_rings, f_high, f_low, a_crashed, a_config, a_members, a_newestCut, a_reports, a_votes, a_myVote, a_promised, a_acceptedRound, a_acceptedValue, a_ownRound, a_phase, a_promisers, a_promiserRound, a_promiserValue, a_learnedRound, a_learnedFrom, a_learnedValue, a_slots) p q x y z
    else if kind = 5 then cx_acc (f_rings, f_high, f_low, a_crashed, a_config, a_members, a_newestCut, a_reports, a_votes, a_myVote, a_promised, a_acceptedRound, a_acceptedValue, a_ownRound, a_phase, a_promisers, a_promiserRound, a_promiserValue, a_learnedRound, a_learnedFrom, a_learnedValue, a_slots) p x y
    else if kind = 6 then cx_acd (f_rings, f_high, f_low, a_crashed, a_config, a_members, a_newestCut, a_reports, a_votes, a_myVote, a_promised, a_acceptedRound, a_acceptedValue, a_ownRound, a_phase, a_promisers, a_promiserRound, a_promiserValue, a_learnedRound, a_learnedFrom, a_learnedValue, a_slots) p q x y
    else (f_rings, f_high, f_low, a_crashed, a_config, a_members, a_newestCut, a_reports, a_votes, a_myVote, a_promised, a_acceptedRound, a_acceptedValue, a_ownRound, a_phase, a_promisers, a_promiserRound, a_promiserValue, a_learnedRound, a_learnedFrom, a_learnedValue, a_slots)
def cx_recv (u : St2) (p q : Nat) (kind c x y z : Int32) : St2 := match u with
  | (f_rings, f_high, f_low, a_crashed, a_config, a_members, a_newestCut, a_reports, a_votes, a_myVote, a_promised, a_acceptedRound, a_acceptedValue, a_ownRound, a_phase, a_promisers, a_promiserRound, a_promiserValue, a_learnedRound, a_learnedFrom, a_learnedValue, a_slots) => if a_crashed p = 0 then (if kind = 7 then (if a_config p < c then cx_inst (f_rings, f_high, f_low, a_crashed, a_config, a_members, a_newestCut, a_reports, a_votes, a_myVote, a_promised, a_acceptedRound, a_acceptedValue, a_ownRound, a_phase, a_promisers, a_promiserRound, a_promiserValue, a_learnedRound, a_learnedFrom, a_learnedValue, a_slots) p c x y else (f_rings, f_high, f_low, a_crashed, a_config, a_members, a_newestCut, a_reports, a_votes, a_myVote, a_promised, a_acceptedRound, a_acceptedValue, a_ownRound, a_phase, a_promisers, a_promiserRound, a_promiserValue, a_learnedRound, a_learnedFrom, a_learnedValue, a_slots)) else if bt (a_members p) p = true then cx_mem (f_rings, f_high, f_low, a_crashed, a_config, a_members, a_newestCut, a_reports, a_votes, a_myVote, a_promised, a_acceptedRound, a_acceptedValue, a_ownRound, a_phase, a_promisers, a_promiserRound, a_promiserValue, a_learnedRound, a_learnedFrom, a_learnedValue, a_slots) p q kind c x y z else (f_rings, f_high, f_low, a_crashed, a_config, a_members, a_newestCut, a_reports, a_votes, a_myVote, a_promised, a_acceptedRound, a_acceptedValue, a_ownRound, a_phase, a_promisers, a_promiserRound, a_promiserValue, a_learnedRound, a_learnedFrom, a_learnedValue, a_slots)) else (f_rings, f_high, f_low, a_crashed, a_config, a_members, a_newestCut, a_reports, a_votes, a_myVote, a_promised, a_acceptedRound, a_acceptedValue, a_ownRound, a_phase, a_promisers, a_promiserRound, a_promiserValue, a_learnedRound, a_learnedFrom, a_learnedValue, a_slots)
def cx_off (u : St2) (i p : Nat) : St2 := match u with
  | (f_rings, f_high, f_low, a_crashed, a_config, a_members, a_newestCut, a_reports, a_votes, a_myVote, a_promised, a_acceptedRound, a_acceptedValue, a_ownRound, a_phase, a_promisers, a_promiserRound, a_promiserValue, a_learnedRound, a_learnedFrom, a_learnedValue, a_slots) => (f_rings, f_high, f_low, a_crashed, a_config, a_members, a_newestCut, a_reports, a_votes, a_myVote, a_promised, a_acceptedRound, a_acceptedValue, a_ownRound, a_phase, a_promisers, a_promiserRound, a_promiserValue, a_learnedRound, a_learnedFrom, a_learnedValue, cd_off a_slots i p)
def cx_del (u : St2) (i p : Nat) : St2 := match u with
  | (f_rings, f_high, f_low, a_crashed, a_config, a_members, a_newestCut, a_reports, a_votes, a_myVote, a_promised, a_acceptedRound, a_acceptedValue, a_ownRound, a_phase, a_promisers, a_promiserRound, a_promiserValue, a_learnedRound, a_learnedFrom, a_learnedValue, a_slots) => cx_recv (cx_off (f_rings, f_high, f_low, a_crashed, a_config, a_members, a_newestCut, a_reports, a_votes, a_myVote, a_promised, a_acceptedRound, a_acceptedValue, a_ownRound, a_phase, a_promisers, a_promiserRound, a_promiserValue, a_learnedRound, a_learnedFrom, a_learnedValue, a_slots) i p) p (a_slots (i * 7 + 1)).toNatClampNeg (a_slots (i * 7)) (a_slots (i * 7 + 2)) (a_slots (i * 7 + 3)) (a_slots (i * 7 + 4)) (a_slots (i * 7 + 5))
def cx_fb (u : St2) (p : Nat) (r : Int32) : St2 := match u with
  | (f_rings, f_high, f_low, a_crashed, a_config, a_members, a_newestCut, a_reports, a_votes, a_myVote, a_promised, a_acceptedRound, a_acceptedValue, a_ownRound, a_phase, a_promisers, a_promiserRound, a_promiserValue, a_learnedRound, a_learnedFrom, a_learnedValue, a_slots) => cx_send (f_rings, f_high, f_low, a_crashed, a_config, a_members, a_newestCut, a_reports, a_votes, a_myVote, a_promised, a_acceptedRound, a_acceptedValue, upd a_ownRound p r, upd a_phase p 1, upd a_promisers p 0, a_promiserRound, a_promiserValue, a_learnedRound, a_learnedFrom, a_learnedValue, a_slots) p 3 r 0 0 (a_members p)
def cd_stt (cr mem : Int32) (p : Nat) : Int32 := if cr = 0 then (if bt mem p = true then 1 else 2) else 3
end CD2
end
section
section CD3
theorem cd_putO {s : Nat → Int32} {b j : Nat} {kind p c x y z d : Int32} (h : ¬ (b ≤ j ∧ j < b + 7)) : cd_put s b kind p c x y z d j = s j := by
  unfold cd_put
  rw [pk_un (by omega), pk_un (by omega), pk_un (by omega), pk_un (by omega), pk_un (by omega), pk_un (by omega), pk_un (by omega)]
theorem cd_put6 {s : Nat → Int32} {b : Nat} {kind p c x y z d : Int32} : cd_put s b kind p c x y z d (b + 6) = d := pk_us
theorem cd_put3 {s : Nat → Int32} {b : Nat} {kind p c x y z d : Int32} : cd_put s b kind p c x y z d (b + 3) = x := by
  unfold cd_put
  rw [pk_un (by omega), pk_un (by omega), pk_un (by omega), pk_us]
theorem cd_put1 {s : Nat → Int32} {b : Nat} {kind p c x y z d : Int32} : cd_put s b kind p c x y z d (b + 1) = p := by
  unfold cd_put
  rw [pk_un (by omega), pk_un (by omega), pk_un (by omega), pk_un (by omega), pk_un (by omega), pk_us]
theorem cd_put0 {s : Nat → Int32} {b : Nat} {kind p c x y z d : Int32} : cd_put s b kind p c x y z d b = kind := by
  unfold cd_put
  rw [pk_un (by omega), pk_un (by omega), pk_un (by omega), pk_un (by omega), pk_un (by omega), pk_un (by omega), pk_us]
theorem cd_putE {s t : Nat → Int32} {b : Nat} {kind p c x y z d : Int32} {f : Nat} (hf : f < 7) : cd_put s b kind p c x y z d (b + f) = cd_put t b kind p c x y z d (b + f) := by
  unfold cd_put upd
  by_cases h6 : b + f = b + 6
  · rw [if_pos h6, if_pos h6]
  by_cases h5 : b + f = b + 5
  · rw [if_neg h6, if_neg h6, if_pos h5, if_pos h5]
  by_cases h4 : b + f = b + 4
  · rw [if_neg h6, if_neg h6, if_neg h5, if_neg h5, if_pos h4, if_pos h4]
  by_cases h3 : b + f = b + 3
  · rw [if_neg h6, if_neg h6, if_neg h5, if_neg h5, if_neg h4, if_neg h4, if_pos h3, if_pos h3]
  by_cases h2 : b + f = b + 2
  · rw [if_neg h6, if_neg h6, if_neg h5, if_neg h5, if_neg h4, if_neg h4, if_neg h3, if_neg h3, if_pos h2, if_pos h2]
  by_cases h1 : b + f = b + 1
  · rw [if_neg h6, if_neg h6, if_neg h5, if_neg h5, if_neg h4, if_neg h4, if_neg h3, if_neg h3, if_neg h2, if_neg h2, if_pos h1, if_pos h1]
  have h0 : b + f = b := by omega
  rw [if_neg h6, if_neg h6, if_neg h5, if_neg h5, if_neg h4, if_neg h4, if_neg h3, if_neg h3, if_neg h2, if_neg h2, if_neg h1, if_neg h1, if_pos h0, if_pos h0]
theorem cd_fr_in {s : Nat → Int32} : ∀ {d j i : Nat}, cd_fr s d j = some i → i < j + d ∧ s (i * 7 + 6) = 0 := by
  intro d
  induction d with
  | zero => intro j i h; exact absurd h (by unfold cd_fr; exact fun z => nomatch z)
  | succ d ih =>
    intro j i h
    unfold cd_fr at h
    by_cases z : s (j * 7 + 6) = 0
    · rw [if_pos z] at h
      cases h
      exact ⟨by omega, z⟩
    · rw [if_neg z] at h
      have := ih h
      exact ⟨by omega, this.2⟩
theorem cd_fr_eq {s t : Nat → Int32} : ∀ {d j : Nat}, (∀ i, i < j + d → t (i * 7 + 6) = s (i * 7 + 6)) → cd_fr t d j = cd_fr s d j := by
  intro d
  induction d with
  | zero => intro j _; rfl
  | succ d ih =>
    intro j h
    unfold cd_fr
    rw [h j (by omega), ih (fun i hi => h i (by omega))]
end CD3
end
section
section CD4
variable {f_rings f_high f_low : Int32} {a_crashed a_config a_members a_newestCut a_reports a_votes a_myVote a_promised a_acceptedRound a_acceptedValue a_ownRound a_phase a_promisers a_promiserRound a_promiserValue a_learnedRound a_learnedFrom a_learnedValue a_slots : Nat → Int32}
theorem cx_eta {post : St2 → Prop} {u : St2} (h : post u) : (match u with | (f_rings, f_high, f_low, a_crashed, a_config, a_members, a_newestCut, a_reports, a_votes, a_myVote, a_promised, a_acceptedRound, a_acceptedValue, a_ownRound, a_phase, a_promisers, a_promiserRound, a_promiserValue, a_learnedRound, a_learnedFrom, a_learnedValue, a_slots) => post (f_rings, f_high, f_low, a_crashed, a_config, a_members, a_newestCut, a_reports, a_votes, a_myVote, a_promised, a_acceptedRound, a_acceptedValue, a_ownRound, a_phase, a_promisers, a_promiserRound, a_promiserValue, a_learnedRound, a_learnedFrom, a_learnedValue, a_slots)) := h
theorem cd_a0 (n : Nat) : nI n + 0 = nI n := Int32.add_zero _
theorem cd_a1 (n : Nat) : nI n + 1 = nI (n + 1) := nI_add n 1
theorem cd_a2 (n : Nat) : nI n + 2 = nI (n + 2) := nI_add n 2
theorem cd_a3 (n : Nat) : nI n + 3 = nI (n + 3) := nI_add n 3
theorem cd_a4 (n : Nat) : nI n + 4 = nI (n + 4) := nI_add n 4
theorem cd_a5 (n : Nat) : nI n + 5 = nI (n + 5) := nI_add n 5
theorem cd_a6 (n : Nat) : nI n + 6 = nI (n + 6) := nI_add n 6
theorem cd_cl {p : Nat} (hp : p < 16) : (nI p).toNatClampNeg = p := nI_clamp (by omega)
theorem cd_vi {p : Nat} (hp : p < 16) : vp_in (nI p) 16 := vp_in_nI hp (by decide)
theorem cd_cl16 {p q : Nat} (hp : p < 16) (hq : q < 16) : (nI p * 16 + nI q).toNatClampNeg = p * 16 + q := by rw [cd_i16]; exact nI_clamp (by omega)
theorem cd_vi16 {p q : Nat} (hp : p < 16) (hq : q < 16) : vp_in (nI p * 16 + nI q) 256 := by rw [cd_i16]; exact vp_in_nI (by omega) (by decide)
theorem cd_ge16 {i : Nat} (h : i < 16) : ¬ (16 : Int32) ≤ nI i := nI_ge (b := 16) h (by decide)
theorem cd_at16 {i : Nat} (h : i = 16) : (16 : Int32) ≤ nI i := by subst h; decide
theorem cd_ne1 {i : Nat} (h : i < 2 ^ 31) : ¬ nI i = -1 := by
  intro e
  have := nI_pos (n := i) h
  rw [e] at this
  exact this (by decide)
theorem cd_px (x : Int32) : x < 0 ∨ (¬ x < 0 ∧ (16 : Int32) ≤ x ∧ (15 : Int32) < x ∧ ¬ x ≤ 15) ∨ ∃ j, j < 16 ∧ x = nI j := by
  rcases pk_ix x (n := 16) (by decide) with h | h | h
  · exact Or.inl h
  · have h : (16 : Int32) ≤ x := h
    have h15 : (15 : Int32) < x := Int32.lt_of_lt_of_le (by decide) h
    exact Or.inr (Or.inl ⟨fun z => absurd (Int32.lt_of_le_of_lt h z) (by decide), h, h15, Int32.not_le.mpr h15⟩)
  · exact Or.inr (Or.inr h)
theorem cd_sx (x : Int32) : x < 0 ∨ (¬ x < 0 ∧ (32 : Int32) ≤ x) ∨ ∃ j, j < 32 ∧ x = nI j := by
  rcases pk_ix x (n := 32) (by decide) with h | h | h
  · exact Or.inl h
  · have h : (32 : Int32) ≤ x := h
    exact Or.inr (Or.inl ⟨fun z => absurd (Int32.lt_of_le_of_lt h z) (by decide), h⟩)
  · exact Or.inr (Or.inr h)
theorem cd_j0 {j : Nat} (h : j < 16) : ¬ nI j < 0 := nI_pos (by omega)
theorem cd_j15 {j : Nat} (h : j < 16) : ¬ (15 : Int32) < nI j := nI_nlt (a := 15) (b := j) (by omega) (by decide)
theorem cd_l15 {j : Nat} (h : j < 16) : nI j ≤ (15 : Int32) := nI_le (b := 15) (by omega) (by decide)
theorem xw_isP {post : Int32 → Prop} {j : Nat} (hj : j < 16) (h : post 1) : wpX_isProcess post () (nI j) := br_f (cd_j0 hj) (br_f (cd_ge16 hj) h)
theorem xw_has {post : Int32 → Prop} {x : Int32} {i : Nat} (hi : i < 32) (h0 : bt x i = false → post 0) (h1 : bt x i = true → post 1) : wpX_has post () x (nI i) := br_c (fun e => h0 ((cd_has hi).mp e)) (fun e => h1 ((cd_hasn hi).mp e))
theorem xw_key {post : Int32 → Prop} {r x : Int32} (h : post (cd_key r x)) : wpX_key post () r x := ⟨by decide, h⟩
theorem xw_nearL {post : Int32 → Prop} {m s r : Int32} (h : post (cd_obs m s r)) : ∀ d y, y + d = 16 → wX_nearestOnRing_16 post m s r (cd_key r s) (d + 1) (cd_nr m s r 17 y).1 (cd_nr m s r 17 y).2 (nI y) := by
  intro d
  induction d with
  | zero =>
    intro y hy
    have e : y = 16 := by omega
    subst e
    exact br_t (cd_at16 rfl) h
  | succ d ih =>
    intro y hy
    have ih := ih (y + 1) (by omega)
    refine br_f (cd_ge16 (by omega)) (xw_key ⟨by decide, nm_r (e' := cd_dst r s (nI y)) rfl ?_⟩)
    by_cases hs : nI y = s
    · have e : cd_nr m s r 17 (y + 1) = cd_nr m s r 17 y := if_neg (fun z => z.1 hs)
      rw [e] at ih
      exact br_t hs (nm_r (nI_1 y) ih)
    · refine br_f hs (xw_has (by omega) (fun hb => ?_) (fun hb => ?_))
      · have e : cd_nr m s r 17 (y + 1) = cd_nr m s r 17 y := if_neg (fun z => by rw [hb] at z; exact absurd z.2.1 (by decide))
        rw [e] at ih
        exact br_t rfl (nm_r (nI_1 y) ih)
      · refine br_f (by decide) ?_
        by_cases hd : (cd_nr m s r 17 y).2 ≤ cd_dst r s (nI y)
        · have e : cd_nr m s r 17 (y + 1) = cd_nr m s r 17 y := if_neg (fun z => Int32.not_lt.mpr hd z.2.2)
          rw [e] at ih
          exact br_t hd (nm_r (nI_1 y) ih)
        · have e : cd_nr m s r 17 (y + 1) = (nI y, cd_dst r s (nI y)) := if_pos ⟨hs, hb, Int32.not_le.mp hd⟩
          rw [e] at ih
          exact br_f hd (nm_r (nI_1 y) ih)
theorem xw_near {post : Int32 → Prop} {m s r : Int32} (h : post (cd_obs m s r)) : wpX_nearestOnRing post () m s r := by
  unfold wpX_nearestOnRing
  refine xw_key ⟨17, ?_⟩
  exact xw_nearL h 16 0 rfl
theorem xw_watL {post : Int32 → Prop} {o K : Nat} (ho : o < 16) (hK : K ≤ 6) {s : Int32} (h : post (cd_wat (a_members o) (nI o) s K)) : ∀ d r, r + d = K → wX_ringsWatched_5 post (nI o) s (nI K) f_high f_low a_crashed a_config a_members a_newestCut a_reports a_votes a_myVote a_promised a_acceptedRound a_acceptedValue a_ownRound a_phase a_promisers a_promiserRound a_promiserValue a_learnedRound a_learnedFrom a_learnedValue a_slots (d + 1) (cd_wat (a_members o) (nI o) s r) (nI r) := by
  intro d
  induction d with
  | zero =>
    intro r hr
    have e : r = K := by omega
    subst e
    exact br_t (nI_le (Nat.le_refl r) (by omega)) h
  | succ d ih =>
    intro r hr
    have ih := ih (r + 1) (by omega)
    refine br_f (nI_ge (by omega) (by omega)) ⟨cd_vi ho, xw_near ?_⟩
    rw [cd_cl ho]
    by_cases c : cd_obs (a_members o) s (nI r) = nI o
    · have e : cd_wat (a_members o) (nI o) s (r + 1) = cd_wat (a_members o) (nI o) s r ||| (1 <<< (nI r &&& 31)) := if_pos c
      rw [e] at ih
      exact br_t c (nm_e (nm_r (nI_1 r) ih))
    · have e : cd_wat (a_members o) (nI o) s (r + 1) = cd_wat (a_members o) (nI o) s r := if_neg c
      rw [e] at ih
      exact br_f c (nm_r (nI_1 r) ih)
theorem xw_wat {post : Int32 → Prop} {o K : Nat} (ho : o < 16) (hK : K ≤ 6) (hr : f_rings = nI K) {s : Int32} (h : post (cd_wat (a_members o) (nI o) s K)) : wpX_ringsWatched post (f_rings, f_high, f_low, a_crashed, a_config, a_members, a_newestCut, a_reports, a_votes, a_myVote, a_promised, a_acceptedRound, a_acceptedValue, a_ownRound, a_phase, a_promisers, a_promiserRound, a_promiserValue, a_learnedRound, a_learnedFrom, a_learnedValue, a_slots) (nI o) s := by
  subst hr
  exact ⟨K + 1, xw_watL ho hK h K 0 (by omega)⟩
theorem cd_v7 {j k : Nat} (hj : j < 32) (hk : k < 7) : vp_in (nI (j * 7 + k)) 224 := vp_in_nI (by omega) (by decide)
theorem cd_c7 {j k : Nat} (hj : j < 32) (hk : k < 7) : (nI (j * 7 + k)).toNatClampNeg = j * 7 + k := nI_clamp (by omega)
theorem cd_i76 (j : Nat) : nI j * 7 + 6 = nI (j * 7 + 6) := by rw [cd_i7, cd_a6]
theorem xw_freeL {post : Int32 → Prop} : ∀ d j, j + d = 32 → post (cd_oi (cd_fr a_slots d j)) → wX_lowestFreeSlot_2 post f_rings f_high f_low a_crashed a_config a_members a_newestCut a_reports a_votes a_myVote a_promised a_acceptedRound a_acceptedValue a_ownRound a_phase a_promisers a_promiserRound a_promiserValue a_learnedRound a_learnedFrom a_learnedValue a_slots (d + 1) (nI j) := by
  intro d
  induction d with
  | zero =>
    intro j hj h
    have e : j = 32 := by omega
    subst e
    exact br_t (by decide) h
  | succ d ih =>
    intro j hj h
    have ih := ih (j + 1) (by omega)
    refine br_f (nI_ge (b := 32) (by omega) (by decide)) ?_
    rw [cd_i76, cd_c7 (by omega) (by omega)]
    refine ⟨cd_v7 (by omega) (by omega), ?_⟩
    unfold cd_fr at h
    by_cases z : a_slots (j * 7 + 6) = 0
    · rw [if_pos z] at h
      exact br_t z h
    · rw [if_neg z] at h
      exact br_f z (nm_r (nI_1 j) (ih h))
theorem xw_free {post : Int32 → Prop} (h : post (cd_oi (cd_fr a_slots 32 0))) : wpX_lowestFreeSlot post (f_rings, f_high, f_low, a_crashed, a_config, a_members, a_newestCut, a_reports, a_votes, a_myVote, a_promised, a_acceptedRound, a_acceptedValue, a_ownRound, a_phase, a_promisers, a_promiserRound, a_promiserValue, a_learnedRound, a_learnedFrom, a_learnedValue, a_slots) := ⟨33, xw_freeL 32 0 rfl h⟩
theorem xw_send {post : St2 → Prop} {p : Nat} (hp : p < 16) {kind x y z d : Int32} (h : post (cx_send (f_rings, f_high, f_low, a_crashed, a_config, a_members, a_newestCut, a_reports, a_votes, a_myVote, a_promised, a_acceptedRound, a_acceptedValue, a_ownRound, a_phase, a_promisers, a_promiserRound, a_promiserValue, a_learnedRound, a_learnedFrom, a_learnedValue, a_slots) p kind x y z d)) : wpX_send post (f_rings, f_high, f_low, a_crashed, a_config, a_members, a_newestCut, a_reports, a_votes, a_myVote, a_promised, a_acceptedRound, a_acceptedValue, a_ownRound, a_phase, a_promisers, a_promiserRound, a_promiserValue, a_learnedRound, a_learnedFrom, a_learnedValue, a_slots) (nI p) kind x y z d := by
  unfold wpX_send
  refine xw_free ?_
  unfold cx_send cd_sd at h
  dsimp only at h
  by_cases hd : d &&& 65535 = 0
  · rw [if_pos hd] at h
    exact br_t hd h
  · rw [if_neg hd] at h
    refine br_f hd ?_
    cases e : cd_fr a_slots 32 0 with
    | none =>
      rw [e] at h
      exact br_t rfl h
    | some i =>
      rw [e] at h
      have hi := (cd_fr_in e).1
      refine br_f (cd_ne1 (by omega)) (nm_r (cd_i7 i) ?_)
      rw [cd_a0, cd_a1, cd_a2, cd_a3, cd_a4, cd_a5, cd_a6, cd_cl hp]
      rw [cd_c7 (k := 1) (by omega) (by omega), cd_c7 (k := 2) (by omega) (by omega), cd_c7 (k := 3) (by omega) (by omega), cd_c7 (k := 4) (by omega) (by omega), cd_c7 (k := 5) (by omega) (by omega), cd_c7 (k := 6) (by omega) (by omega), show (nI (i * 7)).toNatClampNeg = i * 7 from nI_clamp (by omega)]
      exact ⟨vp_in_nI (by omega) (by decide), nm_e ⟨cd_v7 (by omega) (by omega), nm_e ⟨cd_vi hp, cd_v7 (by omega) (by omega), nm_e ⟨cd_v7 (by omega) (by omega), nm_e ⟨cd_v7 (by omega) (by omega), nm_e ⟨cd_v7 (by omega) (by omega), nm_e ⟨cd_v7 (by omega) (by omega), nm_e h⟩⟩⟩⟩⟩⟩⟩
theorem xw_ctL {post : Int32 → Prop} {x : Int32} (h : post (cd_ct x)) : ∀ d i, i + d = 16 → wX_count_4 post x (d + 1) (nI (cd_cn x i)) (nI i) := by
  intro d
  induction d with
  | zero =>
    intro i hi
    have e : i = 16 := by omega
    subst e
    exact br_t (cd_at16 rfl) h
  | succ d ih =>
    intro i hi
    have ih := ih (i + 1) (by omega)
    refine br_f (cd_ge16 (by omega)) (nm_r (e' := nI (cd_cn x (i + 1))) ?_ (nm_r (nI_1 i) ih))
    rw [cd_cnS]
    cases hb : bt x i
    · rw [cd_has0 (by omega) hb, Int32.add_zero]
      rfl
    · rw [cd_has1 (by omega) hb, nI_1]
      rfl
theorem xw_ct {post : Int32 → Prop} {x : Int32} (h : post (cd_ct x)) : wpX_count post () x := ⟨17, xw_ctL h 16 0 rfl⟩
theorem xw_stt {post : Int32 → Prop} {p : Nat} (hp : p < 16) (h : post (cd_stt (a_crashed p) (a_members p) p)) : wpX_status post (f_rings, f_high, f_low, a_crashed, a_config, a_members, a_newestCut, a_reports, a_votes, a_myVote, a_promised, a_acceptedRound, a_acceptedValue, a_ownRound, a_phase, a_promisers, a_promiserRound, a_promiserValue, a_learnedRound, a_learnedFrom, a_learnedValue, a_slots) (nI p) := by
  unfold wpX_status
  refine xw_isP hp (br_f (by decide) ⟨cd_vi hp, ?_⟩)
  rw [cd_cl hp]
  unfold cd_stt at h
  by_cases c : a_crashed p = 0
  · rw [if_pos c] at h
    refine br_t c ⟨cd_vi hp, xw_has (by omega) (fun hb => ?_) (fun hb => ?_)⟩
    · rw [hb, if_neg (by decide)] at h
      exact br_t rfl h
    · rw [hb, if_pos rfl] at h
      exact br_f (by decide) h
  · rw [if_neg c] at h
    exact br_f c h
end CD4
end
section
section CD5
variable {f_rings f_high f_low : Int32} {a_crashed a_config a_members a_newestCut a_reports a_votes a_myVote a_promised a_acceptedRound a_acceptedValue a_ownRound a_phase a_promisers a_promiserRound a_promiserValue a_learnedRound a_learnedFrom a_learnedValue a_slots : Nat → Int32}
theorem xw_instL {post : St2 → Prop} {p : Nat} (hp : p < 16) (h : post (f_rings, f_high, f_low, a_crashed, a_config, a_members, a_newestCut, cd_fill a_reports (p * 16) 0 16, cd_fill a_votes (p * 16) (-1) 16, upd a_myVote p (-1), upd a_promised p 0, upd a_acceptedRound p (-1), upd a_acceptedValue p 0, upd a_ownRound p 0, upd a_phase p 0, upd a_promisers p 0, a_promiserRound, a_promiserValue, upd a_learnedRound p 0, upd a_learnedFrom p 0, upd a_learnedValue p 0, a_slots)) :
    ∀ d q, q + d = 16 → wX_install_25 post (nI p) f_rings f_high f_low (d + 1) (nI q) a_crashed a_config a_members a_newestCut (cd_fill a_reports (p * 16) 0 q) (cd_fill a_votes (p * 16) (-1) q) a_myVote a_promised a_acceptedRound a_acceptedValue a_ownRound a_phase a_promisers a_promiserRound a_promiserValue a_learnedRound a_learnedFrom a_learnedValue a_slots := by
  intro d
  induction d with
  | zero =>
    intro q hq
    have e : q = 16 := by omega
    subst e
    refine br_t (cd_at16 rfl) ?_
    rw [cd_cl hp]
    exact ⟨cd_vi hp, nm_e ⟨cd_vi hp, nm_e ⟨cd_vi hp, nm_e ⟨cd_vi hp, nm_e ⟨cd_vi hp, nm_e ⟨cd_vi hp, nm_e ⟨cd_vi hp, nm_e ⟨cd_vi hp, nm_e ⟨cd_vi hp, nm_e ⟨cd_vi hp, nm_e h⟩⟩⟩⟩⟩⟩⟩⟩⟩⟩
  | succ d ih =>
    intro q hq
    have ih := ih (q + 1) (by omega)
    refine br_f (cd_ge16 (by omega)) ?_
    rw [cd_cl16 hp (by omega)]
    exact ⟨cd_vi16 hp (by omega), nm_r cd_fillS ⟨cd_vi16 hp (by omega), nm_r cd_fillS (nm_r (nI_1 q) ih)⟩⟩
theorem xw_inst {post : St2 → Prop} {p : Nat} (hp : p < 16) {n s c : Int32} (h : post (cx_inst (f_rings, f_high, f_low, a_crashed, a_config, a_members, a_newestCut, a_reports, a_votes, a_myVote, a_promised, a_acceptedRound, a_acceptedValue, a_ownRound, a_phase, a_promisers, a_promiserRound, a_promiserValue, a_learnedRound, a_learnedFrom, a_learnedValue, a_slots) p n s c)) : wpX_install post (f_rings, f_high, f_low, a_crashed, a_config, a_members, a_newestCut, a_reports, a_votes, a_myVote, a_promised, a_acceptedRound, a_acceptedValue, a_ownRound, a_phase, a_promisers, a_promiserRound, a_promiserValue, a_learnedRound, a_learnedFrom, a_learnedValue, a_slots) (nI p) n s c := by
  unfold wpX_install
  have L := xw_instL (f_rings := f_rings) (f_high := f_high) (f_low := f_low) (a_config := upd a_config p n) (a_members := upd a_members p s) (a_newestCut := upd a_newestCut p c) hp h 16 0 rfl
  rw [cd_fill0, cd_fill0] at L
  dsimp only
  rw [cd_cl hp]
  exact ⟨cd_vi hp, nm_e ⟨cd_vi hp, nm_e ⟨cd_vi hp, nm_e ⟨17, L⟩⟩⟩⟩
theorem xw_dec {post : St2 → Prop} {p : Nat} (hp : p < 16) {c : Int32} (h : post (cx_dec (f_rings, f_high, f_low, a_crashed, a_config, a_members, a_newestCut, a_reports, a_votes, a_myVote, a_promised, a_acceptedRound, a_acceptedValue, a_ownRound, a_phase, a_promisers, a_promiserRound, a_promiserValue, a_learnedRound, a_learnedFrom, a_learnedValue, a_slots) p c)) : wpX_decide post (f_rings, f_high, f_low, a_crashed, a_config, a_members, a_newestCut, a_reports, a_votes, a_myVote, a_promised, a_acceptedRound, a_acceptedValue, a_ownRound, a_phase, a_promisers, a_promiserRound, a_promiserValue, a_learnedRound, a_learnedFrom, a_learnedValue, a_slots) (nI p) c := by
  unfold wpX_decide
  dsimp only
  rw [cd_cl hp]
  refine ⟨cd_vi hp, cd_vi hp, xw_inst hp ?_⟩
  refine ⟨cd_vi hp, xw_send hp ?_⟩
  unfold cx_dec at h
  dsimp only [cx_inst] at h ⊢
  rw [pk_us]
  exact h
theorem xw_offL {post : St2 → Prop} {i : Nat} (hi : i < 32) (h : post (f_rings, f_high, f_low, a_crashed, a_config, a_members, a_newestCut, a_reports, a_votes, a_myVote, a_promised, a_acceptedRound, a_acceptedValue, a_ownRound, a_phase, a_promisers, a_promiserRound, a_promiserValue, a_learnedRound, a_learnedFrom, a_learnedValue, cd_fill a_slots (i * 7) 0 7)) : ∀ d f, f + d = 7 → wX_takeOff_38 post (nI (i * 7)) f_rings f_high f_low (d + 1) (nI f) a_crashed a_config a_members a_newestCut a_reports a_votes a_myVote a_promised a_acceptedRound a_acceptedValue a_ownRound a_phase a_promisers a_promiserRound a_promiserValue a_learnedRound a_learnedFrom a_learnedValue (cd_fill a_slots (i * 7) 0 f) := by
  intro d
  induction d with
  | zero =>
    intro f hf
    have e : f = 7 := by omega
    subst e
    exact br_t (by decide) h
  | succ d ih =>
    intro f hf
    have ih := ih (f + 1) (by omega)
    refine br_f (nI_ge (b := 7) (by omega) (by decide)) ?_
    rw [nI_add, cd_c7 hi (by omega)]
    exact ⟨cd_v7 hi (by omega), nm_r cd_fillS (nm_r (nI_1 f) ih)⟩
theorem xw_off {post : St2 → Prop} {i p : Nat} (hi : i < 32) (h : post (cx_off (f_rings, f_high, f_low, a_crashed, a_config, a_members, a_newestCut, a_reports, a_votes, a_myVote, a_promised, a_acceptedRound, a_acceptedValue, a_ownRound, a_phase, a_promisers, a_promiserRound, a_promiserValue, a_learnedRound, a_learnedFrom, a_learnedValue, a_slots) i p)) : wpX_takeOff post (f_rings, f_high, f_low, a_crashed, a_config, a_members, a_newestCut, a_reports, a_votes, a_myVote, a_promised, a_acceptedRound, a_acceptedValue, a_ownRound, a_phase, a_promisers, a_promiserRound, a_promiserValue, a_learnedRound, a_learnedFrom, a_learnedValue, a_slots) (nI i) (nI p) := by
  unfold wpX_takeOff
  dsimp only
  refine nm_r (cd_i7 i) ?_
  rw [cd_a6, cd_c7 hi (by omega)]
  refine ⟨cd_v7 hi (by omega), cd_v7 hi (by omega), nm_e ⟨cd_v7 hi (by omega), ?_⟩⟩
  rw [pk_us]
  unfold cx_off cd_off at h
  dsimp only at h
  by_cases z : a_slots (i * 7 + 6) &&& cd_not p = 0
  · rw [if_pos z] at h
    have L := xw_offL (f_rings := f_rings) (f_high := f_high) (f_low := f_low) (a_slots := upd a_slots (i * 7 + 6) (a_slots (i * 7 + 6) &&& cd_not p)) hi h 7 0 rfl
    rw [cd_fill0] at L
    exact br_t z ⟨8, L⟩
  · rw [if_neg z] at h
    exact br_f z h
theorem cd_st_none {rep : Nat → Int32} {b : Nat} {h l : Int32} {s : Nat} (e : cd_st rep b h l s = none) : ∀ k, cd_st rep b h l (s + k) = none := by
  intro k
  induction k with
  | zero => exact e
  | succ k ih =>
    show (match cd_st rep b h l (s + k) with
      | none => none
      | some m => if h ≤ cd_ct (rep (b + (s + k))) then some (m ||| (1 <<< (nI (s + k) &&& 31))) else if l ≤ cd_ct (rep (b + (s + k))) then none else some m) = none
    rw [ih]
theorem xw_pisL {post : St2 → Prop} {p : Nat} (hp : p < 16) (h : post (cx_pis (f_rings, f_high, f_low, a_crashed, a_config, a_members, a_newestCut, a_reports, a_votes, a_myVote, a_promised, a_acceptedRound, a_acceptedValue, a_ownRound, a_phase, a_promisers, a_promiserRound, a_promiserValue, a_learnedRound, a_learnedFrom, a_learnedValue, a_slots) p)) : ∀ d s m, s + d = 16 → cd_st a_reports (p * 16) f_high f_low s = some m → wX_proposeIfSettled_4 post (nI p) f_rings f_high f_low a_crashed a_config a_members a_newestCut a_reports a_votes a_myVote a_promised a_acceptedRound a_acceptedValue a_ownRound a_phase a_promisers a_promiserRound a_promiserValue a_learnedRound a_learnedFrom a_learnedValue a_slots (d + 1) m (nI s) := by
  intro d
  induction d with
  | zero =>
    intro s m hs e
    have e2 : s = 16 := by omega
    subst e2
    refine br_t (cd_at16 rfl) ?_
    rw [cd_cl hp]
    unfold cx_pis at h
    dsimp only at h
    rw [e] at h
    dsimp only at h
    by_cases z : m = 0
    · rw [if_pos z] at h
      exact br_t z h
    · rw [if_neg z] at h
      exact br_f z ⟨cd_vi hp, nm_e ⟨cd_vi hp, nm_e ⟨cd_vi hp, nm_e ⟨cd_vi hp, xw_send hp h⟩⟩⟩⟩
  | succ d ih =>
    intro s m hs e
    have ih := ih (s + 1)
    have step : cd_st a_reports (p * 16) f_high f_low (s + 1) = (if f_high ≤ cd_ct (a_reports (p * 16 + s)) then some (m ||| (1 <<< (nI s &&& 31))) else if f_low ≤ cd_ct (a_reports (p * 16 + s)) then none else some m) := by
      show (match cd_st a_reports (p * 16) f_high f_low s with
        | none => none
        | some m => if f_high ≤ cd_ct (a_reports (p * 16 + s)) then some (m ||| (1 <<< (nI s &&& 31))) else if f_low ≤ cd_ct (a_reports (p * 16 + s)) then none else some m) = _
      rw [e]
    refine br_f (cd_ge16 (by omega)) ⟨cd_vi16 hp (by omega), xw_ct ?_⟩
    rw [cd_cl16 hp (by omega)]
    by_cases c1 : cd_ct (a_reports (p * 16 + s)) < f_high
    · refine br_t c1 ?_
      rw [if_neg (Int32.not_le.mpr c1)] at step
      by_cases c2 : cd_ct (a_reports (p * 16 + s)) < f_low
      · rw [if_neg (Int32.not_le.mpr c2)] at step
        exact br_t c2 (nm_r (nI_1 s) (ih m (by omega) step))
      · rw [if_pos (Int32.not_lt.mp c2)] at step
        have e16 := cd_st_none step d
        rw [show s + 1 + d = 16 from by omega] at e16
        unfold cx_pis at h
        dsimp only at h
        rw [e16] at h
        exact br_f c2 h
    · rw [if_pos (Int32.not_lt.mp c1)] at step
      exact br_f c1 (nm_e (nm_r (nI_1 s) (ih _ (by omega) step)))
theorem xw_pis {post : St2 → Prop} {p : Nat} (hp : p < 16) (h : post (cx_pis (f_rings, f_high, f_low, a_crashed, a_config, a_members, a_newestCut, a_reports, a_votes, a_myVote, a_promised, a_acceptedRound, a_acceptedValue, a_ownRound, a_phase, a_promisers, a_promiserRound, a_promiserValue, a_learnedRound, a_learnedFrom, a_learnedValue, a_slots) p)) : wpX_proposeIfSettled post (f_rings, f_high, f_low, a_crashed, a_config, a_members, a_newestCut, a_reports, a_votes, a_myVote, a_promised, a_acceptedRound, a_acceptedValue, a_ownRound, a_phase, a_promisers, a_promiserRound, a_promiserValue, a_learnedRound, a_learnedFrom, a_learnedValue, a_slots) (nI p) := ⟨17, xw_pisL hp h 16 0 0 rfl rfl⟩
theorem xw_alert {post : St2 → Prop} {p s : Nat} (hp : p < 16) (hs : s < 16) {y : Int32} (h : post (cx_alert (f_rings, f_high, f_low, a_crashed, a_config, a_members, a_newestCut, a_reports, a_votes, a_myVote, a_promised, a_acceptedRound, a_acceptedValue, a_ownRound, a_phase, a_promisers, a_promiserRound, a_promiserValue, a_learnedRound, a_learnedFrom, a_learnedValue, a_slots) p s y)) : wpX_onAlert post (f_rings, f_high, f_low, a_crashed, a_config, a_members, a_newestCut, a_reports, a_votes, a_myVote, a_promised, a_acceptedRound, a_acceptedValue, a_ownRound, a_phase, a_promisers, a_promiserRound, a_promiserValue, a_learnedRound, a_learnedFrom, a_learnedValue, a_slots) (nI p) (nI s) y := by
  unfold wpX_onAlert
  dsimp only
  rw [cd_cl hp, cd_cl16 hp hs]
  refine ⟨cd_vi16 hp hs, cd_vi16 hp hs, nm_e ⟨cd_vi hp, ?_⟩⟩
  unfold cx_alert at h
  dsimp only at h
  by_cases c1 : a_myVote p = -1
  · refine br_t c1 ⟨cd_vi hp, ?_⟩
    by_cases c2 : a_promised p = 0
    · rw [if_pos ⟨c1, c2⟩] at h
      exact br_t c2 (xw_pis hp (cx_eta h))
    · rw [if_neg (fun z => c2 z.2)] at h
      exact br_f c2 h
  · rw [if_neg (fun z => c1 z.1)] at h
    exact br_f c1 h
theorem xw_fq {post : Int32 → Prop} {m : Int32} (h : post (cd_fq m)) : wpX_fastQuorum post () m := ⟨by decide, h⟩
theorem xw_cq {post : Int32 → Prop} {m : Int32} (h : post (cd_cq m)) : wpX_classicQuorum post () m := ⟨by decide, h⟩
theorem xw_voteL {post : St2 → Prop} {p : Nat} (hp : p < 16) {x : Int32} (h1 : cd_fq (cd_ct (a_members p)) ≤ nI (cd_sm a_votes (p * 16) x 16) → post (cx_dec (f_rings, f_high, f_low, a_crashed, a_config, a_members, a_newestCut, a_reports, a_votes, a_myVote, a_promised, a_acceptedRound, a_acceptedValue, a_ownRound, a_phase, a_promisers, a_promiserRound, a_promiserValue, a_learnedRound, a_learnedFrom, a_learnedValue, a_slots) p x)) (h2 : ¬ cd_fq (cd_ct (a_members p)) ≤ nI (cd_sm a_votes (p * 16) x 16) → post (f_rings, f_high, f_low, a_crashed, a_config, a_members, a_newestCut, a_reports, a_votes, a_myVote, a_promised, a_acceptedRound, a_acceptedValue, a_ownRound, a_phase, a_promisers, a_promiserRound, a_promiserValue, a_learnedRound, a_learnedFrom, a_learnedValue, a_slots)) :
    ∀ d i, i + d = 16 → wX_onVote_34 post (nI p) x f_rings f_high f_low a_crashed a_config a_members a_newestCut a_reports a_votes a_myVote a_promised a_acceptedRound a_acceptedValue a_ownRound a_phase a_promisers a_promiserRound a_promiserValue a_learnedRound a_learnedFrom a_learnedValue a_slots (d + 1) (nI (cd_sm a_votes (p * 16) x i)) (nI i) := by
  intro d
  induction d with
  | zero =>
    intro i hi
    have e : i = 16 := by omega
    subst e
    refine br_t (cd_at16 rfl) ⟨cd_vi hp, xw_ct (xw_fq ?_)⟩
    rw [cd_cl hp]
    exact br_c (fun z => h2 (Int32.not_le.mpr z)) (fun z => xw_dec hp (cx_eta (h1 (Int32.not_lt.mp z))))
  | succ d ih =>
    intro i hi
    have ih := ih (i + 1) (by omega)
    refine br_f (cd_ge16 (by omega)) ⟨cd_vi16 hp (by omega), ?_⟩
    rw [cd_cl16 hp (by omega)]
    by_cases c : a_votes (p * 16 + i) = x
    · have e : cd_sm a_votes (p * 16) x (i + 1) = cd_sm a_votes (p * 16) x i + 1 := by rw [cd_smS, if_pos c]
      rw [e] at ih
      exact br_t c (nm_r (nI_1 _) (nm_r (nI_1 i) ih))
    · have e : cd_sm a_votes (p * 16) x (i + 1) = cd_sm a_votes (p * 16) x i := by rw [cd_smS, if_neg c]; rfl
      rw [e] at ih
      exact br_f c (nm_r (nI_1 i) ih)
theorem xw_vote {post : St2 → Prop} {p q : Nat} (hp : p < 16) (hq : q < 16) {x : Int32} (h : post (cx_vote (f_rings, f_high, f_low, a_crashed, a_config, a_members, a_newestCut, a_reports, a_votes, a_myVote, a_promised, a_acceptedRound, a_acceptedValue, a_ownRound, a_phase, a_promisers, a_promiserRound, a_promiserValue, a_learnedRound, a_learnedFrom, a_learnedValue, a_slots) p q x)) : wpX_onVote post (f_rings, f_high, f_low, a_crashed, a_config, a_members, a_newestCut, a_reports, a_votes, a_myVote, a_promised, a_acceptedRound, a_acceptedValue, a_ownRound, a_phase, a_promisers, a_promiserRound, a_promiserValue, a_learnedRound, a_learnedFrom, a_learnedValue, a_slots) (nI p) (nI q) x := by
  unfold wpX_onVote
  dsimp only
  rw [cd_cl16 hp hq]
  refine ⟨cd_vi16 hp hq, ?_⟩
  unfold cx_vote at h
  dsimp only at h
  by_cases c : a_votes (p * 16 + q) = -1
  · rw [if_pos c] at h
    refine br_t c ⟨cd_vi16 hp hq, nm_e ⟨17, ?_⟩⟩
    refine xw_voteL hp (fun z => ?_) (fun z => ?_) 16 0 rfl
    · rw [if_pos z] at h; exact h
    · rw [if_neg z] at h; exact h
  · rw [if_neg c] at h
    exact br_f c h
theorem xw_prep {post : St2 → Prop} {p q : Nat} (hp : p < 16) {x : Int32} (h : post (cx_prep (f_rings, f_high, f_low, a_crashed, a_config, a_members, a_newestCut, a_reports, a_votes, a_myVote, a_promised, a_acceptedRound, a_acceptedValue, a_ownRound, a_phase, a_promisers, a_promiserRound, a_promiserValue, a_learnedRound, a_learnedFrom, a_learnedValue, a_slots) p q x)) : wpX_onPrepare post (f_rings, f_high, f_low, a_crashed, a_config, a_members, a_newestCut, a_reports, a_votes, a_myVote, a_promised, a_acceptedRound, a_acceptedValue, a_ownRound, a_phase, a_promisers, a_promiserRound, a_promiserValue, a_learnedRound, a_learnedFrom, a_learnedValue, a_slots) (nI p) (nI q) x := by
  unfold wpX_onPrepare
  dsimp only
  rw [cd_cl hp]
  refine ⟨cd_vi hp, ?_⟩
  unfold cx_prep at h
  dsimp only at h
  by_cases c : x ≤ a_promised p
  · rw [if_neg (Int32.not_lt.mpr c)] at h
    exact br_t c h
  · rw [if_pos (Int32.not_le.mp c)] at h
    exact br_f c ⟨cd_vi hp, nm_e ⟨cd_vi hp, cd_vi hp, xw_send hp h⟩⟩
end CD5
end
section
section CD6
variable {f_rings f_high f_low : Int32} {a_crashed a_config a_members a_newestCut a_reports a_votes a_myVote a_promised a_acceptedRound a_acceptedValue a_ownRound a_phase a_promisers a_promiserRound a_promiserValue a_learnedRound a_learnedFrom a_learnedValue a_slots : Nat → Int32}
theorem xw_ncL {post : Int32 → Prop} {p : Nat} (hp : p < 16) (h : post (cd_oi (cd_nc (a_promisers p) a_promiserRound (p * 16) 16).1)) : ∀ d q, q + d = 16 → wX_newestClassicPromiser_8 post (nI p) f_rings f_high f_low a_crashed a_config a_members a_newestCut a_reports a_votes a_myVote a_promised a_acceptedRound a_acceptedValue a_ownRound a_phase a_promisers a_promiserRound a_promiserValue a_learnedRound a_learnedFrom a_learnedValue a_slots (d + 1) (cd_oi (cd_nc (a_promisers p) a_promiserRound (p * 16) q).1) (cd_nc (a_promisers p) a_promiserRound (p * 16) q).2 (nI q) := by
  intro d
  induction d with
  | zero =>
    intro q hq
    have e : q = 16 := by omega
    subst e
    exact br_t (cd_at16 rfl) h
  | succ d ih =>
    intro q hq
    have ih := ih (q + 1) (by omega)
    refine br_f (cd_ge16 (by omega)) ⟨cd_vi hp, ?_⟩
    rw [cd_cl hp, cd_cl16 hp (by omega)]
    refine xw_has (by omega) (fun hb => ?_) (fun hb => ?_)
    · have e : cd_nc (a_promisers p) a_promiserRound (p * 16) (q + 1) = cd_nc (a_promisers p) a_promiserRound (p * 16) q := if_neg (fun z => by rw [hb] at z; exact absurd z.1 (by decide))
      rw [e] at ih
      exact br_t rfl (nm_r (nI_1 q) ih)
    · refine br_f (by decide) ⟨cd_vi16 hp (by omega), ?_⟩
      by_cases c : a_promiserRound (p * 16 + q) ≤ (cd_nc (a_promisers p) a_promiserRound (p * 16) q).2
      · have e : cd_nc (a_promisers p) a_promiserRound (p * 16) (q + 1) = cd_nc (a_promisers p) a_promiserRound (p * 16) q := if_neg (fun z => Int32.not_lt.mpr c z.2)
        rw [e] at ih
        exact br_t c (nm_r (nI_1 q) ih)
      · have e : cd_nc (a_promisers p) a_promiserRound (p * 16) (q + 1) = (some q, a_promiserRound (p * 16 + q)) := if_pos ⟨hb, Int32.not_le.mp c⟩
        rw [e] at ih
        exact br_f c ⟨cd_vi16 hp (by omega), nm_e (nm_r (nI_1 q) ih)⟩
theorem xw_nc {post : Int32 → Prop} {p : Nat} (hp : p < 16) (h : post (cd_oi (cd_nc (a_promisers p) a_promiserRound (p * 16) 16).1)) : wpX_newestClassicPromiser post (f_rings, f_high, f_low, a_crashed, a_config, a_members, a_newestCut, a_reports, a_votes, a_myVote, a_promised, a_acceptedRound, a_acceptedValue, a_ownRound, a_phase, a_promisers, a_promiserRound, a_promiserValue, a_learnedRound, a_learnedFrom, a_learnedValue, a_slots) (nI p) := ⟨17, xw_ncL hp h 16 0 rfl⟩
theorem xw_fpL {post : Int32 → Prop} {p : Nat} (hp : p < 16) (h : post (cd_fp (a_promisers p) a_promiserRound (p * 16) 16)) : ∀ d q, q + d = 16 → wX_fastPromisers_4 post (nI p) f_rings f_high f_low a_crashed a_config a_members a_newestCut a_reports a_votes a_myVote a_promised a_acceptedRound a_acceptedValue a_ownRound a_phase a_promisers a_promiserRound a_promiserValue a_learnedRound a_learnedFrom a_learnedValue a_slots (d + 1) (cd_fp (a_promisers p) a_promiserRound (p * 16) q) (nI q) := by
  intro d
  induction d with
  | zero =>
    intro q hq
    have e : q = 16 := by omega
    subst e
    exact br_t (cd_at16 rfl) h
  | succ d ih =>
    intro q hq
    have ih := ih (q + 1) (by omega)
    refine br_f (cd_ge16 (by omega)) ⟨cd_vi hp, ?_⟩
    rw [cd_cl hp, cd_cl16 hp (by omega)]
    refine xw_has (by omega) (fun hb => ?_) (fun hb => ?_)
    · have e : cd_fp (a_promisers p) a_promiserRound (p * 16) (q + 1) = cd_fp (a_promisers p) a_promiserRound (p * 16) q := if_neg (fun z => by rw [hb] at z; exact absurd z.1 (by decide))
      rw [e] at ih
      exact br_t rfl (nm_r (nI_1 q) ih)
    · refine br_f (by decide) ⟨cd_vi16 hp (by omega), ?_⟩
      by_cases c : a_promiserRound (p * 16 + q) = 0
      · have e : cd_fp (a_promisers p) a_promiserRound (p * 16) (q + 1) = cd_fp (a_promisers p) a_promiserRound (p * 16) q ||| (1 <<< (nI q &&& 31)) := if_pos ⟨hb, c⟩
        rw [e] at ih
        exact br_t c (nm_e (nm_r (nI_1 q) ih))
      · have e : cd_fp (a_promisers p) a_promiserRound (p * 16) (q + 1) = cd_fp (a_promisers p) a_promiserRound (p * 16) q := if_neg (fun z => c z.2)
        rw [e] at ih
        exact br_f c (nm_r (nI_1 q) ih)
theorem xw_fp {post : Int32 → Prop} {p : Nat} (hp : p < 16) (h : post (cd_fp (a_promisers p) a_promiserRound (p * 16) 16)) : wpX_fastPromisers post (f_rings, f_high, f_low, a_crashed, a_config, a_members, a_newestCut, a_reports, a_votes, a_myVote, a_promised, a_acceptedRound, a_acceptedValue, a_ownRound, a_phase, a_promisers, a_promiserRound, a_promiserValue, a_learnedRound, a_learnedFrom, a_learnedValue, a_slots) (nI p) := ⟨17, xw_fpL hp h 16 0 rfl⟩
theorem cd_svS {vs : Int32} {pv : Nat → Int32} {b : Nat} {w : Int32} {i : Nat} : cd_sv vs pv b w (i + 1) = cd_sv vs pv b w i + (if bt vs i = true ∧ pv (b + i) = w then 1 else 0) := rfl
theorem xw_pdI {post : Int32 → Prop} {J : Int32 → Prop} {p q : Nat} (hp : p < 16) (hq : q < 16) {vs en : Int32}
    (h1 : bt vs q = true ∧ en ≤ nI (cd_sv vs a_promiserValue (p * 16) (a_promiserValue (p * 16 + q)) 16) → post (nI q))
    (h2 : ¬ (bt vs q = true ∧ en ≤ nI (cd_sv vs a_promiserValue (p * 16) (a_promiserValue (p * 16 + q)) 16)) → J (nI (q + 1))) :
    ∀ d i, i + d = 16 → wX_possiblyDecisiveVoter_39 post J (nI p) vs en (nI q) f_rings f_high f_low a_crashed a_config a_members a_newestCut a_reports a_votes a_myVote a_promised a_acceptedRound a_acceptedValue a_ownRound a_phase a_promisers a_promiserRound a_promiserValue a_learnedRound a_learnedFrom a_learnedValue a_slots (d + 1) (nI (cd_sv vs a_promiserValue (p * 16) (a_promiserValue (p * 16 + q)) i)) (nI i) := by
  intro d
  induction d with
  | zero =>
    intro i hi
    have e : i = 16 := by omega
    subst e
    refine br_t (cd_at16 rfl) (xw_has (by omega) (fun hb => ?_) (fun hb => ?_))
    · exact br_t rfl (nm_r (nI_1 q) (h2 (fun z => by rw [hb] at z; exact absurd z.1 (by decide))))
    · refine br_f (by decide) (br_c (fun z => nm_r (nI_1 q) (h2 (fun y => Int32.not_le.mpr z y.2))) (fun z => h1 ⟨hb, Int32.not_lt.mp z⟩))
  | succ d ih =>
    intro i hi
    have ih := ih (i + 1) (by omega)
    refine br_f (cd_ge16 (by omega)) ?_
    rw [cd_cl16 hp hq, cd_cl16 hp (show i < 16 by omega)]
    rw [cd_svS] at ih
    refine xw_has (by omega) (fun hb => ?_) (fun hb => ?_)
    · rw [if_neg (fun z => by rw [hb] at z; exact absurd z.1 (by decide))] at ih
      exact br_t rfl (nm_r (nI_1 i) ih)
    · refine br_f (by decide) ⟨cd_vi16 hp (by omega), cd_vi16 hp hq, ?_⟩
      by_cases c : a_promiserValue (p * 16 + i) = a_promiserValue (p * 16 + q)
      · rw [if_pos ⟨hb, c⟩] at ih
        exact br_t c (nm_r (nI_1 _) (nm_r (nI_1 i) ih))
      · rw [if_neg (fun z => c z.2)] at ih
        exact br_f c (nm_r (nI_1 i) ih)
theorem xw_pdL {post : Int32 → Prop} {p : Nat} (hp : p < 16) {vs en : Int32} : ∀ d j, j + d = 16 → post (cd_oi (cd_pd vs a_promiserValue (p * 16) en d j)) → wX_possiblyDecisiveVoter_26 post (nI p) vs en f_rings f_high f_low a_crashed a_config a_members a_newestCut a_reports a_votes a_myVote a_promised a_acceptedRound a_acceptedValue a_ownRound a_phase a_promisers a_promiserRound a_promiserValue a_learnedRound a_learnedFrom a_learnedValue a_slots (d + 1) (nI j) := by
  intro d
  induction d with
  | zero =>
    intro j hj h
    have e : j = 16 := by omega
    subst e
    exact br_t (cd_at16 rfl) h
  | succ d ih =>
    intro j hj h
    refine br_f (cd_ge16 (by omega)) ⟨17, ?_⟩
    unfold cd_pd at h
    refine xw_pdI hp (by omega) (fun z => ?_) (fun z => ?_) 16 0 rfl
    · rw [if_pos z] at h; exact h
    · rw [if_neg z] at h; exact ih (j + 1) (by omega) h
theorem xw_pd {post : Int32 → Prop} {p : Nat} (hp : p < 16) {vs : Int32} (h : post (cd_oi (cd_pd vs a_promiserValue (p * 16) (cd_en (cd_ct (a_members p))) 16 0))) : wpX_possiblyDecisiveVoter post (f_rings, f_high, f_low, a_crashed, a_config, a_members, a_newestCut, a_reports, a_votes, a_myVote, a_promised, a_acceptedRound, a_acceptedValue, a_ownRound, a_phase, a_promisers, a_promiserRound, a_promiserValue, a_learnedRound, a_learnedFrom, a_learnedValue, a_slots) (nI p) vs := by
  unfold wpX_possiblyDecisiveVoter
  refine ⟨cd_vi hp, xw_ct (xw_fq (xw_cq ?_))⟩
  rw [cd_cl hp]
  exact nm_r (e' := cd_en (cd_ct (a_members p))) rfl ⟨17, xw_pdL hp 16 0 rfl h⟩
theorem xw_loL {post : Int32 → Prop} {vs : Int32} : ∀ d j, j + d = 16 → post (cd_oi (cd_lo vs d j)) → wX_leastOf_2 post vs (d + 1) (nI j) := by
  intro d
  induction d with
  | zero =>
    intro j hj h
    have e : j = 16 := by omega
    subst e
    exact br_t (cd_at16 rfl) h
  | succ d ih =>
    intro j hj h
    unfold cd_lo at h
    refine br_f (cd_ge16 (by omega)) (xw_has (by omega) (fun hb => ?_) (fun hb => ?_))
    · rw [if_neg (by rw [hb]; decide)] at h
      exact br_t rfl (nm_r (nI_1 j) (ih (j + 1) (by omega) h))
    · rw [if_pos hb] at h
      exact br_f (by decide) h
theorem xw_lo {post : Int32 → Prop} {vs : Int32} (h : post (cd_oi (cd_lo vs 16 0))) : wpX_leastOf post () vs := ⟨17, xw_loL 16 0 rfl h⟩
theorem cd_nc_lt {pm : Int32} {pr : Nat → Int32} {b : Nat} : ∀ n q0, (cd_nc pm pr b n).1 = some q0 → q0 < n := by
  intro n
  induction n with
  | zero => intro q0 h; exact absurd h (by unfold cd_nc; simp)
  | succ n ih =>
    intro q0 h
    unfold cd_nc at h
    by_cases c : bt pm n = true ∧ (cd_nc pm pr b n).2 < pr (b + n)
    · rw [if_pos c] at h
      cases h
      omega
    · rw [if_neg c] at h
      have := ih q0 h
      omega
theorem cd_pd_lt {vs en : Int32} {pv : Nat → Int32} {b : Nat} : ∀ d j q0, cd_pd vs pv b en d j = some q0 → q0 < j + d := by
  intro d
  induction d with
  | zero => intro j q0 h; exact absurd h (by unfold cd_pd; simp)
  | succ d ih =>
    intro j q0 h
    unfold cd_pd at h
    by_cases c : bt vs j = true ∧ en ≤ nI (cd_sv vs pv b (pv (b + j)) 16)
    · rw [if_pos c] at h
      cases h
      omega
    · rw [if_neg c] at h
      have := ih (j + 1) q0 h
      omega
theorem cd_lo_lt {vs : Int32} : ∀ d j q0, cd_lo vs d j = some q0 → q0 < j + d := by
  intro d
  induction d with
  | zero => intro j q0 h; exact absurd h (by unfold cd_lo; simp)
  | succ d ih =>
    intro j q0 h
    unfold cd_lo at h
    by_cases c : bt vs j = true
    · rw [if_pos c] at h
      cases h
      omega
    · rw [if_neg c] at h
      have := ih (j + 1) q0 h
      omega
theorem cd_ch_lt {pm m : Int32} {pr pv : Nat → Int32} {b q0 : Nat} (h : cd_ch pm m pr pv b = some q0) : q0 < 16 := by
  unfold cd_ch at h
  cases e1 : (cd_nc pm pr b 16).1 with
  | some q => rw [e1] at h; cases h; exact cd_nc_lt 16 q0 e1
  | none =>
    rw [e1] at h
    dsimp only at h
    cases e2 : cd_pd (cd_fp pm pr b 16) pv b (cd_en (cd_ct m)) 16 0 with
    | some q => rw [e2] at h; cases h; have := cd_pd_lt 16 0 q0 e2; omega
    | none => rw [e2] at h; have := cd_lo_lt 16 0 q0 h; omega
theorem xw_ch {post : Int32 → Prop} {p : Nat} (hp : p < 16) (h : post (cd_oi (cd_ch (a_promisers p) (a_members p) a_promiserRound a_promiserValue (p * 16)))) : wpX_chosenPromiser post (f_rings, f_high, f_low, a_crashed, a_config, a_members, a_newestCut, a_reports, a_votes, a_myVote, a_promised, a_acceptedRound, a_acceptedValue, a_ownRound, a_phase, a_promisers, a_promiserRound, a_promiserValue, a_learnedRound, a_learnedFrom, a_learnedValue, a_slots) (nI p) := by
  unfold wpX_chosenPromiser
  refine xw_nc hp ?_
  unfold cd_ch at h
  cases e1 : (cd_nc (a_promisers p) a_promiserRound (p * 16) 16).1 with
  | some q =>
    rw [e1] at h
    have := cd_nc_lt 16 q e1
    exact br_f (cd_ne1 (by omega)) h
  | none =>
    rw [e1] at h
    dsimp only at h
    refine br_t rfl (xw_fp hp (xw_pd hp ?_))
    cases e2 : cd_pd (cd_fp (a_promisers p) a_promiserRound (p * 16) 16) a_promiserValue (p * 16) (cd_en (cd_ct (a_members p))) 16 0 with
    | some q =>
      rw [e2] at h
      have := cd_pd_lt 16 0 q e2
      exact br_f (cd_ne1 (by omega)) h
    | none =>
      rw [e2] at h
      exact br_t rfl (xw_lo h)
theorem xw_prom {post : St2 → Prop} {p q : Nat} (hp : p < 16) (hq : q < 16) {x y z : Int32} (h : post (cx_prom (f_rings, f_high, f_low, a_crashed, a_config, a_members, a_newestCut, a_reports, a_votes, a_myVote, a_promised, a_acceptedRound, a_acceptedValue, a_ownRound, a_phase, a_promisers, a_promiserRound, a_promiserValue, a_learnedRound, a_learnedFrom, a_learnedValue, a_slots) p q x y z)) : wpX_onPromise post (f_rings, f_high, f_low, a_crashed, a_config, a_members, a_newestCut, a_reports, a_votes, a_myVote, a_promised, a_acceptedRound, a_acceptedValue, a_ownRound, a_phase, a_promisers, a_promiserRound, a_promiserValue, a_learnedRound, a_learnedFrom, a_learnedValue, a_slots) (nI p) (nI q) x y z := by
  unfold wpX_onPromise
  dsimp only
  rw [cd_cl hp, cd_cl16 hp hq]
  refine ⟨cd_vi hp, ?_⟩
  unfold cx_prom at h
  dsimp only at h
  by_cases c1 : a_phase p = 1
  · refine br_t c1 ⟨cd_vi hp, ?_⟩
    by_cases c2 : x = a_ownRound p
    · refine br_t c2 ⟨cd_vi hp, xw_has (by omega) (fun hb => ?_) (fun hb => ?_)⟩
      · rw [if_pos ⟨c1, c2, hb⟩] at h
        refine br_t rfl ⟨cd_vi hp, cd_vi hp, nm_e ⟨cd_vi16 hp hq, nm_e ⟨cd_vi16 hp hq, nm_e ⟨cd_vi hp, xw_ct ⟨cd_vi hp, ?_⟩⟩⟩⟩⟩
        rw [pk_us]
        refine xw_ct (xw_cq ?_)
        by_cases c3 : cd_ct (a_promisers p ||| (1 <<< (nI q &&& 31))) = cd_cq (cd_ct (a_members p))
        · rw [if_pos c3] at h
          refine br_t c3 (xw_ch hp ?_)
          unfold cx_choose at h
          dsimp only at h
          cases e : cd_ch (upd a_promisers p (a_promisers p ||| (1 <<< (nI q &&& 31))) p) (a_members p) (upd a_promiserRound (p * 16 + q) y) (upd a_promiserValue (p * 16 + q) z) (p * 16) with
          | some q0 =>
            rw [e] at h
            have h16 := cd_ch_lt e
            refine br_f (cd_ne1 (by omega)) (br_f (cd_ne1 (by omega)) ⟨cd_vi16 hp h16, ?_⟩)
            rw [show cd_oi (some q0) = nI q0 from rfl, cd_cl16 hp h16]
            unfold wX_onPromise_159
            rw [cd_cl hp]
            exact ⟨cd_vi hp, nm_e ⟨cd_vi hp, cd_vi hp, xw_send hp h⟩⟩
          | none =>
            rw [e] at h
            dsimp only at h
            refine br_t rfl ⟨cd_vi hp, ?_⟩
            by_cases c4 : a_myVote p = -1
            · rw [if_pos c4] at h
              exact br_t c4 ⟨cd_vi hp, nm_e h⟩
            · rw [if_neg c4] at h
              refine br_f c4 (br_t rfl ⟨cd_vi hp, ?_⟩)
              unfold wX_onPromise_159
              rw [cd_cl hp]
              exact ⟨cd_vi hp, nm_e ⟨cd_vi hp, cd_vi hp, xw_send hp h⟩⟩
        · rw [if_neg c3] at h
          exact br_f c3 h
      · rw [if_neg (fun w => by rw [hb] at w; exact absurd w.2.2 (by decide))] at h
        exact br_f (by decide) h
    · rw [if_neg (fun w => c2 w.2.1)] at h
      exact br_f c2 h
  · rw [if_neg (fun w => c1 w.1)] at h
    exact br_f c1 h
theorem xw_acc {post : St2 → Prop} {p : Nat} (hp : p < 16) {x y : Int32} (h : post (cx_acc (f_rings, f_high, f_low, a_crashed, a_config, a_members, a_newestCut, a_reports, a_votes, a_myVote, a_promised, a_acceptedRound, a_acceptedValue, a_ownRound, a_phase, a_promisers, a_promiserRound, a_promiserValue, a_learnedRound, a_learnedFrom, a_learnedValue, a_slots) p x y)) : wpX_onAccept post (f_rings, f_high, f_low, a_crashed, a_config, a_members, a_newestCut, a_reports, a_votes, a_myVote, a_promised, a_acceptedRound, a_acceptedValue, a_ownRound, a_phase, a_promisers, a_promiserRound, a_promiserValue, a_learnedRound, a_learnedFrom, a_learnedValue, a_slots) (nI p) x y := by
  unfold wpX_onAccept
  dsimp only
  rw [cd_cl hp]
  refine ⟨cd_vi hp, ?_⟩
  unfold cx_acc at h
  dsimp only at h
  by_cases c : x < a_promised p
  · rw [if_neg (Int32.not_le.mpr c)] at h
    exact br_t c h
  · rw [if_pos (Int32.not_lt.mp c)] at h
    exact br_f c ⟨cd_vi hp, nm_e ⟨cd_vi hp, nm_e ⟨cd_vi hp, nm_e ⟨cd_vi hp, xw_send hp h⟩⟩⟩⟩
theorem xw_lrn {post : St2 → Prop} {p q : Nat} (hp : p < 16) (h : post (cx_lrn (f_rings, f_high, f_low, a_crashed, a_config, a_members, a_newestCut, a_reports, a_votes, a_myVote, a_promised, a_acceptedRound, a_acceptedValue, a_ownRound, a_phase, a_promisers, a_promiserRound, a_promiserValue, a_learnedRound, a_learnedFrom, a_learnedValue, a_slots) p q)) : wX_onAccepted_43 post (nI p) (nI q) f_rings f_high f_low a_crashed a_config a_members a_newestCut a_reports a_votes a_myVote a_promised a_acceptedRound a_acceptedValue a_ownRound a_phase a_promisers a_promiserRound a_promiserValue a_learnedRound a_learnedFrom a_learnedValue a_slots := by
  unfold wX_onAccepted_43
  rw [cd_cl hp]
  refine ⟨cd_vi hp, cd_vi hp, nm_e ⟨cd_vi hp, xw_ct ⟨cd_vi hp, ?_⟩⟩⟩
  rw [pk_us]
  refine xw_ct (xw_cq ?_)
  unfold cx_lrn at h
  dsimp only at h
  by_cases c : cd_ct (a_learnedFrom p ||| (1 <<< (nI q &&& 31))) < cd_cq (cd_ct (a_members p))
  · rw [if_neg (Int32.not_le.mpr c)] at h
    exact br_t c h
  · rw [if_pos (Int32.not_lt.mp c)] at h
    exact br_f c ⟨cd_vi hp, xw_dec hp (cx_eta h)⟩
theorem xw_acd {post : St2 → Prop} {p q : Nat} (hp : p < 16) {x y : Int32} (h : post (cx_acd (f_rings, f_high, f_low, a_crashed, a_config, a_members, a_newestCut, a_reports, a_votes, a_myVote, a_promised, a_acceptedRound, a_acceptedValue, a_ownRound, a_phase, a_promisers, a_promiserRound, a_promiserValue, a_learnedRound, a_learnedFrom, a_learnedValue, a_slots) p q x y)) : wpX_onAccepted post (f_rings, f_high, f_low, a_crashed, a_config, a_members, a_newestCut, a_reports, a_votes, a_myVote, a_promised, a_acceptedRound, a_acceptedValue, a_ownRound, a_phase, a_promisers, a_promiserRound, a_promiserValue, a_learnedRound, a_learnedFrom, a_learnedValue, a_slots) (nI p) (nI q) x y := by
  unfold wpX_onAccepted
  dsimp only
  rw [cd_cl hp]
  refine ⟨cd_vi hp, ?_⟩
  unfold cx_acd at h
  dsimp only at h
  by_cases c : a_learnedRound p ≤ x
  · rw [if_neg (Int32.not_lt.mpr c)] at h
    refine br_t c ⟨cd_vi hp, ?_⟩
    by_cases c2 : x ≤ a_learnedRound p
    · rw [if_neg (Int32.not_lt.mpr c2)] at h
      exact br_t c2 (xw_lrn hp h)
    · rw [if_pos (Int32.not_le.mp c2)] at h
      exact br_f c2 ⟨cd_vi hp, nm_e ⟨cd_vi hp, nm_e ⟨cd_vi hp, nm_e (xw_lrn hp h)⟩⟩⟩
  · rw [if_pos (Int32.not_le.mp c)] at h
    exact br_f c h
theorem xw_mem {post : St2 → Prop} {p q : Nat} (hp : p < 16) (hq : q < 16) {kind c x y z : Int32} (hx : kind = 1 → ∃ s, s < 16 ∧ x = nI s) (h : post (cx_mem (f_rings, f_high, f_low, a_crashed, a_config, a_members, a_newestCut, a_reports, a_votes, a_myVote, a_promised, a_acceptedRound, a_acceptedValue, a_ownRound, a_phase, a_promisers, a_promiserRound, a_promiserValue, a_learnedRound, a_learnedFrom, a_learnedValue, a_slots) p q kind c x y z)) : wpX_receiveAsMember post (f_rings, f_high, f_low, a_crashed, a_config, a_members, a_newestCut, a_reports, a_votes, a_myVote, a_promised, a_acceptedRound, a_acceptedValue, a_ownRound, a_phase, a_promisers, a_promiserRound, a_promiserValue, a_learnedRound, a_learnedFrom, a_learnedValue, a_slots) (nI p) kind (nI q) c x y z := by
  unfold wpX_receiveAsMember
  dsimp only
  rw [cd_cl hp]
  refine ⟨cd_vi hp, ?_⟩
  unfold cx_mem at h
  dsimp only at h
  by_cases c1 : a_config p ≤ c
  · rw [if_neg (Int32.not_lt.mpr c1)] at h
    refine br_t c1 ⟨cd_vi hp, ?_⟩
    by_cases c2 : c ≤ a_config p
    · rw [if_neg (Int32.not_lt.mpr c2)] at h
      refine br_t c2 ?_
      by_cases k0 : kind < 1
      · have n : ∀ j : Int32, 1 ≤ j → ¬ kind = j := fun j hj e => absurd (Int32.lt_of_lt_of_le k0 (Int32.le_trans hj (by rw [e]; exact Int32.le_refl _))) (Int32.lt_irrefl)
        rw [if_neg (n 1 (by decide)), if_neg (n 2 (by decide)), if_neg (n 3 (by decide)), if_neg (n 4 (by decide)), if_neg (n 5 (by decide)), if_neg (n 6 (by decide))] at h
        exact br_t k0 h
      refine br_f k0 ?_
      by_cases k7 : 6 < kind
      · have n : ∀ j : Int32, j ≤ 6 → ¬ kind = j := fun j hj e => absurd (Int32.lt_of_lt_of_le k7 (by rw [e]; exact hj)) (Int32.lt_irrefl)
        rw [if_neg (n 1 (by decide)), if_neg (n 2 (by decide)), if_neg (n 3 (by decide)), if_neg (n 4 (by decide)), if_neg (n 5 (by decide)), if_neg (n 6 (by decide))] at h
        exact br_t k7 h
      refine br_f k7 ?_
      by_cases k1 : kind = 1
      · rw [if_pos k1] at h
        obtain ⟨s, hs, e⟩ := hx k1
        subst e
        rw [cd_cl hs] at h
        exact br_t k1 (xw_alert hp hs (cx_eta h))
      rw [if_neg k1] at h
      refine br_f k1 ?_
      by_cases k2 : kind = 2
      · rw [if_pos k2] at h
        exact br_t k2 (xw_vote hp hq (cx_eta h))
      rw [if_neg k2] at h
      refine br_f k2 ?_
      by_cases k3 : kind = 3
      · rw [if_pos k3] at h
        exact br_t k3 (xw_prep hp (cx_eta h))
      rw [if_neg k3] at h
      refine br_f k3 ?_
      by_cases k4 : kind = 4
      · rw [if_pos k4] at h
        exact br_t k4 (xw_prom hp hq (cx_eta h))
      rw [if_neg k4] at h
      refine br_f k4 ?_
      by_cases k5 : kind = 5
      · rw [if_pos k5] at h
        exact br_t k5 (xw_acc hp (cx_eta h))
      rw [if_neg k5] at h
      refine br_f k5 ?_
      by_cases k6 : kind = 6
      · rw [if_pos k6] at h
        exact br_t k6 (xw_acd hp (cx_eta h))
      · exact br_f k6 trivial
    · rw [if_pos (Int32.not_le.mp c2)] at h
      exact br_f c2 h
  · rw [if_pos (Int32.not_le.mp c1)] at h
    refine br_f c1 ?_
    by_cases e : q = p
    · rw [if_pos e] at h
      exact br_t (by rw [e]) h
    · rw [if_neg e] at h
      exact br_f (fun z => e ((nI_eq (by omega) (by omega)).mp z)) ⟨cd_vi hp, cd_vi hp, xw_send hp h⟩
end CD6
end
section
section CD7
variable {f_rings f_high f_low : Int32} {a_crashed a_config a_members a_newestCut a_reports a_votes a_myVote a_promised a_acceptedRound a_acceptedValue a_ownRound a_phase a_promisers a_promiserRound a_promiserValue a_learnedRound a_learnedFrom a_learnedValue a_slots : Nat → Int32}
theorem xw_awt {post : Int32 → Prop} {i p : Nat} (hi : i < 32) (hp : p < 16) (h0 : bt (a_slots (i * 7 + 6)) p = false → post 0) (h1 : bt (a_slots (i * 7 + 6)) p = true → post 1) : wpX_awaits post (f_rings, f_high, f_low, a_crashed, a_config, a_members, a_newestCut, a_reports, a_votes, a_myVote, a_promised, a_acceptedRound, a_acceptedValue, a_ownRound, a_phase, a_promisers, a_promiserRound, a_promiserValue, a_learnedRound, a_learnedFrom, a_learnedValue, a_slots) (nI i) (nI p) := by
  unfold wpX_awaits
  dsimp only
  rw [cd_i76, cd_c7 hi (by omega)]
  exact br_f (nI_pos (by omega)) (br_f (nI_ge (b := 32) hi (by decide)) (xw_isP hp (br_f (by decide) ⟨cd_v7 hi (by omega), xw_has (by omega) (fun hb => ⟨rfl, h0 hb⟩) (fun hb => ⟨rfl, h1 hb⟩)⟩)))
theorem xw_isN {post : Int32 → Prop} {x : Int32} (hx : x < 0 ∨ (¬ x < 0 ∧ (16 : Int32) ≤ x ∧ (15 : Int32) < x ∧ ¬ x ≤ 15)) (h : post 0) : wpX_isProcess post () x := by
  unfold wpX_isProcess
  rcases hx with a | a
  · exact br_t a h
  · exact br_f a.1 (br_t a.2.1 h)
theorem cd_bt0 {x : Int32} {p : Nat} (h : bt x p = true) : ¬ x = 0 := by
  intro e
  rw [e, b_0] at h
  exact absurd h (by decide)
theorem xw_del {post : Int32 → St2 → Prop} {i p : Nat} (hi : i < 32) (hp : p < 16) (hb : bt (a_slots (i * 7 + 6)) p = true) (hq : ∃ q, q < 16 ∧ a_slots (i * 7 + 1) = nI q) (hx : a_slots (i * 7) = 1 → ∃ s, s < 16 ∧ a_slots (i * 7 + 3) = nI s) (h : post 1 (cx_del (f_rings, f_high, f_low, a_crashed, a_config, a_members, a_newestCut, a_reports, a_votes, a_myVote, a_promised, a_acceptedRound, a_acceptedValue, a_ownRound, a_phase, a_promisers, a_promiserRound, a_promiserValue, a_learnedRound, a_learnedFrom, a_learnedValue, a_slots) i p)) : wpX_deliver post (f_rings, f_high, f_low, a_crashed, a_config, a_members, a_newestCut, a_reports, a_votes, a_myVote, a_promised, a_acceptedRound, a_acceptedValue, a_ownRound, a_phase, a_promisers, a_promiserRound, a_promiserValue, a_learnedRound, a_learnedFrom, a_learnedValue, a_slots) (nI i) (nI p) := by
  unfold wpX_deliver
  refine xw_awt hi hp (fun z => by rw [hb] at z; exact absurd z (by decide)) (fun _ => ?_)
  refine br_f (by decide) (nm_r (cd_i7 i) ?_)
  rw [cd_a0, cd_a1, cd_a2, cd_a3, cd_a4, cd_a5, cd_cl hp]
  rw [cd_c7 (k := 1) hi (by omega), cd_c7 (k := 2) hi (by omega), cd_c7 (k := 3) hi (by omega), cd_c7 (k := 4) hi (by omega), cd_c7 (k := 5) hi (by omega), show (nI (i * 7)).toNatClampNeg = i * 7 from nI_clamp (by omega)]
  obtain ⟨q, hq16, eq⟩ := hq
  unfold cx_del at h
  dsimp only at h
  rw [eq, cd_cl hq16] at h
  refine ⟨vp_in_nI (by omega) (by decide), nm_e ⟨cd_v7 hi (by omega), nm_r eq ⟨cd_v7 hi (by omega), nm_e ⟨cd_v7 hi (by omega), nm_e ⟨cd_v7 hi (by omega), nm_e ⟨cd_v7 hi (by omega), nm_e ?_⟩⟩⟩⟩⟩⟩
  refine xw_off hi ?_
  unfold cx_off at h ⊢
  unfold cx_recv at h
  dsimp only at h ⊢
  refine ⟨cd_vi hp, ?_⟩
  by_cases c : a_crashed p = 0
  · rw [if_pos c] at h
    refine br_t c ?_
    by_cases k : a_slots (i * 7) = 7
    · rw [if_pos k] at h
      refine br_t k ⟨cd_vi hp, ?_⟩
      by_cases g : a_slots (i * 7 + 2) ≤ a_config p
      · rw [if_neg (Int32.not_lt.mpr g)] at h
        exact br_t g h
      · rw [if_pos (Int32.not_le.mp g)] at h
        exact br_f g (xw_inst hp h)
    · rw [if_neg k] at h
      refine br_f k (xw_stt hp ?_)
      unfold cd_stt
      rw [if_pos c]
      by_cases hm : bt (a_members p) p = true
      · rw [if_pos hm] at h ⊢
        exact br_t rfl (xw_mem hp hq16 hx (cx_eta (post := post 1) h))
      · rw [if_neg hm] at h ⊢
        exact br_f (by decide) h
  · rw [if_neg c] at h
    exact br_f c h
end CD7
end
section
section PG1
/-! counting below n -/
def pg_ct (S : Nat → Bool) : Nat → Nat
  | 0 => 0
  | i + 1 => pg_ct S i + (if S i = true then 1 else 0)
theorem pg_ctS (S : Nat → Bool) (i : Nat) : pg_ct S (i + 1) = pg_ct S i + (if S i = true then 1 else 0) := rfl
theorem pg_ct_mono {S T : Nat → Bool} : ∀ n, (∀ i, i < n → S i = true → T i = true) → pg_ct S n ≤ pg_ct T n := by
  intro n
  induction n with
  | zero => intro _; exact Nat.le_refl 0
  | succ n ih =>
    intro h
    have h1 := ih (fun i hi => h i (by omega))
    have h2 := h n (by omega)
    rw [pg_ctS, pg_ctS]
    by_cases e : S n = true
    · rw [if_pos e, if_pos (h2 e)]; omega
    · rw [if_neg e]
      by_cases e2 : T n = true
      · rw [if_pos e2]; omega
      · rw [if_neg e2]; omega
theorem pg_ct_congr {S T : Nat → Bool} (n : Nat) (h : ∀ i, i < n → S i = T i) : pg_ct S n = pg_ct T n :=
  Nat.le_antisymm (pg_ct_mono n (fun i hi e => by rw [← h i hi]; exact e)) (pg_ct_mono n (fun i hi e => by rw [h i hi]; exact e))
theorem pg_ct_ie (S T : Nat → Bool) : ∀ n, pg_ct S n + pg_ct T n = pg_ct (fun i => S i || T i) n + pg_ct (fun i => S i && T i) n := by
  intro n
  induction n with
  | zero => rfl
  | succ n ih =>
    rw [pg_ctS, pg_ctS, pg_ctS, pg_ctS]
    cases S n <;> cases T n <;> simp <;> omega
theorem pg_ct_pos {S : Nat → Bool} : ∀ n, 0 < pg_ct S n → ∃ i, i < n ∧ S i = true := by
  intro n
  induction n with
  | zero => intro h; exact absurd h (Nat.lt_irrefl 0)
  | succ n ih =>
    intro h
    rw [pg_ctS] at h
    by_cases e : S n = true
    · exact ⟨n, by omega, e⟩
    · rw [if_neg e] at h
      obtain ⟨i, hi, hs⟩ := ih (by omega)
      exact ⟨i, by omega, hs⟩
theorem pg_ct_zero {S : Nat → Bool} (n : Nat) (h : ∀ i, i < n → S i = false) : pg_ct S n = 0 := by
  rcases Nat.eq_zero_or_pos (pg_ct S n) with e | e
  · exact e
  · obtain ⟨i, hi, hs⟩ := pg_ct_pos n e
    rw [h i hi] at hs
    exact absurd hs (by decide)
theorem pg_meet {S T U : Nat → Bool} {n : Nat} (hS : ∀ i, i < n → S i = true → U i = true) (hT : ∀ i, i < n → T i = true → U i = true) : pg_ct S n + pg_ct T n ≤ pg_ct U n + pg_ct (fun i => S i && T i) n := by
  have h := pg_ct_ie S T n
  have h2 : pg_ct (fun i => S i || T i) n ≤ pg_ct U n := pg_ct_mono n (fun i hi e => by
    rcases Bool.or_eq_true_iff.mp e with a | a
    · exact hS i hi a
    · exact hT i hi a)
  omega
/-! the history: the greatest configuration, members, cuts; votes, promises, acceptances, values of rounds -/
abbrev pg_G : Type := Nat × (Nat → Int32) × (Nat → Int32) × (Nat → Nat → Int32) × (Nat → Nat → Nat) × (Nat → Nat → Nat → Bool) × (Nat → Nat → Int32)
def pg_K (g : pg_G) : Nat := g.1
def pg_M (g : pg_G) : Nat → Int32 := g.2.1
def pg_C (g : pg_G) : Nat → Int32 := g.2.2.1
def pg_V (g : pg_G) : Nat → Nat → Int32 := g.2.2.2.1
def pg_P (g : pg_G) : Nat → Nat → Nat := g.2.2.2.2.1
def pg_A (g : pg_G) : Nat → Nat → Nat → Bool := g.2.2.2.2.2.1
def pg_W (g : pg_G) : Nat → Nat → Int32 := g.2.2.2.2.2.2
def pg_m (g : pg_G) (c : Nat) : Nat := pg_ct (fun q => bt (pg_M g c) q) 16
def pg_fq (m : Nat) : Nat := (3 * m + 3) / 4
def pg_cq (m : Nat) : Nat := m / 2 + 1
def pg_safe (g : pg_G) (c r : Nat) (v : Int32) : Prop := ∃ Q : Nat → Bool, (∀ q, q < 16 → Q q = true → bt (pg_M g c) q = true ∧ r ≤ pg_P g c q) ∧ pg_cq (pg_m g c) ≤ pg_ct Q 16 ∧
  ((∃ r1, 16 ≤ r1 ∧ r1 < r ∧ pg_W g c r1 = v ∧ ¬ v = -1 ∧ ∀ q, q < 16 → Q q = true → ∀ r', r1 < r' → r' < r → pg_A g c q r' = false) ∨
   ((∀ q, q < 16 → Q q = true → ∀ r', r' < r → pg_A g c q r' = false) ∧ ∀ w, ¬ w = v → ¬ w = -1 → pg_ct (fun q => Q q && decide (pg_V g c q = w)) 16 + pg_m g c < pg_fq (pg_m g c) + pg_cq (pg_m g c)))
def pg_dec (g : pg_G) (c : Nat) (v : Int32) : Prop := ¬ v = -1 ∧
  ((pg_fq (pg_m g c) ≤ pg_ct (fun q => decide (pg_V g c q = v)) 16 ∧ ∃ q, q < 16 ∧ pg_V g c q = v) ∨ ∃ r, pg_W g c r = v ∧ pg_cq (pg_m g c) ≤ pg_ct (fun q => pg_A g c q r) 16)
def pg_I (g : pg_G) : Prop :=
  (∀ c q r, q < 16 → pg_A g c q r = true → ¬ pg_W g c r = -1 ∧ bt (pg_M g c) q = true ∧ r ≤ pg_P g c q) ∧
  (∀ c q, q < 16 → ¬ pg_V g c q = -1 → bt (pg_M g c) q = true ∧ ¬ pg_V g c q = 0 ∧ pg_V g c q &&& 65535 = pg_V g c q) ∧
  (∀ c r, ¬ pg_W g c r = -1 → 16 ≤ r ∧ pg_safe g c r (pg_W g c r) ∧ ∃ q, q < 16 ∧ pg_V g c q = pg_W g c r) ∧
  (∀ c, pg_K g < c → (∀ q, q < 16 → pg_V g c q = -1 ∧ pg_P g c q = 0) ∧ ∀ r, pg_W g c r = -1) ∧
  (∀ c, c < pg_K g → pg_M g (c + 1) = pg_M g c ^^^ pg_C g (c + 1) ∧ pg_dec g c (pg_C g (c + 1)))
/-! a value that a classic quorum accepted is every later round's -/
theorem pg_classic {g : pg_G} (I : pg_I g) {c r : Nat} (h : pg_cq (pg_m g c) ≤ pg_ct (fun q => pg_A g c q r) 16) : ∀ n r2, r2 < n → r < r2 → ¬ pg_W g c r2 = -1 → pg_W g c r2 = pg_W g c r := by
  intro n
  induction n with
  | zero => intro r2 h2; omega
  | succ n ih =>
    intro r2 hn hr hw
    obtain ⟨_, ⟨Q, hQ, hq, hc⟩, _⟩ := I.2.2.1 c r2 hw
    have hm := pg_meet (S := fun q => pg_A g c q r) (T := Q) (U := fun q => bt (pg_M g c) q) (n := 16) (fun i hi e => (I.1 c i r hi e).2.1) (fun i hi e => (hQ i hi e).1)
    have hm2 : pg_ct (fun q => bt (pg_M g c) q) 16 = pg_m g c := rfl
    have hpos : 0 < pg_ct (fun i => pg_A g c i r && Q i) 16 := by
      unfold pg_cq at h hq
      omega
    obtain ⟨q, hq16, hqq⟩ := pg_ct_pos 16 hpos
    have hqq := Bool.and_eq_true_iff.mp hqq
    have hA : pg_A g c q r = true := hqq.1
    rcases hc with ⟨r1, h16, h1, hW, hv, hno⟩ | ⟨hno, _⟩
    · rcases Nat.lt_trichotomy r r1 with a | a | a
      · rw [← hW]
        exact ih r1 (by omega) a (by rw [hW]; exact hv)
      · rw [a]; exact hW.symm
      · have := hno q hq16 hqq.2 r a hr
        rw [this] at hA
        exact absurd hA (by decide)
    · have := hno q hq16 hqq.2 r hr
      rw [this] at hA
      exact absurd hA (by decide)
/-! a value that a fast quorum voted for is every round's -/
theorem pg_fast {g : pg_G} (I : pg_I g) {c : Nat} {w : Int32} (hw1 : ¬ w = -1) (h : pg_fq (pg_m g c) ≤ pg_ct (fun q => decide (pg_V g c q = w)) 16) : ∀ n r, r < n → ¬ pg_W g c r = -1 → pg_W g c r = w := by
  intro n
  induction n with
  | zero => intro r h2; omega
  | succ n ih =>
    intro r hn hw
    obtain ⟨_, ⟨Q, hQ, hq, hc⟩, _⟩ := I.2.2.1 c r hw
    rcases hc with ⟨r1, h16, h1, hW, hv, hno⟩ | ⟨hno, hcnt⟩
    · rw [← hW]
      exact ih r1 (by omega) (by rw [hW]; exact hv)
    · by_cases e : w = pg_W g c r
      · exact e.symm
      · have hk := hcnt w e hw1
        have hm := pg_meet (S := Q) (T := fun q => decide (pg_V g c q = w)) (U := fun q => bt (pg_M g c) q) (n := 16) (fun i hi e => (hQ i hi e).1) (fun i hi e => (I.2.1 c i hi (by rw [of_decide_eq_true e]; exact hw1)).1)
        have hm2 : pg_ct (fun q => bt (pg_M g c) q) 16 = pg_m g c := rfl
        omega
theorem pg_agree {g : pg_G} (I : pg_I g) {c : Nat} {v w : Int32} (hv : pg_dec g c v) (hw : pg_dec g c w) : v = w := by
  obtain ⟨v1, hv⟩ := hv
  obtain ⟨w1, hw⟩ := hw
  rcases hv with ⟨hv, qv, qv16, hqv⟩ | ⟨r, hr, hv⟩
  · rcases hw with ⟨hw, _⟩ | ⟨r, hr, hw⟩
    · by_cases e : v = w
      · exact e
      · exfalso
        have mem : ∀ x : Int32, ¬ x = -1 → ∀ i, i < 16 → decide (pg_V g c i = x) = true → bt (pg_M g c) i = true := fun x hx i hi e => (I.2.1 c i hi (by rw [of_decide_eq_true e]; exact hx)).1
        have hm := pg_meet (S := fun q => decide (pg_V g c q = v)) (T := fun q => decide (pg_V g c q = w)) (U := fun q => bt (pg_M g c) q) (n := 16) (mem v v1) (mem w w1)
        have hm2 : pg_ct (fun q => bt (pg_M g c) q) 16 = pg_m g c := rfl
        have h0 : pg_ct (fun i => decide (pg_V g c i = v) && decide (pg_V g c i = w)) 16 = 0 := pg_ct_zero 16 (fun i hi => by
          by_cases a : pg_V g c i = v
          · show (decide (pg_V g c i = v) && decide (pg_V g c i = w)) = false
            rw [decide_eq_false (fun z => e (a.symm.trans z) : ¬ pg_V g c i = w), Bool.and_false]
          · show (decide (pg_V g c i = v) && decide (pg_V g c i = w)) = false
            rw [decide_eq_false a, Bool.false_and])
        have hp : 0 < pg_m g c := by
          have hb := mem v v1 qv qv16 (decide_eq_true hqv)
          rcases Nat.eq_zero_or_pos (pg_m g c) with z | z
          · have : pg_ct (fun q => decide (pg_V g c q = v)) 16 ≤ pg_m g c := pg_ct_mono 16 (mem v v1)
            have h1 : 0 < pg_ct (fun q => decide (pg_V g c q = v)) 16 := by
              rcases Nat.eq_zero_or_pos (pg_ct (fun q => decide (pg_V g c q = v)) 16) with y | y
              · exfalso
                have hle : pg_ct (fun q => decide (q = qv)) 16 ≤ pg_ct (fun q => decide (pg_V g c q = v)) 16 := pg_ct_mono 16 (fun i _ e => decide_eq_true (by rw [of_decide_eq_true e]; exact hqv))
                have hone : ∀ n, qv < n → 0 < pg_ct (fun q => decide (q = qv)) n := by
                  intro n
                  induction n with
                  | zero => intro h; omega
                  | succ n ih =>
                    intro h
                    rw [pg_ctS]
                    by_cases e : n = qv
                    · rw [if_pos (decide_eq_true e)]; omega
                    · have := ih (by omega)
                      omega
                have := hone 16 qv16
                omega
              · exact y
            omega
          · exact z
        unfold pg_fq at hv hw
        omega
    · have := pg_fast I v1 hv (r + 1) r (by omega) (by rw [hr]; exact w1)
      rw [hr] at this
      exact this.symm
  · rcases hw with ⟨hw, _⟩ | ⟨r2, hr2, hw⟩
    · have := pg_fast I w1 hw (r + 1) r (by omega) (by rw [hr]; exact v1)
      rw [hr] at this
      exact this
    · rcases Nat.lt_trichotomy r r2 with a | a | a
      · have := pg_classic I hv (r2 + 1) r2 (by omega) a (by rw [hr2]; exact w1)
        rw [hr, hr2] at this
        exact this.symm
      · subst a
        exact hr.symm.trans hr2
      · have := pg_classic I hw (r + 1) r (by omega) a (by rw [hr]; exact v1)
        rw [hr, hr2] at this
        exact this
end PG1
end
section
section PG2
/-! a later history -/
def pg_le (g g' : pg_G) : Prop :=
  pg_K g ≤ pg_K g' ∧
  (∀ c, c ≤ pg_K g → pg_M g' c = pg_M g c ∧ pg_C g' c = pg_C g c) ∧
  (∀ c q, q < 16 → pg_V g' c q = pg_V g c q ∨ (pg_V g c q = -1 ∧ pg_P g c q = 0)) ∧
  (∀ c q, q < 16 → pg_P g c q ≤ pg_P g' c q) ∧
  (∀ c q r, q < 16 → (pg_A g c q r = true → pg_A g' c q r = true) ∧ (pg_A g' c q r = true → pg_A g c q r = true ∨ pg_P g c q ≤ r)) ∧
  (∀ c r, ¬ pg_W g c r = -1 → pg_W g' c r = pg_W g c r)
theorem pg_le_rf (g : pg_G) : pg_le g g := ⟨Nat.le_refl _, fun _ _ => ⟨rfl, rfl⟩, fun _ _ _ => Or.inl rfl, fun _ _ _ => Nat.le_refl _, fun _ _ _ _ => ⟨fun h => h, fun h => Or.inl h⟩, fun _ _ _ => rfl⟩
theorem pg_le_V {g g' : pg_G} (L : pg_le g g') {c q : Nat} (hq : q < 16) (h : ¬ pg_V g c q = -1) : pg_V g' c q = pg_V g c q := by
  rcases L.2.2.1 c q hq with e | e
  · exact e
  · exact absurd e.1 h
theorem pg_le_VP {g g' : pg_G} (L : pg_le g g') {c q : Nat} (hq : q < 16) (h : 0 < pg_P g c q) : pg_V g' c q = pg_V g c q := by
  rcases L.2.2.1 c q hq with e | e
  · exact e
  · omega
theorem pg_le_A {g g' : pg_G} (L : pg_le g g') {c q r : Nat} (hq : q < 16) (h : pg_A g c q r = false) (hr : r < pg_P g c q) : pg_A g' c q r = false := by
  cases e : pg_A g' c q r
  · rfl
  · rcases (L.2.2.2.2.1 c q r hq).2 e with a | a
    · rw [h] at a; exact absurd a (by decide)
    · omega
theorem pg_le_m {g g' : pg_G} (L : pg_le g g') {c : Nat} (hc : c ≤ pg_K g) : pg_m g' c = pg_m g c := by
  unfold pg_m
  rw [(L.2.1 c hc).1]
theorem pg_safe_up {g g' : pg_G} (L : pg_le g g') {c r : Nat} {v : Int32} (hc : c ≤ pg_K g) (hr : 16 ≤ r) (h : pg_safe g c r v) : pg_safe g' c r v := by
  obtain ⟨Q, hQ, hq, hh⟩ := h
  refine ⟨Q, fun q hq e => ?_, by rw [pg_le_m L hc]; exact hq, ?_⟩
  · have := hQ q hq e
    exact ⟨by rw [(L.2.1 c hc).1]; exact this.1, Nat.le_trans this.2 (L.2.2.2.1 c q hq)⟩
  · rcases hh with ⟨r1, h16, h1, hW, hv, hno⟩ | ⟨hno, hcnt⟩
    · refine Or.inl ⟨r1, h16, h1, by rw [L.2.2.2.2.2 c r1 (by rw [hW]; exact hv)]; exact hW, hv, fun q hq e r' a b => ?_⟩
      exact pg_le_A L hq (hno q hq e r' a b) (by have := (hQ q hq e).2; omega)
    · refine Or.inr ⟨fun q hq e r' a => pg_le_A L hq (hno q hq e r' a) (by have := (hQ q hq e).2; omega), fun w hw hw1 => ?_⟩
      rw [pg_le_m L hc]
      have e : pg_ct (fun q => Q q && decide (pg_V g' c q = w)) 16 = pg_ct (fun q => Q q && decide (pg_V g c q = w)) 16 := pg_ct_congr 16 (fun i hi => by
        cases e : Q i
        · rfl
        · rw [pg_le_VP L hi (by have := (hQ i hi e).2; omega)])
      rw [e]
      exact hcnt w hw hw1
theorem pg_dec_up {g g' : pg_G} (L : pg_le g g') {c : Nat} {v : Int32} (hc : c ≤ pg_K g) (h : pg_dec g c v) : pg_dec g' c v := by
  obtain ⟨hv, h⟩ := h
  refine ⟨hv, ?_⟩
  rw [pg_le_m L hc]
  rcases h with ⟨h, q, hq, e⟩ | ⟨r, hr, h⟩
  · refine Or.inl ⟨Nat.le_trans h (pg_ct_mono 16 (fun i hi e => ?_)), q, hq, by rw [pg_le_V L hq (by rw [e]; exact hv)]; exact e⟩
    have e := of_decide_eq_true e
    exact decide_eq_true (by rw [pg_le_V L hi (by rw [e]; exact hv)]; exact e)
  · exact Or.inr ⟨r, by rw [L.2.2.2.2.2 c r (by rw [hr]; exact hv)]; exact hr, Nat.le_trans h (pg_ct_mono 16 (fun i hi e => (L.2.2.2.2.1 c i r hi).1 e))⟩
theorem pg_I_up {g g' : pg_G} (I : pg_I g) (L : pg_le g g')
    (hA : ∀ c q r, q < 16 → pg_A g' c q r = true → pg_A g c q r = true ∨ (¬ pg_W g' c r = -1 ∧ bt (pg_M g' c) q = true ∧ r ≤ pg_P g' c q))
    (hV : ∀ c q, q < 16 → pg_V g' c q = pg_V g c q ∨ (bt (pg_M g' c) q = true ∧ ¬ pg_V g' c q = 0 ∧ pg_V g' c q &&& 65535 = pg_V g' c q))
    (hW : ∀ c r, pg_W g' c r = pg_W g c r ∨ (16 ≤ r ∧ pg_safe g' c r (pg_W g' c r) ∧ ∃ q, q < 16 ∧ pg_V g' c q = pg_W g' c r))
    (hK : ∀ c, pg_K g' < c → (∀ q, q < 16 → pg_V g' c q = -1 ∧ pg_P g' c q = 0) ∧ ∀ r, pg_W g' c r = -1)
    (hD : ∀ c, pg_K g ≤ c → c < pg_K g' → pg_M g' (c + 1) = pg_M g' c ^^^ pg_C g' (c + 1) ∧ pg_dec g' c (pg_C g' (c + 1))) : pg_I g' := by
  obtain ⟨i1, i2, i3, i4, i5⟩ := I
  have kW : ∀ c r, ¬ pg_W g c r = -1 → c ≤ pg_K g := fun c r h => by
    rcases Nat.lt_or_ge (pg_K g) c with a | a
    · exact absurd ((i4 c a).2 r) h
    · exact a
  have kV : ∀ c q, q < 16 → ¬ pg_V g c q = -1 → c ≤ pg_K g := fun c q hq h => by
    rcases Nat.lt_or_ge (pg_K g) c with a | a
    · exact absurd ((i4 c a).1 q hq).1 h
    · exact a
  refine ⟨fun c q r hq e => ?_, fun c q hq e => ?_, fun c r e => ?_, hK, fun c hc => ?_⟩
  · rcases hA c q r hq e with a | a
    · obtain ⟨h1, h2, h3⟩ := i1 c q r hq a
      refine ⟨by rw [L.2.2.2.2.2 c r h1]; exact h1, by rw [(L.2.1 c (kW c r h1)).1]; exact h2, Nat.le_trans h3 (L.2.2.2.1 c q hq)⟩
    · exact a
  · rcases hV c q hq with a | a
    · rw [a] at e ⊢
      have h := i2 c q hq e
      exact ⟨by rw [(L.2.1 c (kV c q hq e)).1]; exact h.1, h.2⟩
    · exact a
  · rcases hW c r with a | a
    · rw [a] at e ⊢
      obtain ⟨h1, h2, q, hq, h3⟩ := i3 c r e
      exact ⟨h1, pg_safe_up L (kW c r e) h1 h2, q, hq, by rw [pg_le_V L hq (by rw [h3]; exact e)]; exact h3⟩
    · exact a
  · rcases Nat.lt_or_ge c (pg_K g) with a | a
    · have h := i5 c a
      rw [(L.2.1 (c + 1) (by omega)).1, (L.2.1 (c + 1) (by omega)).2, (L.2.1 c (by omega)).1]
      exact ⟨h.1, pg_dec_up L (by omega) h.2⟩
    · exact hD c a hc
/-! the five steps -/
def pg_vote (g : pg_G) (c p : Nat) (x : Int32) : pg_G := (pg_K g, pg_M g, pg_C g, fun c' q => if c' = c ∧ q = p then x else pg_V g c' q, pg_P g, pg_A g, pg_W g)
def pg_prom (g : pg_G) (c p r : Nat) : pg_G := (pg_K g, pg_M g, pg_C g, pg_V g, fun c' q => if c' = c ∧ q = p then r else pg_P g c' q, pg_A g, pg_W g)
def pg_acc (g : pg_G) (c p r : Nat) : pg_G := (pg_K g, pg_M g, pg_C g, pg_V g, fun c' q => if c' = c ∧ q = p then r else pg_P g c' q, fun c' q r' => if c' = c ∧ q = p ∧ r' = r then true else pg_A g c' q r', pg_W g)
def pg_prop (g : pg_G) (c r : Nat) (v : Int32) : pg_G := (pg_K g, pg_M g, pg_C g, pg_V g, pg_P g, pg_A g, fun c' r' => if c' = c ∧ r' = r then v else pg_W g c' r')
def pg_inst (g : pg_G) (v : Int32) : pg_G := (pg_K g + 1, fun c => if c = pg_K g + 1 then pg_M g (pg_K g) ^^^ v else pg_M g c, fun c => if c = pg_K g + 1 then v else pg_C g c, pg_V g, pg_P g, pg_A g, pg_W g)
/-- only what is p's own has changed -/
def pg_own (p : Nat) (g g' : pg_G) : Prop := (∀ c q, q < 16 → ¬ q = p → pg_V g' c q = pg_V g c q ∧ pg_P g' c q = pg_P g c q ∧ ∀ r, pg_A g' c q r = pg_A g c q r) ∧ ∀ c r, ¬ r % 16 = p → pg_W g' c r = pg_W g c r
theorem pg_own_rf (p : Nat) (g : pg_G) : pg_own p g g := ⟨fun _ _ _ _ => ⟨rfl, rfl, fun _ => rfl⟩, fun _ _ _ => rfl⟩
theorem pg_vote_ok {g : pg_G} (I : pg_I g) {c p : Nat} {x : Int32} (hc : c ≤ pg_K g) (hp : p < 16) (h0 : pg_P g c p = 0) (hv : pg_V g c p = -1) (hm : bt (pg_M g c) p = true) (hx : ¬ x = 0) (hx2 : x &&& 65535 = x) : pg_I (pg_vote g c p x) ∧ pg_le g (pg_vote g c p x) ∧ pg_own p g (pg_vote g c p x) := by
  have L : pg_le g (pg_vote g c p x) := by
    refine ⟨Nat.le_refl _, fun _ _ => ⟨rfl, rfl⟩, fun c' q hq => ?_, fun _ _ _ => Nat.le_refl _, fun _ _ _ _ => ⟨fun h => h, fun h => Or.inl h⟩, fun _ _ _ => rfl⟩
    by_cases e : c' = c ∧ q = p
    · obtain ⟨rfl, rfl⟩ := e
      exact Or.inr ⟨hv, h0⟩
    · exact Or.inl (if_neg e)
  refine ⟨pg_I_up I L (fun c q r _ e => Or.inl e) (fun c' q hq => ?_) (fun _ _ => Or.inl rfl) (fun c' hc' => ⟨fun q hq => ?_, (I.2.2.2.1 c' hc').2⟩) (fun c' a b => absurd b (Nat.not_lt.mpr a)), L, fun c' q _ hqp => ⟨if_neg (fun z => hqp z.2), rfl, fun _ => rfl⟩, fun _ _ _ => rfl⟩
  · by_cases e : c' = c ∧ q = p
    · refine Or.inr ?_
      have : pg_V (pg_vote g c p x) c' q = x := if_pos e
      rw [this]
      obtain ⟨rfl, rfl⟩ := e
      exact ⟨hm, hx, hx2⟩
    · exact Or.inl (if_neg e)
  · have hc' : pg_K g < c' := hc'
    have := (I.2.2.2.1 c' hc').1 q hq
    exact ⟨(if_neg (fun z => by omega)).trans this.1, this.2⟩
theorem pg_prom_ok {g : pg_G} (I : pg_I g) {c p r : Nat} (hc : c ≤ pg_K g) (hr : pg_P g c p ≤ r) : pg_I (pg_prom g c p r) ∧ pg_le g (pg_prom g c p r) ∧ pg_own p g (pg_prom g c p r) := by
  have hP : ∀ c' q, pg_P g c' q ≤ pg_P (pg_prom g c p r) c' q := fun c' q => by
    by_cases e : c' = c ∧ q = p
    · have : pg_P (pg_prom g c p r) c' q = r := if_pos e
      rw [this]
      obtain ⟨rfl, rfl⟩ := e
      exact hr
    · have : pg_P (pg_prom g c p r) c' q = pg_P g c' q := if_neg e
      rw [this]; exact Nat.le_refl _
  have L : pg_le g (pg_prom g c p r) := ⟨Nat.le_refl _, fun _ _ => ⟨rfl, rfl⟩, fun _ _ _ => Or.inl rfl, fun c' q _ => hP c' q, fun _ _ _ _ => ⟨fun h => h, fun h => Or.inl h⟩, fun _ _ _ => rfl⟩
  refine ⟨pg_I_up I L (fun c q r _ e => Or.inl e) (fun _ _ _ => Or.inl rfl) (fun _ _ => Or.inl rfl) (fun c' hc' => ⟨fun q hq => ?_, (I.2.2.2.1 c' hc').2⟩) (fun c' a b => absurd b (Nat.not_lt.mpr a)), L, fun c' q _ hqp => ⟨rfl, if_neg (fun z => hqp z.2), fun _ => rfl⟩, fun _ _ _ => rfl⟩
  have hc' : pg_K g < c' := hc'
  have := (I.2.2.2.1 c' hc').1 q hq
  exact ⟨this.1, (if_neg (fun z => by omega)).trans this.2⟩
theorem pg_acc_ok {g : pg_G} (I : pg_I g) {c p r : Nat} (hc : c ≤ pg_K g) (hr : pg_P g c p ≤ r) (hw : ¬ pg_W g c r = -1) (hm : bt (pg_M g c) p = true) : pg_I (pg_acc g c p r) ∧ pg_le g (pg_acc g c p r) ∧ pg_own p g (pg_acc g c p r) := by
  have hP : ∀ c' q, pg_P g c' q ≤ pg_P (pg_acc g c p r) c' q := fun c' q => by
    by_cases e : c' = c ∧ q = p
    · have : pg_P (pg_acc g c p r) c' q = r := if_pos e
      rw [this]
      obtain ⟨rfl, rfl⟩ := e
      exact hr
    · have : pg_P (pg_acc g c p r) c' q = pg_P g c' q := if_neg e
      rw [this]; exact Nat.le_refl _
  have hA : ∀ c' q r', pg_A (pg_acc g c p r) c' q r' = true → pg_A g c' q r' = true ∨ (c' = c ∧ q = p ∧ r' = r) := fun c' q r' h => by
    by_cases e : c' = c ∧ q = p ∧ r' = r
    · exact Or.inr e
    · have : pg_A (pg_acc g c p r) c' q r' = pg_A g c' q r' := if_neg e
      rw [this] at h
      exact Or.inl h
  have L : pg_le g (pg_acc g c p r) := by
    refine ⟨Nat.le_refl _, fun _ _ => ⟨rfl, rfl⟩, fun _ _ _ => Or.inl rfl, fun c' q _ => hP c' q, fun c' q r' _ => ⟨fun h => ?_, fun h => ?_⟩, fun _ _ _ => rfl⟩
    · by_cases e : c' = c ∧ q = p ∧ r' = r
      · exact if_pos e
      · exact (if_neg e).trans h
    · rcases hA c' q r' h with a | ⟨rfl, rfl, rfl⟩
      · exact Or.inl a
      · exact Or.inr hr
  refine ⟨pg_I_up I L (fun c' q r' _ h => ?_) (fun _ _ _ => Or.inl rfl) (fun _ _ => Or.inl rfl) (fun c' hc' => ⟨fun q hq => ?_, (I.2.2.2.1 c' hc').2⟩) (fun c' a b => absurd b (Nat.not_lt.mpr a)), L, fun c' q _ hqp => ⟨rfl, if_neg (fun z => hqp z.2), fun _ => if_neg (fun z => hqp z.2.1)⟩, fun _ _ _ => rfl⟩
  · rcases hA c' q r' h with a | ⟨rfl, rfl, rfl⟩
    · exact Or.inl a
    · refine Or.inr ⟨hw, hm, ?_⟩
      have : pg_P (pg_acc g c' q r') c' q = r' := if_pos ⟨rfl, rfl⟩
      rw [this]; exact Nat.le_refl _
  · have hc' : pg_K g < c' := hc'
    have := (I.2.2.2.1 c' hc').1 q hq
    exact ⟨this.1, (if_neg (fun z => by omega)).trans this.2⟩
theorem pg_prop_ok {g : pg_G} (I : pg_I g) {c r : Nat} {v : Int32} (hc : c ≤ pg_K g) (h0 : pg_W g c r = -1) (hr : 16 ≤ r) (hs : pg_safe g c r v) (hq : ∃ q, q < 16 ∧ pg_V g c q = v) : pg_I (pg_prop g c r v) ∧ pg_le g (pg_prop g c r v) ∧ pg_own (r % 16) g (pg_prop g c r v) := by
  have L : pg_le g (pg_prop g c r v) := by
    refine ⟨Nat.le_refl _, fun _ _ => ⟨rfl, rfl⟩, fun _ _ _ => Or.inl rfl, fun _ _ _ => Nat.le_refl _, fun _ _ _ _ => ⟨fun h => h, fun h => Or.inl h⟩, fun c' r' h => ?_⟩
    exact if_neg (fun z => by obtain ⟨rfl, rfl⟩ := z; exact h h0)
  refine ⟨pg_I_up I L (fun c q r _ e => Or.inl e) (fun _ _ _ => Or.inl rfl) (fun c' r' => ?_) (fun c' hc' => ⟨fun q hq => (I.2.2.2.1 c' hc').1 q hq, fun r' => ?_⟩) (fun c' a b => absurd b (Nat.not_lt.mpr a)), L, fun _ _ _ _ => ⟨rfl, rfl, fun _ => rfl⟩, fun c' r' h => if_neg (fun z => h (by rw [z.2]))⟩
  · by_cases e : c' = c ∧ r' = r
    · refine Or.inr ?_
      have : pg_W (pg_prop g c r v) c' r' = v := if_pos e
      rw [this]
      obtain ⟨rfl, rfl⟩ := e
      exact ⟨hr, pg_safe_up L hc hr hs, hq⟩
    · exact Or.inl (if_neg e)
  · have hc' : pg_K g < c' := hc'
    exact (if_neg (fun z => by omega)).trans ((I.2.2.2.1 c' hc').2 r')
theorem pg_inst_ok {g : pg_G} (I : pg_I g) {v : Int32} (hd : pg_dec g (pg_K g) v) (p : Nat) : pg_I (pg_inst g v) ∧ pg_le g (pg_inst g v) ∧ pg_own p g (pg_inst g v) := by
  have L : pg_le g (pg_inst g v) := by
    refine ⟨Nat.le_succ _, fun c hc => ⟨if_neg (by omega), if_neg (by omega)⟩, fun _ _ _ => Or.inl rfl, fun _ _ _ => Nat.le_refl _, fun _ _ _ _ => ⟨fun h => h, fun h => Or.inl h⟩, fun _ _ _ => rfl⟩
  refine ⟨pg_I_up I L (fun c q r _ e => Or.inl e) (fun _ _ _ => Or.inl rfl) (fun _ _ => Or.inl rfl) (fun c' hc' => I.2.2.2.1 c' (Nat.lt_of_succ_lt hc')) (fun c' a b => ?_), L, pg_own_rf p g⟩
  have b : c' < pg_K g + 1 := b
  have e : c' = pg_K g := by omega
  subst e
  have e1 : pg_M (pg_inst g v) (pg_K g + 1) = pg_M g (pg_K g) ^^^ v := if_pos rfl
  have e2 : pg_C (pg_inst g v) (pg_K g + 1) = v := if_pos rfl
  have e3 : pg_M (pg_inst g v) (pg_K g) = pg_M g (pg_K g) := if_neg (by omega)
  rw [e1, e2, e3]
  exact ⟨rfl, pg_dec_up L (Nat.le_refl _) hd⟩
end PG2
end
section
section PG3
/-! what a promise tells of its sender's history -/
def pg_pok (g : pg_G) (c q r : Nat) (y z : Int32) : Prop := bt (pg_M g c) q = true ∧ r ≤ pg_P g c q ∧
  ((y = -1 ∧ pg_V g c q = -1 ∧ ∀ r', r' < r → pg_A g c q r' = false) ∨
   (y = 0 ∧ z = pg_V g c q ∧ ¬ pg_V g c q = -1 ∧ ∀ r', r' < r → pg_A g c q r' = false) ∨
   (∃ r1, y = nI r1 ∧ 16 ≤ r1 ∧ r1 < r ∧ z = pg_W g c r1 ∧ ¬ pg_W g c r1 = -1 ∧ ∀ r', r1 < r' → r' < r → pg_A g c q r' = false))
theorem pg_pok_up {g g' : pg_G} (L : pg_le g g') {c q r : Nat} {y z : Int32} (hc : c ≤ pg_K g) (hq : q < 16) (hr : 16 ≤ r) (h : pg_pok g c q r y z) : pg_pok g' c q r y z := by
  obtain ⟨hm, hP, h⟩ := h
  refine ⟨by rw [(L.2.1 c hc).1]; exact hm, Nat.le_trans hP (L.2.2.2.1 c q hq), ?_⟩
  rcases h with ⟨e, hV, hA⟩ | ⟨e, ez, hV, hA⟩ | ⟨r1, e, h16, h1, ez, hW, hA⟩
  · exact Or.inl ⟨e, by rw [pg_le_VP L hq (by omega)]; exact hV, fun r' a => pg_le_A L hq (hA r' a) (by omega)⟩
  · exact Or.inr (Or.inl ⟨e, by rw [pg_le_V L hq hV]; exact ez, by rw [pg_le_V L hq hV]; exact hV, fun r' a => pg_le_A L hq (hA r' a) (by omega)⟩)
  · exact Or.inr (Or.inr ⟨r1, e, h16, h1, by rw [L.2.2.2.2.2 c r1 hW]; exact ez, by rw [L.2.2.2.2.2 c r1 hW]; exact hW, fun r' a b => pg_le_A L hq (hA r' a b) (by omega)⟩)
theorem pg_nc_none {pm : Int32} {pr : Nat → Int32} {b : Nat} : ∀ n, (cd_nc pm pr b n).1 = none → (cd_nc pm pr b n).2 = 15 ∧ ∀ q, q < n → bt pm q = true → ¬ (15 : Int32) < pr (b + q) := by
  intro n
  induction n with
  | zero => intro _; exact ⟨rfl, fun q hq => absurd hq (Nat.not_lt_zero q)⟩
  | succ n ih =>
    intro h
    unfold cd_nc at h ⊢
    by_cases c : bt pm n = true ∧ (cd_nc pm pr b n).2 < pr (b + n)
    · rw [if_pos c] at h
      exact absurd h (by simp)
    · rw [if_neg c] at h ⊢
      obtain ⟨h1, h2⟩ := ih h
      refine ⟨h1, fun q hq hb => ?_⟩
      by_cases e : q = n
      · subst e
        rw [h1] at c
        exact fun z => c ⟨hb, z⟩
      · exact h2 q (by omega) hb
theorem pg_nc_some {pm : Int32} {pr : Nat → Int32} {b : Nat} : ∀ n q0, (cd_nc pm pr b n).1 = some q0 → q0 < n ∧ bt pm q0 = true ∧ (cd_nc pm pr b n).2 = pr (b + q0) ∧ (15 : Int32) < pr (b + q0) ∧ ∀ q, q < n → bt pm q = true → ¬ pr (b + q0) < pr (b + q) := by
  intro n
  induction n with
  | zero => intro q0 h; exact absurd h (by unfold cd_nc; simp)
  | succ n ih =>
    intro q0 h
    unfold cd_nc at h ⊢
    by_cases c : bt pm n = true ∧ (cd_nc pm pr b n).2 < pr (b + n)
    · rw [if_pos c] at h ⊢
      cases h
      refine ⟨by omega, c.1, rfl, ?_, fun q hq hb => ?_⟩
      · cases e : (cd_nc pm pr b n).1 with
        | none =>
          have := (pg_nc_none n e).1
          rw [this] at c
          exact c.2
        | some q1 =>
          have h1 := ih q1 e
          rw [h1.2.2.1] at c
          exact Int32.lt_trans h1.2.2.2.1 c.2
      · by_cases e : q = n
        · subst e; exact Int32.lt_irrefl
        · cases e1 : (cd_nc pm pr b n).1 with
          | none =>
            have h1 := pg_nc_none n e1
            rw [h1.1] at c
            intro z
            exact h1.2 q (by omega) hb (Int32.lt_trans c.2 z)
          | some q1 =>
            have h1 := ih q1 e1
            rw [h1.2.2.1] at c
            intro z
            exact h1.2.2.2.2 q (by omega) hb (Int32.lt_trans c.2 z)
    · rw [if_neg c] at h ⊢
      obtain ⟨h0, h1, h2, h3, h4⟩ := ih q0 h
      refine ⟨by omega, h1, h2, h3, fun q hq hb => ?_⟩
      by_cases e : q = n
      · subst e
        rw [h2] at c
        exact fun z => c ⟨hb, z⟩
      · exact h4 q (by omega) hb
theorem pg_fp_bt {pm : Int32} {pr : Nat → Int32} {b : Nat} : ∀ n, n ≤ 32 → ∀ q, q < 32 → (bt (cd_fp pm pr b n) q = true ↔ q < n ∧ bt pm q = true ∧ pr (b + q) = 0) := by
  intro n
  induction n with
  | zero =>
    intro _ q _
    unfold cd_fp
    rw [b_0]
    exact ⟨fun z => absurd z (by decide), fun z => absurd z.1 (Nat.not_lt_zero q)⟩
  | succ n ih =>
    intro hn q hq
    have ih := ih (by omega) q hq
    unfold cd_fp
    by_cases c : bt pm n = true ∧ pr (b + n) = 0
    · rw [if_pos c, b_or, cd_shl1 n (by omega) hq, Bool.or_eq_true_iff, ih, decide_eq_true_iff]
      constructor
      · rintro (a | a)
        · exact ⟨by omega, a.2⟩
        · subst a; exact ⟨by omega, c⟩
      · intro a
        by_cases e : q = n
        · exact Or.inr e
        · exact Or.inl ⟨by omega, a.2⟩
    · rw [if_neg c, ih]
      constructor
      · intro a; exact ⟨by omega, a.2⟩
      · intro a
        by_cases e : q = n
        · subst e; exact absurd a.2 c
        · exact ⟨by omega, a.2⟩
theorem pg_sv_ct {vs : Int32} {pv : Nat → Int32} {b : Nat} {w : Int32} : ∀ n, cd_sv vs pv b w n = pg_ct (fun q => bt vs q && decide (pv (b + q) = w)) n := by
  intro n
  induction n with
  | zero => rfl
  | succ n ih =>
    unfold cd_sv
    rw [pg_ctS, ih]
    congr 1
    by_cases c : bt vs n = true ∧ pv (b + n) = w
    · rw [if_pos c, if_pos (Bool.and_eq_true_iff.mpr ⟨c.1, decide_eq_true c.2⟩)]
    · rw [if_neg c, if_neg (fun z => c ⟨(Bool.and_eq_true_iff.mp z).1, of_decide_eq_true (Bool.and_eq_true_iff.mp z).2⟩)]
theorem pg_pd_some {vs en : Int32} {pv : Nat → Int32} {b : Nat} : ∀ d j q0, cd_pd vs pv b en d j = some q0 → q0 < j + d ∧ bt vs q0 = true ∧ en ≤ nI (cd_sv vs pv b (pv (b + q0)) 16) := by
  intro d
  induction d with
  | zero => intro j q0 h; exact absurd h (by unfold cd_pd; simp)
  | succ d ih =>
    intro j q0 h
    unfold cd_pd at h
    by_cases c : bt vs j = true ∧ en ≤ nI (cd_sv vs pv b (pv (b + j)) 16)
    · rw [if_pos c] at h
      cases h
      exact ⟨by omega, c⟩
    · rw [if_neg c] at h
      have := ih (j + 1) q0 h
      exact ⟨by omega, this.2⟩
theorem pg_pd_none {vs en : Int32} {pv : Nat → Int32} {b : Nat} : ∀ d j, cd_pd vs pv b en d j = none → ∀ q, j ≤ q → q < j + d → bt vs q = true → ¬ en ≤ nI (cd_sv vs pv b (pv (b + q)) 16) := by
  intro d
  induction d with
  | zero => intro j _ q h1 h2; omega
  | succ d ih =>
    intro j h q h1 h2 hb
    unfold cd_pd at h
    by_cases c : bt vs j = true ∧ en ≤ nI (cd_sv vs pv b (pv (b + j)) 16)
    · rw [if_pos c] at h
      exact absurd h (by simp)
    · rw [if_neg c] at h
      by_cases e : q = j
      · subst e; exact fun z => c ⟨hb, z⟩
      · exact ih (j + 1) h q (by omega) (by omega) hb
theorem pg_lo_some {vs : Int32} : ∀ d j q0, cd_lo vs d j = some q0 → q0 < j + d ∧ bt vs q0 = true := by
  intro d
  induction d with
  | zero => intro j q0 h; exact absurd h (by unfold cd_lo; simp)
  | succ d ih =>
    intro j q0 h
    unfold cd_lo at h
    by_cases c : bt vs j = true
    · rw [if_pos c] at h
      cases h
      exact ⟨by omega, c⟩
    · rw [if_neg c] at h
      have := ih (j + 1) q0 h
      exact ⟨by omega, this.2⟩
theorem pg_lo_none {vs : Int32} : ∀ d j, cd_lo vs d j = none → ∀ q, j ≤ q → q < j + d → bt vs q = false := by
  intro d
  induction d with
  | zero => intro j _ q h1 h2; omega
  | succ d ih =>
    intro j h q h1 h2
    unfold cd_lo at h
    by_cases c : bt vs j = true
    · rw [if_pos c] at h
      exact absurd h (by simp)
    · rw [if_neg c] at h
      by_cases e : q = j
      · subst e; exact cd_bn c
      · exact ih (j + 1) h q (by omega) (by omega)
theorem pg_cn_ct (x : Int32) : ∀ n, cd_cn x n = pg_ct (fun q => bt x q) n := by
  intro n
  induction n with
  | zero => rfl
  | succ n ih => unfold cd_cn; rw [pg_ctS, ih]
theorem pg_qtab : ∀ m, m < 17 → cd_fq (nI m) = nI (pg_fq m) ∧ cd_cq (nI m) = nI (pg_cq m) ∧ cd_en (nI m) = nI (pg_fq m + pg_cq m - m) := by decide +kernel
theorem pg_m_le (g : pg_G) (c : Nat) : pg_m g c ≤ 16 := by
  unfold pg_m
  rw [← pg_cn_ct]
  exact cd_cn_le _ 16
/-! the chosen value is safe -/
theorem pg_choose {g : pg_G} {c r b : Nat} {prs : Int32} {pr pv : Nat → Int32} (hr : 16 ≤ r) (hr2 : r < 2 ^ 31) (hok : ∀ q, q < 16 → bt prs q = true → pg_pok g c q r (pr (b + q)) (pv (b + q))) (hn : cd_ct prs = cd_cq (cd_ct (pg_M g c))) :
    (∀ q0, cd_ch prs (pg_M g c) pr pv b = some q0 → q0 < 16 ∧ bt prs q0 = true ∧ pg_safe g c r (pv (b + q0)) ∧ ((∃ r1, pv (b + q0) = pg_W g c r1 ∧ ¬ pg_W g c r1 = -1) ∨ (pv (b + q0) = pg_V g c q0 ∧ ¬ pg_V g c q0 = -1))) ∧
    (cd_ch prs (pg_M g c) pr pv b = none → ∀ v, pg_safe g c r v) := by
  have hm : cd_ct (pg_M g c) = nI (pg_m g c) := by unfold cd_ct pg_m; rw [pg_cn_ct]
  have hm16 := pg_m_le g c
  have hq := pg_qtab (pg_m g c) (by omega)
  have hcnt : pg_ct (fun q => bt prs q) 16 = pg_cq (pg_m g c) := by
    rw [hm, hq.2.1] at hn
    unfold cd_ct at hn
    rw [pg_cn_ct] at hn
    have h1 : pg_ct (fun q => bt prs q) 16 ≤ 16 := by rw [← pg_cn_ct]; exact cd_cn_le _ 16
    unfold pg_cq at hn ⊢
    exact (nI_eq (by omega) (by omega)).mp hn
  have hQ : ∀ q, q < 16 → bt prs q = true → bt (pg_M g c) q = true ∧ r ≤ pg_P g c q := fun q hq e => ⟨(hok q hq e).1, (hok q hq e).2.1⟩
  have hge : pg_cq (pg_m g c) ≤ pg_ct (fun q => bt prs q) 16 := by omega
  unfold cd_ch
  cases e1 : (cd_nc prs pr b 16).1 with
  | some q1 =>
    refine ⟨fun q0 e => ?_, fun e => absurd e (by simp)⟩
    cases e
    obtain ⟨h1, h2, h3, h4, h5⟩ := pg_nc_some 16 q1 e1
    obtain ⟨_, hP, h⟩ := hok q1 h1 h2
    rcases h with ⟨e, _⟩ | ⟨e, _⟩ | ⟨r1, e, h16, hlt, ez, hW, hA⟩
    · rw [e] at h4; exact absurd h4 (by decide)
    · rw [e] at h4; exact absurd h4 (by decide)
    · refine ⟨h1, h2, ⟨fun q => bt prs q, hQ, hge, Or.inl ⟨r1, h16, hlt, ez.symm, by rw [ez]; exact hW, fun q hq16 hb r' a b' => ?_⟩⟩, Or.inl ⟨r1, ez, hW⟩⟩
      have hmax := h5 q hq16 hb
      rw [e] at hmax
      obtain ⟨_, _, h⟩ := hok q hq16 hb
      rcases h with ⟨_, _, hA2⟩ | ⟨_, _, _, hA2⟩ | ⟨r2, e2, _, hlt2, _, _, hA2⟩
      · exact hA2 r' b'
      · exact hA2 r' b'
      · rw [e2] at hmax
        have : ¬ r1 < r2 := fun z => hmax (nI_lt z (by omega))
        exact hA2 r' (by omega) b'
  | none =>
    obtain ⟨_, hno⟩ := pg_nc_none 16 e1
    have hA : ∀ q, q < 16 → bt prs q = true → ∀ r', r' < r → pg_A g c q r' = false := by
      intro q hq16 hb r' a
      obtain ⟨_, _, h⟩ := hok q hq16 hb
      rcases h with ⟨_, _, hA2⟩ | ⟨_, _, _, hA2⟩ | ⟨r2, e2, h16, hlt2, _, _, _⟩
      · exact hA2 r' a
      · exact hA2 r' a
      · have := hno q hq16 hb
        rw [e2] at this
        exact absurd (nI_lt (a := 15) (by omega) (by omega)) this
    have hvs : ∀ q, q < 16 → (bt (cd_fp prs pr b 16) q = true ↔ bt prs q = true ∧ pr (b + q) = 0) := fun q hq16 => by
      rw [pg_fp_bt 16 (by omega) q (by omega)]
      exact ⟨fun z => z.2, fun z => ⟨hq16, z⟩⟩
    have hval : ∀ q, q < 16 → bt (cd_fp prs pr b 16) q = true → pv (b + q) = pg_V g c q ∧ ¬ pg_V g c q = -1 := by
      intro q hq16 hb
      obtain ⟨hb1, h0⟩ := (hvs q hq16).mp hb
      obtain ⟨_, _, h⟩ := hok q hq16 hb1
      rcases h with ⟨e, _⟩ | ⟨_, ez, hV, _⟩ | ⟨r2, e2, h16, _⟩
      · rw [h0] at e; exact absurd e (by decide)
      · exact ⟨ez, hV⟩
      · rw [h0] at e2
        exact absurd e2.symm (nI_ne0 (by omega) (by omega))
    have hcount : ∀ w, ¬ w = -1 → pg_ct (fun q => bt prs q && decide (pg_V g c q = w)) 16 = cd_sv (cd_fp prs pr b 16) pv b w 16 := by
      intro w hw
      rw [pg_sv_ct]
      refine pg_ct_congr 16 (fun q hq16 => ?_)
      cases e : bt (cd_fp prs pr b 16) q
      · cases e2 : bt prs q
        · rfl
        · obtain ⟨_, _, h⟩ := hok q hq16 e2
          have h0 : ¬ pr (b + q) = 0 := fun z => by
            have := (hvs q hq16).mpr ⟨e2, z⟩
            rw [e] at this
            exact absurd this (by decide)
          rcases h with ⟨_, hV, _⟩ | ⟨ez, _⟩ | ⟨r2, e3, h16, hlt, _⟩
          · rw [hV, decide_eq_false (fun z => hw z.symm)]
            rfl
          · exact absurd ez h0
          · have := hno q hq16 e2
            rw [e3] at this
            exact absurd (nI_lt (a := 15) (by omega) (by omega)) this
      · have h2 := (hvs q hq16).mp e
        rw [h2.1, (hval q hq16 e).1]
    have hsv : ∀ w, cd_sv (cd_fp prs pr b 16) pv b w 16 ≤ 16 := fun w => by
      rw [pg_sv_ct]
      exact Nat.le_trans (pg_ct_mono (T := fun _ => true) 16 (fun _ _ _ => rfl)) (by decide)
    have hen : ∀ n, n ≤ 16 → (cd_en (cd_ct (pg_M g c)) ≤ nI n ↔ pg_fq (pg_m g c) + pg_cq (pg_m g c) - pg_m g c ≤ n) := fun n hn16 => by
      rw [hm, hq.2.2]
      have : pg_fq (pg_m g c) + pg_cq (pg_m g c) - pg_m g c ≤ 64 := by unfold pg_fq pg_cq; omega
      exact nI_leI (by omega) (by omega)
    have hT : pg_m g c < pg_fq (pg_m g c) + pg_cq (pg_m g c) := by unfold pg_fq pg_cq; omega
    have hT2 : 2 * pg_m g c + pg_cq (pg_m g c) < 2 * (pg_fq (pg_m g c) + pg_cq (pg_m g c)) := by unfold pg_fq pg_cq; omega
    dsimp only
    cases e2 : cd_pd (cd_fp prs pr b 16) pv b (cd_en (cd_ct (pg_M g c))) 16 0 with
    | some q1 =>
      refine ⟨fun q0 e => ?_, fun e => absurd e (by simp)⟩
      cases e
      obtain ⟨h1, h2, h3⟩ := pg_pd_some 16 0 q1 e2
      have hv := hval q1 (by omega) h2
      refine ⟨by omega, ((hvs q1 (by omega)).mp h2).1, ⟨fun q => bt prs q, hQ, hge, Or.inr ⟨hA, fun w hw hw1 => ?_⟩⟩, Or.inr hv⟩
      have h4 := (hen _ (hsv _)).mp h3
      rw [← hcount _ (by rw [hv.1]; exact hv.2)] at h4
      have hm3 := pg_meet (S := fun q => bt prs q && decide (pg_V g c q = w)) (T := fun q => bt prs q && decide (pg_V g c q = pv (b + q1))) (U := fun q => bt prs q) (n := 16) (fun i _ e => (Bool.and_eq_true_iff.mp e).1) (fun i _ e => (Bool.and_eq_true_iff.mp e).1)
      have h0 : pg_ct (fun i => (bt prs i && decide (pg_V g c i = w)) && (bt prs i && decide (pg_V g c i = pv (b + q1)))) 16 = 0 := pg_ct_zero 16 (fun i hi => by
        cases e : ((bt prs i && decide (pg_V g c i = w)) && (bt prs i && decide (pg_V g c i = pv (b + q1))))
        · rfl
        · exfalso
          have e := Bool.and_eq_true_iff.mp e
          exact hw ((of_decide_eq_true (Bool.and_eq_true_iff.mp e.1).2).symm.trans (of_decide_eq_true (Bool.and_eq_true_iff.mp e.2).2)))
      show pg_ct (fun q => bt prs q && decide (pg_V g c q = w)) 16 + pg_m g c < pg_fq (pg_m g c) + pg_cq (pg_m g c)
      omega
    | none =>
      dsimp only
      have hnone := pg_pd_none 16 0 e2
      have hfew : ∀ w, ¬ w = -1 → pg_ct (fun q => bt prs q && decide (pg_V g c q = w)) 16 + pg_m g c < pg_fq (pg_m g c) + pg_cq (pg_m g c) := by
        intro w hw
        rcases Nat.eq_zero_or_pos (pg_ct (fun q => bt prs q && decide (pg_V g c q = w)) 16) with z | z
        · omega
        · rw [hcount w hw] at z ⊢
          have z2 := z
          rw [pg_sv_ct] at z2
          obtain ⟨q, hq16, hqq⟩ := pg_ct_pos 16 z2
          have hqq := Bool.and_eq_true_iff.mp hqq
          have h3 := hnone q (by omega) (by omega) hqq.1
          rw [of_decide_eq_true hqq.2, hen _ (hsv _)] at h3
          omega
      refine ⟨fun q0 e => ?_, fun e v => ⟨fun q => bt prs q, hQ, hge, Or.inr ⟨hA, fun w _ hw1 => hfew w hw1⟩⟩⟩
      obtain ⟨h1, h2⟩ := pg_lo_some 16 0 q0 e
      exact ⟨by omega, ((hvs q0 (by omega)).mp h2).1, ⟨fun q => bt prs q, hQ, hge, Or.inr ⟨hA, fun w _ hw1 => hfew w hw1⟩⟩, Or.inr (hval q0 (by omega) h2)⟩
end PG3
end
section
section PG4
/-! a process, by its own cells; a message -/
def pg_hist (g : pg_G) (c p : Nat) (ar av : Int32) : Prop :=
  (ar = -1 ∧ pg_V g c p = -1 ∧ ∀ r, pg_A g c p r = false) ∨
  (ar = 0 ∧ av = pg_V g c p ∧ ¬ pg_V g c p = -1 ∧ ∀ r, pg_A g c p r = false) ∨
  (∃ r1, ar = nI r1 ∧ 16 ≤ r1 ∧ r1 ≤ pg_P g c p ∧ av = pg_W g c r1 ∧ ¬ pg_W g c r1 = -1 ∧ ∀ r', r1 < r' → pg_A g c p r' = false)
def pg_crd (g : pg_G) (c p rc : Nat) (ph prs : Int32) (prr prv : Nat → Int32) : Prop :=
  (∀ r, r % 16 = p → ¬ pg_W g c r = -1 → r ≤ rc ∧ (ph = 1 → ¬ r = rc)) ∧
  (ph = 1 → 16 ≤ rc ∧ rc % 16 = p ∧ ∀ q, q < 16 → bt prs q = true → pg_pok g c q rc (prr q) (prv q))
def pg_lrn (g : pg_G) (c k : Nat) (lr lf lv : Int32) : Prop := ∃ rl, rl ≤ 16 * k + 15 ∧ lr = nI rl ∧ ((rl = 0 ∧ ∀ q, q < 16 → bt lf q = false) ∨ (lv = pg_W g c rl ∧ ¬ pg_W g c rl = -1 ∧ ∀ q, q < 16 → bt lf q = true → pg_A g c q rl = true))
def pg_new (g : pg_G) (c p : Nat) : Prop := ∀ c', c < c' → pg_V g c' p = -1 ∧ pg_P g c' p = 0 ∧ (∀ r, pg_A g c' p r = false) ∧ ∀ r, r % 16 = p → pg_W g c' r = -1
def pg_p (g : pg_G) (k p : Nat) (cfg mem cut mv pm ar av crn ph prs lr lf lv : Int32) (vt prr prv : Nat → Int32) : Prop := ∃ c rc : Nat, cfg = nI c ∧ c ≤ k ∧ c ≤ pg_K g ∧ mem = pg_M g c ∧ cut = pg_C g c ∧ mv = pg_V g c p ∧ pm = nI (pg_P g c p) ∧ pg_P g c p ≤ 16 * k + 15 ∧
  pg_hist g c p ar av ∧ (∀ q, q < 16 → ¬ vt q = -1 → vt q = pg_V g c q) ∧ crn = nI rc ∧ rc ≤ 16 * k + 15 ∧ pg_crd g c p rc ph prs prr prv ∧ pg_lrn g c k lr lf lv ∧ pg_new g c p
def pg_ms (g : pg_G) (k : Nat) (kind src cfg x y z : Int32) : Prop := ∃ q c : Nat, q < 16 ∧ src = nI q ∧ cfg = nI c ∧ c ≤ k ∧ c ≤ pg_K g ∧
  ((kind = 1 ∧ ∃ s, s < 16 ∧ x = nI s) ∨ (kind = 2 ∧ x = pg_V g c q ∧ ¬ pg_V g c q = -1) ∨ (kind = 3 ∧ ∃ r, 16 ≤ r ∧ r ≤ 16 * k + 15 ∧ x = nI r) ∨
   (kind = 4 ∧ ∃ r, 16 ≤ r ∧ r ≤ 16 * k + 15 ∧ x = nI r ∧ pg_pok g c q r y z) ∨ (kind = 5 ∧ ∃ r, 16 ≤ r ∧ r ≤ 16 * k + 15 ∧ x = nI r ∧ y = pg_W g c r ∧ ¬ pg_W g c r = -1) ∨
   (kind = 6 ∧ ∃ r, 16 ≤ r ∧ r ≤ 16 * k + 15 ∧ x = nI r ∧ y = pg_W g c r ∧ ¬ pg_W g c r = -1 ∧ pg_A g c q r = true) ∨ (kind = 7 ∧ x = pg_M g c ∧ y = pg_C g c))
theorem pg_ms_up {g g' : pg_G} (L : pg_le g g') {k k' : Nat} (hk : k ≤ k') {kind src cfg x y z : Int32} (h : pg_ms g k kind src cfg x y z) : pg_ms g' k' kind src cfg x y z := by
  obtain ⟨q, c, hq, es, ec, hck, hc, h⟩ := h
  refine ⟨q, c, hq, es, ec, by omega, Nat.le_trans hc L.1, ?_⟩
  rcases h with h | ⟨e, ex, hv⟩ | ⟨e, r, h1, h2, h3⟩ | ⟨e, r, h1, h2, h3, h4⟩ | ⟨e, r, h1, h2, h3, h4, h5⟩ | ⟨e, r, h1, h2, h3, h4, h5, h6⟩ | ⟨e, h1, h2⟩
  · exact Or.inl h
  · exact Or.inr (Or.inl ⟨e, by rw [pg_le_V L hq hv]; exact ex, by rw [pg_le_V L hq hv]; exact hv⟩)
  · exact Or.inr (Or.inr (Or.inl ⟨e, r, h1, by omega, h3⟩))
  · exact Or.inr (Or.inr (Or.inr (Or.inl ⟨e, r, h1, by omega, h3, pg_pok_up L hc hq h1 h4⟩)))
  · exact Or.inr (Or.inr (Or.inr (Or.inr (Or.inl ⟨e, r, h1, by omega, h3, by rw [L.2.2.2.2.2 c r h5]; exact h4, by rw [L.2.2.2.2.2 c r h5]; exact h5⟩))))
  · exact Or.inr (Or.inr (Or.inr (Or.inr (Or.inr (Or.inl ⟨e, r, h1, by omega, h3, by rw [L.2.2.2.2.2 c r h5]; exact h4, by rw [L.2.2.2.2.2 c r h5]; exact h5, (L.2.2.2.2.1 c q r hq).1 h6⟩)))))
  · exact Or.inr (Or.inr (Or.inr (Or.inr (Or.inr (Or.inr ⟨e, by rw [(L.2.1 c hc).1]; exact h1, by rw [(L.2.1 c hc).2]; exact h2⟩)))))
theorem pg_lrn_up {g g' : pg_G} (L : pg_le g g') {c k k' : Nat} (hk : k ≤ k') {lr lf lv : Int32} (h : pg_lrn g c k lr lf lv) : pg_lrn g' c k' lr lf lv := by
  obtain ⟨rl, h1, h2, h⟩ := h
  refine ⟨rl, by omega, h2, ?_⟩
  rcases h with h | ⟨a, b, d⟩
  · exact Or.inl h
  · exact Or.inr ⟨by rw [L.2.2.2.2.2 c rl b]; exact a, by rw [L.2.2.2.2.2 c rl b]; exact b, fun q hq e => (L.2.2.2.2.1 c q rl hq).1 (d q hq e)⟩
/-- a process that did not act -/
theorem pg_p_up {g g' : pg_G} (I : pg_I g) (L : pg_le g g') {a : Nat} (O : pg_own a g g') {k k' p : Nat} (hk : k ≤ k') (hp : p < 16) (hpa : ¬ p = a) {cfg mem cut mv pm ar av crn ph prs lr lf lv : Int32} {vt prr prv : Nat → Int32}
    (h : pg_p g k p cfg mem cut mv pm ar av crn ph prs lr lf lv vt prr prv) : pg_p g' k' p cfg mem cut mv pm ar av crn ph prs lr lf lv vt prr prv := by
  obtain ⟨c, rc, h1, h2, h3, h4, h5, h6, h7, h8, h9, h10, h11, h12, h13, h14, h15⟩ := h
  have eV := fun c => (O.1 c p hp hpa).1
  have eP := fun c => (O.1 c p hp hpa).2.1
  have eA := fun c => (O.1 c p hp hpa).2.2
  have eW : ∀ c r, r % 16 = p → pg_W g' c r = pg_W g c r := fun c r e => O.2 c r (fun z => hpa (e.symm.trans z))
  refine ⟨c, rc, h1, by omega, Nat.le_trans h3 L.1, by rw [(L.2.1 c h3).1]; exact h4, by rw [(L.2.1 c h3).2]; exact h5, by rw [eV]; exact h6, by rw [eP]; exact h7, by rw [eP]; omega, ?_, fun q hq e => ?_, h11, by omega, ?_, pg_lrn_up L hk h14, ?_⟩
  · rcases h9 with ⟨e, v, al⟩ | ⟨e, v, v2, al⟩ | ⟨r1, e, a1, a2, a3, a4, al⟩
    · exact Or.inl ⟨e, by rw [eV]; exact v, fun r => by rw [eA]; exact al r⟩
    · exact Or.inr (Or.inl ⟨e, by rw [eV]; exact v, by rw [eV]; exact v2, fun r => by rw [eA]; exact al r⟩)
    · exact Or.inr (Or.inr ⟨r1, e, a1, by rw [eP]; exact a2, by rw [L.2.2.2.2.2 c r1 a4]; exact a3, by rw [L.2.2.2.2.2 c r1 a4]; exact a4, fun r' hr => by rw [eA]; exact al r' hr⟩)
  · have h := h10 q hq e
    rw [pg_le_V L hq (by rw [← h]; exact e)]; exact h
  · refine ⟨fun r e hW => ?_, fun e => ?_⟩
    · rw [eW c r e] at hW
      exact h13.1 r e hW
    · obtain ⟨b1, b2, b3⟩ := h13.2 e
      exact ⟨b1, b2, fun q hq hb => pg_pok_up L h3 hq b1 (b3 q hq hb)⟩
  · intro c' hc'
    obtain ⟨b1, b2, b3, b4⟩ := h15 c' hc'
    exact ⟨by rw [eV]; exact b1, by rw [eP]; exact b2, fun r => by rw [eA]; exact b3 r, fun r e => by rw [eW c' r e]; exact b4 r e⟩
end PG4
end
section
section PG5
/-! what one delivery does to its own process -/
def pg_e1 (g g' : pg_G) : Prop := pg_K g' ≤ pg_K g + 1 ∧ ∀ c, c < pg_K g' → c ≤ pg_K g ∧ pg_dec g c (pg_C g' (c + 1)) ∧ pg_M g' (c + 1) = pg_M g c ^^^ pg_C g' (c + 1)
def pg_e2 (g g' : pg_G) (p : Nat) (cfg mv : Int32) : Prop := (pg_K g' = pg_K g ∨ cfg = nI (pg_K g')) ∧ ∀ c q, q < 16 → pg_V g' c q = pg_V g c q ∨ (q = p ∧ cfg = nI c ∧ mv = pg_V g' c q)
theorem pg_e1_rf {g : pg_G} (I : pg_I g) {g' : pg_G} (hK : pg_K g' = pg_K g) (hC : pg_C g' = pg_C g) (hM : pg_M g' = pg_M g) : pg_e1 g g' := by
  refine ⟨by omega, fun c hc => ?_⟩
  rw [hK] at hc
  rw [hC, hM]
  exact ⟨by omega, (I.2.2.2.2 c hc).2, (I.2.2.2.2 c hc).1⟩
theorem pg_e2_rf {g : pg_G} {g' : pg_G} (hV : pg_V g' = pg_V g) {p : Nat} {cfg mv : Int32} (hK : pg_K g' = pg_K g ∨ cfg = nI (pg_K g')) : pg_e2 g g' p cfg mv := ⟨hK, fun c q _ => Or.inl (by rw [hV])⟩
theorem pg_crd_up {g g' : pg_G} (L : pg_le g g') {c p rc : Nat} (hc : c ≤ pg_K g) (hW : ∀ r, r % 16 = p → pg_W g' c r = pg_W g c r) {ph prs : Int32} {prr prv : Nat → Int32} (h : pg_crd g c p rc ph prs prr prv) : pg_crd g' c p rc ph prs prr prv := by
  refine ⟨fun r e w => ?_, fun e => ?_⟩
  · rw [hW r e] at w
    exact h.1 r e w
  · obtain ⟨b1, b2, b3⟩ := h.2 e
    exact ⟨b1, b2, fun q hq hb => pg_pok_up L hc hq b1 (b3 q hq hb)⟩
theorem pg_vt_up {g g' : pg_G} (L : pg_le g g') {c : Nat} {vt : Nat → Int32} (h : ∀ q, q < 16 → ¬ vt q = -1 → vt q = pg_V g c q) : ∀ q, q < 16 → ¬ vt q = -1 → vt q = pg_V g' c q := by
  intro q hq e
  have h := h q hq e
  rw [pg_le_V L hq (by rw [← h]; exact e)]; exact h
theorem pg_new_up {g g' : pg_G} {c p : Nat} (h : pg_new g c p) (hV : ∀ c', c < c' → pg_V g' c' p = pg_V g c' p ∧ pg_P g' c' p = pg_P g c' p ∧ (∀ r, pg_A g' c' p r = pg_A g c' p r) ∧ ∀ r, pg_W g' c' r = pg_W g c' r) : pg_new g' c p := by
  intro c' hc'
  obtain ⟨b1, b2, b3, b4⟩ := h c' hc'
  obtain ⟨e1, e2, e3, e4⟩ := hV c' hc'
  exact ⟨by rw [e1]; exact b1, by rw [e2]; exact b2, fun r => by rw [e3]; exact b3 r, fun r e => by rw [e4]; exact b4 r e⟩
section OWN
variable {g : pg_G} {k p : Nat} {cfg mem cut mv pm ar av crn ph prs lr lf lv : Int32} {vt prr prv : Nat → Int32}
/-- the same cells, a turn later -/
theorem po_id (I : pg_I g) (hp : p < 16) (h : pg_p g k p cfg mem cut mv pm ar av crn ph prs lr lf lv vt prr prv) : pg_p g (k + 1) p cfg mem cut mv pm ar av crn ph prs lr lf lv vt prr prv :=
  pg_p_up I (pg_le_rf g) (pg_own_rf (p + 1) g) (Nat.le_succ k) hp (by omega) h
theorem po_vote (I : pg_I g) (hp : p < 16) (hk : k ≤ 200) (h : pg_p g k p cfg mem cut mv pm ar av crn ph prs lr lf lv vt prr prv) (hmv : mv = -1) (hpm : pm = 0) (hm : bt mem p = true) {m : Int32} (hm0 : ¬ m = 0) (hm16 : m &&& 65535 = m) :
    ∃ g', pg_I g' ∧ pg_le g g' ∧ pg_own p g g' ∧ pg_e1 g g' ∧ pg_e2 g g' p cfg m ∧ pg_p g' (k + 1) p cfg mem cut m pm 0 m crn ph prs lr lf lv vt prr prv ∧ pg_ms g' (k + 1) 2 (nI p) cfg m 0 0 := by
  obtain ⟨c, rc, h1, h2, h3, h4, h5, h6, h7, h8, h9, h10, h11, h12, h13, h14, h15⟩ := h
  have hP : pg_P g c p = 0 := by
    rw [hpm] at h7
    rcases Nat.eq_zero_or_pos (pg_P g c p) with z | z
    · exact z
    · exact absurd h7.symm (nI_ne0 z (by omega))
  have hV : pg_V g c p = -1 := by rw [← h6]; exact hmv
  have hm1 : ¬ m = -1 := by
    intro e
    rw [e] at hm16
    exact absurd hm16 (by decide)
  obtain ⟨I', L, O⟩ := pg_vote_ok I h3 hp hP hV (by rw [← h4]; exact hm) hm0 hm16
  have eV : pg_V (pg_vote g c p m) c p = m := if_pos ⟨rfl, rfl⟩
  have hA : ∀ r, pg_A g c p r = false := by
    rcases h9 with ⟨_, _, a⟩ | ⟨_, _, v, _⟩ | ⟨r1, _, a1, a2, _⟩
    · exact a
    · exact absurd hV v
    · omega
  refine ⟨pg_vote g c p m, I', L, O, pg_e1_rf I rfl rfl rfl, ⟨Or.inl rfl, fun c' q _ => ?_⟩, ⟨c, rc, h1, by omega, h3, h4, h5, eV.symm, h7, by rw [show pg_P (pg_vote g c p m) c p = pg_P g c p from rfl]; omega, Or.inr (Or.inl ⟨rfl, eV.symm, by rw [eV]; exact hm1, hA⟩), pg_vt_up L h10, h11, by omega, pg_crd_up L h3 (fun _ _ => rfl) h13, pg_lrn_up L (Nat.le_succ k) h14, pg_new_up h15 (fun c' hc' => ⟨if_neg (by omega), rfl, fun _ => rfl, fun _ => rfl⟩)⟩, ⟨p, c, hp, rfl, h1, by omega, h3, Or.inr (Or.inl ⟨rfl, eV.symm, by rw [eV]; exact hm1⟩)⟩⟩
  by_cases e : c' = c ∧ q = p
  · obtain ⟨rfl, rfl⟩ := e
    exact Or.inr ⟨rfl, h1, eV.symm⟩
  · exact Or.inl (if_neg e)
theorem po_prep (I : pg_I g) (hp : p < 16) (hk : k ≤ 200) (h : pg_p g k p cfg mem cut mv pm ar av crn ph prs lr lf lv vt prr prv) (hm : bt mem p = true) {r : Nat} (hr : 16 ≤ r) (hrk : r ≤ 16 * k + 15) (hlt : pm < nI r) :
    ∃ g', pg_I g' ∧ pg_le g g' ∧ pg_own p g g' ∧ pg_e1 g g' ∧ pg_e2 g g' p cfg mv ∧ pg_p g' (k + 1) p cfg mem cut mv (nI r) ar av crn ph prs lr lf lv vt prr prv ∧ pg_ms g' (k + 1) 4 (nI p) cfg (nI r) ar av := by
  obtain ⟨c, rc, h1, h2, h3, h4, h5, h6, h7, h8, h9, h10, h11, h12, h13, h14, h15⟩ := h
  have hP : pg_P g c p < r := by
    rw [h7] at hlt
    exact (nI_ltI (by omega) (by omega)).mp hlt
  have hmM : bt (pg_M g c) p = true := by rw [← h4]; exact hm
  obtain ⟨I', L, O⟩ := pg_prom_ok I (p := p) h3 (Nat.le_of_lt hP)
  have eP : pg_P (pg_prom g c p r) c p = r := if_pos ⟨rfl, rfl⟩
  refine ⟨pg_prom g c p r, I', L, O, pg_e1_rf I rfl rfl rfl, pg_e2_rf rfl (Or.inl rfl), ⟨c, rc, h1, by omega, h3, h4, h5, h6, by rw [eP], by rw [eP]; omega, ?_, h10, h11, by omega, pg_crd_up L h3 (fun _ _ => rfl) h13, pg_lrn_up L (Nat.le_succ k) h14, pg_new_up h15 (fun c' hc' => ⟨rfl, if_neg (by omega), fun _ => rfl, fun _ => rfl⟩)⟩, ⟨p, c, hp, rfl, h1, by omega, h3, Or.inr (Or.inr (Or.inr (Or.inl ⟨rfl, r, hr, by omega, rfl, hmM, by rw [eP]; exact Nat.le_refl r, ?_⟩)))⟩⟩
  · rcases h9 with a | a | ⟨r1, e, a1, a2, a3, a4, al⟩
    · exact Or.inl a
    · exact Or.inr (Or.inl a)
    · exact Or.inr (Or.inr ⟨r1, e, a1, by rw [eP]; omega, a3, a4, al⟩)
  · rcases h9 with ⟨a, b, d⟩ | ⟨a, b, b2, d⟩ | ⟨r1, e, a1, a2, a3, a4, al⟩
    · exact Or.inl ⟨a, b, fun r' _ => d r'⟩
    · exact Or.inr (Or.inl ⟨a, b, b2, fun r' _ => d r'⟩)
    · exact Or.inr (Or.inr ⟨r1, e, a1, by omega, a3, a4, fun r' x _ => al r' x⟩)
theorem po_acc (I : pg_I g) (hp : p < 16) (hk : k ≤ 200) (h : pg_p g k p cfg mem cut mv pm ar av crn ph prs lr lf lv vt prr prv) (hm : bt mem p = true) {r c0 : Nat} {y : Int32} (hr : 16 ≤ r) (hrk : r ≤ 16 * k + 15) (hc0 : cfg = nI c0) (hc0k : c0 ≤ k) (hy : y = pg_W g c0 r) (hw : ¬ pg_W g c0 r = -1) (hle : pm ≤ nI r) :
    ∃ g', pg_I g' ∧ pg_le g g' ∧ pg_own p g g' ∧ pg_e1 g g' ∧ pg_e2 g g' p cfg mv ∧ pg_p g' (k + 1) p cfg mem cut mv (nI r) (nI r) y crn ph prs lr lf lv vt prr prv ∧ pg_ms g' (k + 1) 6 (nI p) cfg (nI r) y 0 := by
  obtain ⟨c, rc, h1, h2, h3, h4, h5, h6, h7, h8, h9, h10, h11, h12, h13, h14, h15⟩ := h
  have e : c0 = c := (nI_eq (by omega) (by omega)).mp (hc0.symm.trans h1)
  subst e
  have hP : pg_P g c0 p ≤ r := by
    rw [h7] at hle
    exact (nI_leI (by omega) (by omega)).mp hle
  obtain ⟨I', L, O⟩ := pg_acc_ok I (p := p) h3 hP hw (by rw [← h4]; exact hm)
  have eP : pg_P (pg_acc g c0 p r) c0 p = r := if_pos ⟨rfl, rfl⟩
  have eA : pg_A (pg_acc g c0 p r) c0 p r = true := if_pos ⟨rfl, rfl, rfl⟩
  have hAn : ∀ r', r < r' → pg_A (pg_acc g c0 p r) c0 p r' = false := by
    intro r' hr'
    have e : pg_A (pg_acc g c0 p r) c0 p r' = pg_A g c0 p r' := if_neg (by omega)
    rw [e]
    cases e2 : pg_A g c0 p r'
    · rfl
    · have := (I.1 c0 p r' hp e2).2.2
      omega
  refine ⟨pg_acc g c0 p r, I', L, O, pg_e1_rf I rfl rfl rfl, pg_e2_rf rfl (Or.inl rfl), ⟨c0, rc, h1, by omega, h3, h4, h5, h6, by rw [eP], by rw [eP]; omega, Or.inr (Or.inr ⟨r, rfl, hr, by rw [eP]; exact Nat.le_refl r, hy, hw, hAn⟩), h10, h11, by omega, pg_crd_up L h3 (fun _ _ => rfl) h13, pg_lrn_up L (Nat.le_succ k) h14, pg_new_up h15 (fun c' hc' => ⟨rfl, if_neg (by omega), fun _ => if_neg (by omega), fun _ => rfl⟩)⟩, ⟨p, c0, hp, rfl, h1, by omega, h3, Or.inr (Or.inr (Or.inr (Or.inr (Or.inr (Or.inl ⟨rfl, r, hr, by omega, rfl, hy, hw, eA⟩)))))⟩⟩
/-- the vote of q, noted -/
theorem po_note (I : pg_I g) (hp : p < 16) (hk : k ≤ 200) (h : pg_p g k p cfg mem cut mv pm ar av crn ph prs lr lf lv vt prr prv) {q c0 : Nat} {x : Int32} (hq : q < 16) (hc0 : cfg = nI c0) (hc0k : c0 ≤ k) (hx : x = pg_V g c0 q) {vt' : Nat → Int32} (hv : ∀ j, j < 16 → vt' j = if j = q then x else vt j) :
    pg_p g k p cfg mem cut mv pm ar av crn ph prs lr lf lv vt' prr prv := by
  obtain ⟨c, rc, h1, h2, h3, h4, h5, h6, h7, h8, h9, h10, h11, h12, h13, h14, h15⟩ := h
  have e : c0 = c := (nI_eq (by omega) (by omega)).mp (hc0.symm.trans h1)
  subst e
  refine ⟨c0, rc, h1, h2, h3, h4, h5, h6, h7, h8, h9, fun j hj n => ?_, h11, h12, h13, h14, h15⟩
  rw [hv j hj] at n ⊢
  by_cases e : j = q
  · rw [if_pos e] at n ⊢
    rw [e]; exact hx
  · rw [if_neg e] at n ⊢
    exact h10 j hj n
/-- the next configuration, installed -/
theorem po_fresh {c : Nat} (hp : p < 16) (hc : c ≤ k) (hcK : c ≤ pg_K g) (h : pg_V g c p = -1 ∧ pg_P g c p = 0 ∧ (∀ r, pg_A g c p r = false) ∧ ∀ r, r % 16 = p → pg_W g c r = -1) (hn : pg_new g c p) {vt' : Nat → Int32} (hv : ∀ j, j < 16 → vt' j = -1) :
    pg_p g k p (nI c) (pg_M g c) (pg_C g c) (-1) 0 (-1) 0 0 0 0 0 0 0 vt' prr prv := by
  refine ⟨c, 0, rfl, hc, hcK, rfl, rfl, h.1.symm, by rw [h.2.1]; rfl, by rw [h.2.1]; omega, Or.inl ⟨rfl, h.1, h.2.2.1⟩, fun q hq n => absurd (hv q hq) n, rfl, by omega, ⟨fun r e w => absurd (h.2.2.2 r e) w, fun e => absurd e (by decide)⟩, ⟨0, by omega, rfl, Or.inl ⟨rfl, fun q _ => b_0 q⟩⟩, hn⟩
theorem po_dec (I : pg_I g) (hp : p < 16) (hk : k ≤ 200) (h : pg_p g k p cfg mem cut mv pm ar av crn ph prs lr lf lv vt prr prv) {x : Int32} {c0 : Nat} (hc0 : cfg = nI c0) (hc0k : c0 ≤ k) (hd : pg_dec g c0 x) {vt' : Nat → Int32} (hv : ∀ j, j < 16 → vt' j = -1) {prr' prv' : Nat → Int32} :
    ∃ g', pg_I g' ∧ pg_le g g' ∧ pg_own p g g' ∧ pg_e1 g g' ∧ pg_e2 g g' p (cfg + 1) (-1) ∧ pg_p g' (k + 1) p (cfg + 1) (mem ^^^ x) x (-1) 0 (-1) 0 0 0 0 0 0 0 vt' prr' prv' ∧ pg_ms g' (k + 1) 7 (nI p) (cfg + 1) (mem ^^^ x) x 0 := by
  obtain ⟨c, rc, h1, h2, h3, h4, h5, h6, h7, h8, h9, h10, h11, h12, h13, h14, h15⟩ := h
  have e : c0 = c := (nI_eq (by omega) (by omega)).mp (hc0.symm.trans h1)
  subst e
  have ec : cfg + 1 = nI (c0 + 1) := by rw [h1, nI_1]
  have key : ∀ g', pg_I g' → pg_le g g' → pg_own p g g' → pg_e1 g g' → pg_V g' = pg_V g → pg_P g' = pg_P g → pg_A g' = pg_A g → pg_W g' = pg_W g → (pg_K g' = pg_K g ∨ cfg + 1 = nI (pg_K g')) → c0 + 1 ≤ pg_K g' → pg_M g' (c0 + 1) = mem ^^^ x → pg_C g' (c0 + 1) = x →
      ∃ g', pg_I g' ∧ pg_le g g' ∧ pg_own p g g' ∧ pg_e1 g g' ∧ pg_e2 g g' p (cfg + 1) (-1) ∧ pg_p g' (k + 1) p (cfg + 1) (mem ^^^ x) x (-1) 0 (-1) 0 0 0 0 0 0 0 vt' prr' prv' ∧ pg_ms g' (k + 1) 7 (nI p) (cfg + 1) (mem ^^^ x) x 0 := by
    intro g' I' L O E eV eP eA eW hKK hK eM eC
    refine ⟨g', I', L, O, E, pg_e2_rf eV hKK, ?_, ⟨p, c0 + 1, hp, rfl, ec, by omega, hK, Or.inr (Or.inr (Or.inr (Or.inr (Or.inr (Or.inr ⟨rfl, eM.symm, eC.symm⟩)))))⟩⟩
    have hn := h15 (c0 + 1) (by omega)
    have F := po_fresh (g := g') (k := k + 1) (c := c0 + 1) (prr := prr') (prv := prv') hp (by omega) hK (by rw [eV, eP, eA, eW]; exact hn) (fun c' hc' => by rw [eV, eP, eA, eW]; exact h15 c' (by omega)) hv
    rw [eM, eC, ← ec] at F
    exact F
  rcases Nat.lt_or_ge c0 (pg_K g) with lt | ge
  · have hi := I.2.2.2.2 c0 lt
    have ex : pg_C g (c0 + 1) = x := pg_agree I hi.2 hd
    refine key g I (pg_le_rf g) (pg_own_rf p g) (pg_e1_rf I rfl rfl rfl) rfl rfl rfl rfl (Or.inl rfl) (by omega) ?_ ex
    rw [hi.1, ex, h4]
  · have eK : c0 = pg_K g := by omega
    subst eK
    obtain ⟨I', L, O⟩ := pg_inst_ok I hd p
    have eM : pg_M (pg_inst g x) (pg_K g + 1) = pg_M g (pg_K g) ^^^ x := if_pos rfl
    have eC : pg_C (pg_inst g x) (pg_K g + 1) = x := if_pos rfl
    refine key (pg_inst g x) I' L O ⟨Nat.le_refl _, fun c hc => ?_⟩ rfl rfl rfl rfl (Or.inr ec) (Nat.le_refl _) (by rw [eM, h4]) eC
    have hc : c < pg_K g + 1 := hc
    rcases Nat.lt_or_ge c (pg_K g) with l | l
    · have a := I.2.2.2.2 c l
      rw [(L.2.1 (c + 1) (by omega)).2, (L.2.1 (c + 1) (by omega)).1]
      exact ⟨by omega, a.2, a.1⟩
    · have e2 : c = pg_K g := by omega
      subst e2
      rw [eC, eM]
      exact ⟨Nat.le_refl _, hd, rfl⟩
theorem po_wel (I : pg_I g) (hp : p < 16) (hk : k ≤ 200) (h : pg_p g k p cfg mem cut mv pm ar av crn ph prs lr lf lv vt prr prv) {c0 : Nat} (hc0k : c0 ≤ k) (hc0K : c0 ≤ pg_K g) (hlt : cfg < nI c0) {vt' : Nat → Int32} (hv : ∀ j, j < 16 → vt' j = -1) {prr' prv' : Nat → Int32} :
    pg_p g (k + 1) p (nI c0) (pg_M g c0) (pg_C g c0) (-1) 0 (-1) 0 0 0 0 0 0 0 vt' prr' prv' := by
  obtain ⟨c, rc, h1, h2, h3, h4, h5, h6, h7, h8, h9, h10, h11, h12, h13, h14, h15⟩ := h
  have lt : c < c0 := by
    rw [h1] at hlt
    exact (nI_ltI (by omega) (by omega)).mp hlt
  exact po_fresh hp (by omega) hc0K (h15 c0 lt) (fun c' hc' => h15 c' (by omega)) hv
theorem po_fb (I : pg_I g) (hp : p < 16) (hk : k ≤ 200) (h : pg_p g k p cfg mem cut mv pm ar av crn ph prs lr lf lv vt prr prv) {b : Int32} (hb : b = (if pm ≤ crn then crn else pm)) :
    pg_p g (k + 1) p cfg mem cut mv pm ar av ((b / 16 + 1) * 16 + nI p) 1 0 lr lf lv vt prr prv ∧ pg_ms g (k + 1) 3 (nI p) cfg ((b / 16 + 1) * 16 + nI p) 0 0 := by
  obtain ⟨c, rc, h1, h2, h3, h4, h5, h6, h7, h8, h9, h10, h11, h12, h13, h14, h15⟩ := h
  have hB : ∃ B, b = nI B ∧ B ≤ 16 * k + 15 ∧ rc ≤ B := by
    rw [h7, h11] at hb
    by_cases e : nI (pg_P g c p) ≤ nI rc
    · rw [if_pos e] at hb
      exact ⟨rc, hb, h12, Nat.le_refl _⟩
    · rw [if_neg e] at hb
      refine ⟨pg_P g c p, hb, h8, ?_⟩
      rcases Nat.lt_or_ge (pg_P g c p) rc with l | l
      · exact absurd (nI_le (Nat.le_of_lt l) (by omega)) e
      · exact l
  obtain ⟨B, eB, hBk, hrB⟩ := hB
  have eR : (b / 16 + 1) * 16 + nI p = nI ((B / 16 + 1) * 16 + p) := by
    rw [eB, show (16 : Int32) = nI 16 from rfl, pk_div (by omega) (by omega) (by decide), show (nI (B / 16) + 1) = nI (B / 16 + 1) from nI_1 _, pk_mul, nI_add]
  rw [eR]
  have hlt : rc < (B / 16 + 1) * 16 + p := by omega
  have hmod : ((B / 16 + 1) * 16 + p) % 16 = p := by omega
  have hle : (B / 16 + 1) * 16 + p ≤ 16 * (k + 1) + 15 := by omega
  refine ⟨⟨c, (B / 16 + 1) * 16 + p, h1, by omega, h3, h4, h5, h6, h7, by omega, h9, h10, rfl, hle, ⟨fun r e w => ?_, fun _ => ⟨by omega, hmod, fun q _ hq => ?_⟩⟩, pg_lrn_up (pg_le_rf g) (Nat.le_succ k) h14, h15⟩, ⟨p, c, hp, rfl, h1, by omega, h3, Or.inr (Or.inr (Or.inl ⟨rfl, _, by omega, hle, rfl⟩))⟩⟩
  · have := (h13.1 r e w).1
    exact ⟨by omega, fun _ => by omega⟩
  · rw [b_0] at hq
    exact absurd hq (by decide)
theorem po_tell (hp : p < 16) (h : pg_p g k p cfg mem cut mv pm ar av crn ph prs lr lf lv vt prr prv) : pg_ms g (k + 1) 7 (nI p) cfg mem cut 0 := by
  obtain ⟨c, rc, h1, h2, h3, h4, h5, h6, h7, h8, h9, h10, h11, h12, h13, h14, h15⟩ := h
  exact ⟨p, c, hp, rfl, h1, by omega, h3, Or.inr (Or.inr (Or.inr (Or.inr (Or.inr (Or.inr ⟨rfl, h4, h5⟩)))))⟩
end OWN
end PG5
end
section
section PG6
theorem pg_cnt {g : pg_G} {c : Nat} : cd_ct (pg_M g c) = nI (pg_m g c) := by unfold cd_ct pg_m; rw [pg_cn_ct]
theorem pg_cq_le {g : pg_G} {c : Nat} {x : Int32} (h : cd_cq (cd_ct (pg_M g c)) ≤ cd_ct x) : pg_cq (pg_m g c) ≤ pg_ct (fun q => bt x q) 16 := by
  have hm16 := pg_m_le g c
  have hq := pg_qtab (pg_m g c) (by omega)
  rw [pg_cnt, hq.2.1] at h
  unfold cd_ct at h
  have h1 : cd_cn x 16 ≤ 16 := cd_cn_le x 16
  have h2 : pg_cq (pg_m g c) ≤ 64 := by unfold pg_cq; omega
  rw [nI_leI (by omega) (by omega), pg_cn_ct] at h
  exact h
theorem pg_sm_ct (a : Nat → Int32) (b : Nat) (x : Int32) : ∀ n, cd_sm a b x n = pg_ct (fun j => decide (a (b + j) = x)) n := by
  intro n
  induction n with
  | zero => rfl
  | succ n ih =>
    rw [cd_smS, pg_ctS, ih]
    by_cases c : a (b + n) = x
    · rw [if_pos c, if_pos (decide_eq_true c)]
    · rw [if_neg c, if_neg (fun z => c (of_decide_eq_true z))]
theorem pg_ct_le (S : Nat → Bool) : ∀ n, pg_ct S n ≤ n := by
  intro n
  induction n with
  | zero => exact Nat.le_refl 0
  | succ n ih =>
    rw [pg_ctS]
    split <;> omega
theorem pg_fq_le {g : pg_G} {c : Nat} {n : Nat} (hn : n ≤ 16) (h : cd_fq (cd_ct (pg_M g c)) ≤ nI n) : pg_fq (pg_m g c) ≤ n := by
  have hm16 := pg_m_le g c
  have hq := pg_qtab (pg_m g c) (by omega)
  rw [pg_cnt, hq.1] at h
  have h2 : pg_fq (pg_m g c) ≤ 64 := by unfold pg_fq; omega
  exact (nI_leI (by omega) (by omega)).mp h
section OWN2
variable {g : pg_G} {k p : Nat} {cfg mem cut mv pm ar av crn ph prs lr lf lv : Int32} {vt prr prv : Nat → Int32}
/-- enough votes for x, all noted -/
theorem po_fast (h : pg_p g k p cfg mem cut mv pm ar av crn ph prs lr lf lv vt prr prv) (hk : k ≤ 200) {x : Int32} {q c0 : Nat} (hq : q < 16) (hc0 : cfg = nI c0) (hc0k : c0 ≤ k) (hx : ¬ x = -1) (hqx : vt q = x) (hn : cd_fq (cd_ct mem) ≤ nI (pg_ct (fun j => decide (vt j = x)) 16)) : pg_dec g c0 x := by
  obtain ⟨c, rc, h1, h2, h3, h4, h5, h6, h7, h8, h9, h10, h11, h12, h13, h14, h15⟩ := h
  have e : c0 = c := (nI_eq (by omega) (by omega)).mp (hc0.symm.trans h1)
  subst e
  rw [h4] at hn
  have hn := pg_fq_le (pg_ct_le _ 16) hn
  refine ⟨hx, Or.inl ⟨Nat.le_trans hn (pg_ct_mono 16 (fun i hi e => ?_)), q, hq, ?_⟩⟩
  · have e := of_decide_eq_true e
    have := h10 i hi (by rw [e]; exact hx)
    exact decide_eq_true (by rw [← this]; exact e)
  · have := h10 q hq (by rw [hqx]; exact hx)
    rw [← this]; exact hqx
/-- a promise, recorded -/
theorem po_rec (h : pg_p g k p cfg mem cut mv pm ar av crn ph prs lr lf lv vt prr prv) (hk : k ≤ 200) {r c0 q : Nat} {y z : Int32} (hq : q < 16) (hrk : r ≤ 16 * k + 15) (hc0 : cfg = nI c0) (hc0k : c0 ≤ k) (hx : nI r = crn) (hok : pg_pok g c0 q r y z) {prs' : Int32} {prr' prv' : Nat → Int32}
    (hb : ∀ j, j < 16 → (bt prs' j = true → j = q ∨ bt prs j = true)) (hr' : ∀ j, j < 16 → prr' j = if j = q then y else prr j) (hv' : ∀ j, j < 16 → prv' j = if j = q then z else prv j) :
    pg_p g k p cfg mem cut mv pm ar av crn ph prs' lr lf lv vt prr' prv' := by
  obtain ⟨c, rc, h1, h2, h3, h4, h5, h6, h7, h8, h9, h10, h11, h12, h13, h14, h15⟩ := h
  have e : c0 = c := (nI_eq (by omega) (by omega)).mp (hc0.symm.trans h1)
  subst e
  have er : r = rc := (nI_eq (by omega) (by omega)).mp (hx.trans h11)
  subst er
  refine ⟨c0, r, h1, h2, h3, h4, h5, h6, h7, h8, h9, h10, h11, h12, ⟨h13.1, fun e => ?_⟩, h14, h15⟩
  obtain ⟨b1, b2, b3⟩ := h13.2 e
  refine ⟨b1, b2, fun j hj hbj => ?_⟩
  rw [hr' j hj, hv' j hj]
  by_cases ej : j = q
  · rw [if_pos ej, if_pos ej, ej]; exact hok
  · rw [if_neg ej, if_neg ej]
    rcases hb j hj hbj with a | a
    · exact absurd a ej
    · exact b3 j hj a
/-- the accept of a round -/
theorem po_prop (I : pg_I g) (hp : p < 16) (hk : k ≤ 200) (h : pg_p g k p cfg mem cut mv pm ar av crn 1 prs lr lf lv vt prr prv) {v : Int32} {c0 rc0 : Nat} (hc0 : cfg = nI c0) (hc0k : c0 ≤ k) (hrc : crn = nI rc0) (hrck : rc0 ≤ 16 * k + 15) (hs : pg_safe g c0 rc0 v) (hv : ∃ q, q < 16 ∧ pg_V g c0 q = v) (hv1 : ¬ v = -1) :
    ∃ g', pg_I g' ∧ pg_le g g' ∧ pg_own p g g' ∧ pg_e1 g g' ∧ pg_e2 g g' p cfg mv ∧ pg_p g' (k + 1) p cfg mem cut mv pm ar av crn 2 prs lr lf lv vt prr prv ∧ pg_ms g' (k + 1) 5 (nI p) cfg crn v 0 := by
  obtain ⟨c, rc, h1, h2, h3, h4, h5, h6, h7, h8, h9, h10, h11, h12, h13, h14, h15⟩ := h
  have e : c0 = c := (nI_eq (by omega) (by omega)).mp (hc0.symm.trans h1)
  subst e
  have er : rc0 = rc := (nI_eq (by omega) (by omega)).mp (hrc.symm.trans h11)
  subst er
  obtain ⟨b1, b2, b3⟩ := h13.2 rfl
  have hW : pg_W g c0 rc0 = -1 := by
    by_cases e : pg_W g c0 rc0 = -1
    · exact e
    · exact absurd rfl ((h13.1 rc0 b2 e).2 rfl)
  obtain ⟨I', L, O⟩ := pg_prop_ok I h3 hW b1 hs hv
  rw [b2] at O
  have eW : pg_W (pg_prop g c0 rc0 v) c0 rc0 = v := if_pos ⟨rfl, rfl⟩
  refine ⟨pg_prop g c0 rc0 v, I', L, O, pg_e1_rf I rfl rfl rfl, pg_e2_rf rfl (Or.inl rfl), ⟨c0, rc0, h1, by omega, h3, h4, h5, h6, h7, ?_, ?_, h10, h11, by omega, ⟨fun r e w => ⟨?_, fun z => absurd z (by decide)⟩, fun z => absurd z (by decide)⟩, pg_lrn_up L (Nat.le_succ k) h14, pg_new_up h15 (fun c' hc' => ⟨rfl, rfl, fun _ => rfl, fun _ => if_neg (by omega)⟩)⟩, ⟨p, c0, hp, rfl, h1, by omega, h3, Or.inr (Or.inr (Or.inr (Or.inr (Or.inl ⟨rfl, rc0, b1, by omega, hrc, eW.symm, by rw [eW]; exact hv1⟩))))⟩⟩
  · show pg_P g c0 p ≤ 16 * (k + 1) + 15
    omega
  · rcases h9 with a | a | ⟨r1, e, a1, a2, a3, a4, al⟩
    · exact Or.inl a
    · exact Or.inr (Or.inl a)
    · exact Or.inr (Or.inr ⟨r1, e, a1, a2, by rw [L.2.2.2.2.2 c0 r1 a4]; exact a3, by rw [L.2.2.2.2.2 c0 r1 a4]; exact a4, al⟩)
  · by_cases er : r = rc0
    · omega
    · have : pg_W (pg_prop g c0 rc0 v) c0 r = pg_W g c0 r := if_neg (fun z => er z.2)
      rw [this] at w
      exact (h13.1 r e w).1
theorem po_idle (hp : p < 16) (I : pg_I g) (h : pg_p g k p cfg mem cut mv pm ar av crn 1 prs lr lf lv vt prr prv) : pg_p g (k + 1) p cfg mem cut mv pm ar av crn 0 prs lr lf lv vt prr prv := by
  obtain ⟨c, rc, h1, h2, h3, h4, h5, h6, h7, h8, h9, h10, h11, h12, h13, h14, h15⟩ := h
  exact ⟨c, rc, h1, by omega, h3, h4, h5, h6, h7, by omega, h9, h10, h11, by omega, ⟨fun r e w => ⟨(h13.1 r e w).1, fun z => absurd z (by decide)⟩, fun z => absurd z (by decide)⟩, pg_lrn_up (pg_le_rf g) (Nat.le_succ k) h14, h15⟩
/-- the choice, whatever it is -/
theorem po_choose (I : pg_I g) (hp : p < 16) (hk : k ≤ 200) {pr pv : Nat → Int32} {b : Nat} (h : pg_p g k p cfg mem cut mv pm ar av crn 1 prs lr lf lv vt (fun q => pr (b + q)) (fun q => pv (b + q))) (hn : cd_ct prs = cd_cq (cd_ct mem)) :
    (∀ q0, cd_ch prs mem pr pv b = some q0 → ∃ g', pg_I g' ∧ pg_le g g' ∧ pg_own p g g' ∧ pg_e1 g g' ∧ pg_e2 g g' p cfg mv ∧ pg_p g' (k + 1) p cfg mem cut mv pm ar av crn 2 prs lr lf lv vt (fun q => pr (b + q)) (fun q => pv (b + q)) ∧ pg_ms g' (k + 1) 5 (nI p) cfg crn (pv (b + q0)) 0) ∧
    (cd_ch prs mem pr pv b = none → ¬ mv = -1 → ∃ g', pg_I g' ∧ pg_le g g' ∧ pg_own p g g' ∧ pg_e1 g g' ∧ pg_e2 g g' p cfg mv ∧ pg_p g' (k + 1) p cfg mem cut mv pm ar av crn 2 prs lr lf lv vt (fun q => pr (b + q)) (fun q => pv (b + q)) ∧ pg_ms g' (k + 1) 5 (nI p) cfg crn mv 0) := by
  have h0 := h
  obtain ⟨c, rc, h1, h2, h3, h4, h5, h6, h7, h8, h9, h10, h11, h12, h13, h14, h15⟩ := h
  obtain ⟨b1, b2, b3⟩ := h13.2 rfl
  rw [h4] at hn
  obtain ⟨C1, C2⟩ := pg_choose (b := b) (pr := pr) (pv := pv) b1 (by omega) b3 hn
  rw [← h4] at C1 C2
  refine ⟨fun q0 e => ?_, fun e hmv => ?_⟩
  · obtain ⟨a1, a2, a3, a4⟩ := C1 q0 e
    have hv : ∃ q, q < 16 ∧ pg_V g c q = pv (b + q0) := by
      rcases a4 with ⟨r1, e1, e2⟩ | ⟨e1, e2⟩
      · obtain ⟨_, _, q, hq, eq⟩ := I.2.2.1 c r1 e2
        exact ⟨q, hq, eq.trans e1.symm⟩
      · exact ⟨q0, a1, e1.symm⟩
    have hv1 : ¬ pv (b + q0) = -1 := by
      rcases a4 with ⟨r1, e1, e2⟩ | ⟨e1, e2⟩
      · rw [e1]; exact e2
      · rw [e1]; exact e2
    exact po_prop I hp hk h0 h1 h2 h11 h12 a3 hv hv1
  · exact po_prop I hp hk h0 h1 h2 h11 h12 (C2 e mv) ⟨p, hp, h6.symm⟩ hmv
/-- an accepted of q, learned -/
theorem po_lrn (h : pg_p g k p cfg mem cut mv pm ar av crn ph prs lr lf lv vt prr prv) (hk : k ≤ 200) {r c0 q : Nat} {y : Int32} (hq : q < 16) (hr : 16 ≤ r) (hrk : r ≤ 16 * k + 15) (hc0 : cfg = nI c0) (hc0k : c0 ≤ k) (hy : y = pg_W g c0 r) (hw : ¬ pg_W g c0 r = -1) (hA : pg_A g c0 q r = true) {lr' lf' lv' : Int32}
    (hc : (lr = nI r ∧ lr' = lr ∧ lv' = lv ∧ ∀ j, j < 16 → bt lf' j = true → j = q ∨ bt lf j = true) ∨ (lr' = nI r ∧ lv' = y ∧ ∀ j, j < 16 → bt lf' j = true → j = q)) :
    pg_p g k p cfg mem cut mv pm ar av crn ph prs lr' lf' lv' vt prr prv ∧ (cd_cq (cd_ct mem) ≤ cd_ct lf' → pg_dec g c0 lv') := by
  obtain ⟨c, rc, h1, h2, h3, h4, h5, h6, h7, h8, h9, h10, h11, h12, h13, h14, h15⟩ := h
  have e : c0 = c := (nI_eq (by omega) (by omega)).mp (hc0.symm.trans h1)
  subst e
  have key : lr' = nI r ∧ lv' = pg_W g c0 r ∧ ∀ j, j < 16 → bt lf' j = true → pg_A g c0 j r = true := by
    rcases hc with ⟨a1, a2, a3, a4⟩ | ⟨a1, a2, a3⟩
    · obtain ⟨rl, b1, b2, b3⟩ := h14
      have e : r = rl := (nI_eq (by omega) (by omega)).mp (a1.symm.trans b2)
      subst e
      rcases b3 with ⟨b, _⟩ | ⟨b4, b5, b6⟩
      · omega
      · refine ⟨a2.trans a1, a3.trans b4, fun j hj hb => ?_⟩
        rcases a4 j hj hb with e | e
        · rw [e]; exact hA
        · exact b6 j hj e
    · exact ⟨a1, a2.trans hy, fun j hj hb => by rw [a3 j hj hb]; exact hA⟩
  obtain ⟨k1, k2, k3⟩ := key
  refine ⟨⟨c0, rc, h1, h2, h3, h4, h5, h6, h7, h8, h9, h10, h11, h12, h13, ⟨r, hrk, k1, Or.inr ⟨k2, hw, k3⟩⟩, h15⟩, fun hn => ?_⟩
  rw [h4] at hn
  refine ⟨by rw [k2]; exact hw, Or.inr ⟨r, k2.symm, Nat.le_trans (pg_cq_le hn) (pg_ct_mono 16 (fun i hi e => k3 i hi e))⟩⟩
end OWN2
end PG6
end
section
section PG7
variable {f_rings f_high f_low : Int32} {a_crashed a_config a_members a_newestCut a_reports a_votes a_myVote a_promised a_acceptedRound a_acceptedValue a_ownRound a_phase a_promisers a_promiserRound a_promiserValue a_learnedRound a_learnedFrom a_learnedValue a_slots : Nat → Int32}
theorem cd_put2 {s : Nat → Int32} {b : Nat} {kind p c x y z d : Int32} : cd_put s b kind p c x y z d (b + 2) = c := by
  unfold cd_put
  rw [pk_un (by omega), pk_un (by omega), pk_un (by omega), pk_un (by omega), pk_us]
theorem cd_put4 {s : Nat → Int32} {b : Nat} {kind p c x y z d : Int32} : cd_put s b kind p c x y z d (b + 4) = y := by
  unfold cd_put
  rw [pk_un (by omega), pk_un (by omega), pk_us]
theorem cd_put5 {s : Nat → Int32} {b : Nat} {kind p c x y z d : Int32} : cd_put s b kind p c x y z d (b + 5) = z := by
  unfold cd_put
  rw [pk_un (by omega), pk_us]
/-! the slots -/
def pg_sl (g : pg_G) (k : Nat) (s : Nat → Int32) : Prop := ∀ i, i < 32 → ¬ s (i * 7 + 6) = 0 → pg_ms g k (s (i * 7)) (s (i * 7 + 1)) (s (i * 7 + 2)) (s (i * 7 + 3)) (s (i * 7 + 4)) (s (i * 7 + 5))
theorem pg_sl_up {g g' : pg_G} (L : pg_le g g') {k k' : Nat} (hk : k ≤ k') {s : Nat → Int32} (h : pg_sl g k s) : pg_sl g' k' s := fun i hi n => pg_ms_up L hk (h i hi n)
theorem pg_sl_send {g : pg_G} {k : Nat} {s : Nat → Int32} (h : pg_sl g k s) {kind p c x y z d : Int32} (m : pg_ms g k kind p c x y z) : pg_sl g k (cd_sd s p c kind x y z d) := by
  unfold cd_sd
  by_cases hd : d &&& 65535 = 0
  · rw [if_pos hd]; exact h
  · rw [if_neg hd]
    cases e : cd_fr s 32 0 with
    | none => exact h
    | some i =>
      dsimp only
      intro j hj n
      by_cases hji : j = i
      · subst hji
        rw [cd_put0, cd_put1, cd_put2, cd_put3, cd_put4, cd_put5]
        exact m
      · have o : ∀ f, f < 7 → cd_put s (i * 7) kind p c x y z (d &&& 65535) (j * 7 + f) = s (j * 7 + f) := fun f hf => cd_putO (by omega)
        have o0 : cd_put s (i * 7) kind p c x y z (d &&& 65535) (j * 7) = s (j * 7) := cd_putO (by omega)
        rw [o 6 (by omega)] at n
        rw [o0, o 1 (by omega), o 2 (by omega), o 3 (by omega), o 4 (by omega), o 5 (by omega)]
        exact h j hj n
theorem pg_sl_off {g : pg_G} {k : Nat} {s : Nat → Int32} (h : pg_sl g k s) {i p : Nat} : pg_sl g k (cd_off s i p) := by
  intro j hj n
  unfold cd_off at n ⊢
  by_cases z : s (i * 7 + 6) &&& cd_not p = 0
  · rw [if_pos z] at n ⊢
    by_cases hji : j = i
    · subst hji
      exact absurd (cd_fillI (by omega) (by omega)) n
    · have o : ∀ f, f < 7 → cd_fill (upd s (i * 7 + 6) (s (i * 7 + 6) &&& cd_not p)) (i * 7) 0 7 (j * 7 + f) = s (j * 7 + f) := fun f hf => by rw [cd_fillO (by omega), pk_un (by omega)]
      have o0 : cd_fill (upd s (i * 7 + 6) (s (i * 7 + 6) &&& cd_not p)) (i * 7) 0 7 (j * 7) = s (j * 7) := o 0 (by omega)
      rw [o 6 (by omega)] at n
      rw [o0, o 1 (by omega), o 2 (by omega), o 3 (by omega), o 4 (by omega), o 5 (by omega)]
      exact h j hj n
  · rw [if_neg z] at n ⊢
    have n0 : ¬ s (j * 7 + 6) = 0 := by
      by_cases hji : j = i
      · subst hji
        intro e
        rw [e] at z
        exact z Int32.zero_and
      · rw [pk_un (by omega)] at n; exact n
    rw [pk_un (by omega), pk_un (by omega), pk_un (by omega), pk_un (by omega), pk_un (by omega), pk_un (by omega)]
    exact h j hj n0
/-! a process of a state -/
def pg_at (g : pg_G) (k : Nat) (u : St2) (p : Nat) : Prop := match u with
  | (f_rings, f_high, f_low, a_crashed, a_config, a_members, a_newestCut, a_reports, a_votes, a_myVote, a_promised, a_acceptedRound, a_acceptedValue, a_ownRound, a_phase, a_promisers, a_promiserRound, a_promiserValue, a_learnedRound, a_learnedFrom, a_learnedValue, a_slots) => pg_p g k p (a_config p) (a_members p) (a_newestCut p) (a_myVote p) (a_promised p) (a_acceptedRound p) (a_acceptedValue p) (a_ownRound p) (a_phase p) (a_promisers p) (a_learnedRound p) (a_learnedFrom p) (a_learnedValue p) (fun q => a_votes (p * 16 + q)) (fun q => a_promiserRound (p * 16 + q)) (fun q => a_promiserValue (p * 16 + q))
def pg_eq (u u' : St2) (p : Nat) : Prop := match u with
  | (f_rings, f_high, f_low, a_crashed, a_config, a_members, a_newestCut, a_reports, a_votes, a_myVote, a_promised, a_acceptedRound, a_acceptedValue, a_ownRound, a_phase, a_promisers, a_promiserRound, a_promiserValue, a_learnedRound, a_learnedFrom, a_learnedValue, a_slots) => match u' with
    | (f_rings2, f_high2, f_low2, a_crashed2, a_config2, a_members2, a_newestCut2, a_reports2, a_votes2, a_myVote2, a_promised2, a_acceptedRound2, a_acceptedValue2, a_ownRound2, a_phase2, a_promisers2, a_promiserRound2, a_promiserValue2, a_learnedRound2, a_learnedFrom2, a_learnedValue2, a_slots2) => a_config2 p = a_config p ∧ a_members2 p = a_members p ∧ a_newestCut2 p = a_newestCut p ∧ a_myVote2 p = a_myVote p ∧ a_promised2 p = a_promised p ∧ a_acceptedRound2 p = a_acceptedRound p ∧ a_acceptedValue2 p = a_acceptedValue p ∧ a_ownRound2 p = a_ownRound p ∧ a_phase2 p = a_phase p ∧ a_promisers2 p = a_promisers p ∧ a_learnedRound2 p = a_learnedRound p ∧ a_learnedFrom2 p = a_learnedFrom p ∧ a_learnedValue2 p = a_learnedValue p ∧ (∀ j, j < 16 → a_votes2 (p * 16 + j) = a_votes (p * 16 + j)) ∧ (∀ j, j < 16 → a_promiserRound2 (p * 16 + j) = a_promiserRound (p * 16 + j)) ∧ (∀ j, j < 16 → a_promiserValue2 (p * 16 + j) = a_promiserValue (p * 16 + j))
theorem pg_p_cg {g : pg_G} {k p : Nat} {cfg mem cut mv pm ar av crn ph prs lr lf lv : Int32} {vt prr prv vt' prr' prv' : Nat → Int32} (h1 : ∀ j, j < 16 → vt' j = vt j) (h2 : ∀ j, j < 16 → prr' j = prr j) (h3 : ∀ j, j < 16 → prv' j = prv j) (h : pg_p g k p cfg mem cut mv pm ar av crn ph prs lr lf lv vt prr prv) : pg_p g k p cfg mem cut mv pm ar av crn ph prs lr lf lv vt' prr' prv' := by
  obtain ⟨c, rc, a1, a2, a3, a4, a5, a6, a7, a8, a9, a10, a11, a12, a13, a14, a15⟩ := h
  refine ⟨c, rc, a1, a2, a3, a4, a5, a6, a7, a8, a9, fun j hj n => ?_, a11, a12, ⟨a13.1, fun e => ?_⟩, a14, a15⟩
  · rw [h1 j hj] at n ⊢
    exact a10 j hj n
  · obtain ⟨b1, b2, b3⟩ := a13.2 e
    refine ⟨b1, b2, fun j hj hb => ?_⟩
    rw [h2 j hj, h3 j hj]
    exact b3 j hj hb
theorem pg_at_eq {g : pg_G} {k p : Nat} {u u' : St2} (E : pg_eq u u' p) (h : pg_at g k u p) : pg_at g k u' p := by
  obtain ⟨f_rings, f_high, f_low, a_crashed, a_config, a_members, a_newestCut, a_reports, a_votes, a_myVote, a_promised, a_acceptedRound, a_acceptedValue, a_ownRound, a_phase, a_promisers, a_promiserRound, a_promiserValue, a_learnedRound, a_learnedFrom, a_learnedValue, a_slots⟩ := u
  obtain ⟨f_rings2, f_high2, f_low2, a_crashed2, a_config2, a_members2, a_newestCut2, a_reports2, a_votes2, a_myVote2, a_promised2, a_acceptedRound2, a_acceptedValue2, a_ownRound2, a_phase2, a_promisers2, a_promiserRound2, a_promiserValue2, a_learnedRound2, a_learnedFrom2, a_learnedValue2, a_slots2⟩ := u'
  obtain ⟨e1, e2, e3, e4, e5, e6, e7, e8, e9, e10, e11, e12, e13, e14, e15, e16⟩ := E
  show pg_p g k p (a_config2 p) (a_members2 p) (a_newestCut2 p) (a_myVote2 p) (a_promised2 p) (a_acceptedRound2 p) (a_acceptedValue2 p) (a_ownRound2 p) (a_phase2 p) (a_promisers2 p) (a_learnedRound2 p) (a_learnedFrom2 p) (a_learnedValue2 p) (fun q => a_votes2 (p * 16 + q)) (fun q => a_promiserRound2 (p * 16 + q)) (fun q => a_promiserValue2 (p * 16 + q))
  rw [e1, e2, e3, e4, e5, e6, e7, e8, e9, e10, e11, e12, e13]
  exact pg_p_cg e14 e15 e16 h
def pg_ot (p : Nat) (u u' : St2) : Prop := ∀ q, q < 16 → ¬ q = p → pg_eq u u' q
theorem pg_ot_send {p : Nat} {u v : St2} (h : pg_ot p u v) {a : Nat} {kind x y z d : Int32} : pg_ot p u (cx_send v a kind x y z d) := by
  obtain ⟨f_rings, f_high, f_low, a_crashed, a_config, a_members, a_newestCut, a_reports, a_votes, a_myVote, a_promised, a_acceptedRound, a_acceptedValue, a_ownRound, a_phase, a_promisers, a_promiserRound, a_promiserValue, a_learnedRound, a_learnedFrom, a_learnedValue, a_slots⟩ := u
  obtain ⟨f_rings2, f_high2, f_low2, a_crashed2, a_config2, a_members2, a_newestCut2, a_reports2, a_votes2, a_myVote2, a_promised2, a_acceptedRound2, a_acceptedValue2, a_ownRound2, a_phase2, a_promisers2, a_promiserRound2, a_promiserValue2, a_learnedRound2, a_learnedFrom2, a_learnedValue2, a_slots2⟩ := v
  intro q hq hne
  obtain ⟨e1, e2, e3, e4, e5, e6, e7, e8, e9, e10, e11, e12, e13, e14, e15, e16⟩ := h q hq hne
  exact ⟨e1, e2, e3, e4, e5, e6, e7, e8, e9, e10, e11, e12, e13, e14, e15, e16⟩
theorem pg_ot_inst {p : Nat} {u v : St2} (h : pg_ot p u v) {n s c : Int32} : pg_ot p u (cx_inst v p n s c) := by
  obtain ⟨f_rings, f_high, f_low, a_crashed, a_config, a_members, a_newestCut, a_reports, a_votes, a_myVote, a_promised, a_acceptedRound, a_acceptedValue, a_ownRound, a_phase, a_promisers, a_promiserRound, a_promiserValue, a_learnedRound, a_learnedFrom, a_learnedValue, a_slots⟩ := u
  obtain ⟨f_rings2, f_high2, f_low2, a_crashed2, a_config2, a_members2, a_newestCut2, a_reports2, a_votes2, a_myVote2, a_promised2, a_acceptedRound2, a_acceptedValue2, a_ownRound2, a_phase2, a_promisers2, a_promiserRound2, a_promiserValue2, a_learnedRound2, a_learnedFrom2, a_learnedValue2, a_slots2⟩ := v
  intro q hq hne
  obtain ⟨e1, e2, e3, e4, e5, e6, e7, e8, e9, e10, e11, e12, e13, e14, e15, e16⟩ := h q hq hne
  exact ⟨(pk_un hne).trans e1, (pk_un hne).trans e2, (pk_un hne).trans e3, (pk_un hne).trans e4, (pk_un hne).trans e5, (pk_un hne).trans e6, (pk_un hne).trans e7, (pk_un hne).trans e8, (pk_un hne).trans e9, (pk_un hne).trans e10, (pk_un hne).trans e11, (pk_un hne).trans e12, (pk_un hne).trans e13, fun j hj => (cd_fillO (by omega)).trans (e14 j hj), e15, e16⟩
theorem pg_ot_rf (p : Nat) (u : St2) : pg_ot p u u := by
  obtain ⟨f_rings, f_high, f_low, a_crashed, a_config, a_members, a_newestCut, a_reports, a_votes, a_myVote, a_promised, a_acceptedRound, a_acceptedValue, a_ownRound, a_phase, a_promisers, a_promiserRound, a_promiserValue, a_learnedRound, a_learnedFrom, a_learnedValue, a_slots⟩ := u
  exact fun q _ _ => ⟨rfl, rfl, rfl, rfl, rfl, rfl, rfl, rfl, rfl, rfl, rfl, rfl, rfl, fun _ _ => rfl, fun _ _ => rfl, fun _ _ => rfl⟩
def pg_st (g : pg_G) (k : Nat) (u : St2) : Prop := match u with
  | (f_rings, f_high, f_low, a_crashed, a_config, a_members, a_newestCut, a_reports, a_votes, a_myVote, a_promised, a_acceptedRound, a_acceptedValue, a_ownRound, a_phase, a_promisers, a_promiserRound, a_promiserValue, a_learnedRound, a_learnedFrom, a_learnedValue, a_slots) => pg_I g ∧ (∀ p, p < 16 → pg_at g k (f_rings, f_high, f_low, a_crashed, a_config, a_members, a_newestCut, a_reports, a_votes, a_myVote, a_promised, a_acceptedRound, a_acceptedValue, a_ownRound, a_phase, a_promisers, a_promiserRound, a_promiserValue, a_learnedRound, a_learnedFrom, a_learnedValue, a_slots) p) ∧ pg_sl g k a_slots
/-- what a call of process p leaves -/
def pg_res (g : pg_G) (k p : Nat) (u u' : St2) : Prop := match u with
  | (f_rings, f_high, f_low, a_crashed, a_config, a_members, a_newestCut, a_reports, a_votes, a_myVote, a_promised, a_acceptedRound, a_acceptedValue, a_ownRound, a_phase, a_promisers, a_promiserRound, a_promiserValue, a_learnedRound, a_learnedFrom, a_learnedValue, a_slots) => match u' with
    | (f_rings2, f_high2, f_low2, a_crashed2, a_config2, a_members2, a_newestCut2, a_reports2, a_votes2, a_myVote2, a_promised2, a_acceptedRound2, a_acceptedValue2, a_ownRound2, a_phase2, a_promisers2, a_promiserRound2, a_promiserValue2, a_learnedRound2, a_learnedFrom2, a_learnedValue2, a_slots2) => f_rings2 = f_rings ∧ f_high2 = f_high ∧ f_low2 = f_low ∧ pg_ot p (f_rings, f_high, f_low, a_crashed, a_config, a_members, a_newestCut, a_reports, a_votes, a_myVote, a_promised, a_acceptedRound, a_acceptedValue, a_ownRound, a_phase, a_promisers, a_promiserRound, a_promiserValue, a_learnedRound, a_learnedFrom, a_learnedValue, a_slots) (f_rings2, f_high2, f_low2, a_crashed2, a_config2, a_members2, a_newestCut2, a_reports2, a_votes2, a_myVote2, a_promised2, a_acceptedRound2, a_acceptedValue2, a_ownRound2, a_phase2, a_promisers2, a_promiserRound2, a_promiserValue2, a_learnedRound2, a_learnedFrom2, a_learnedValue2, a_slots2) ∧ (a_myVote p = -1 → ¬ a_myVote2 p = -1 → cd_st a_reports2 (p * 16) f_high f_low 16 = some (a_myVote2 p)) ∧
      ∃ g', pg_I g' ∧ pg_le g g' ∧ pg_own p g g' ∧ pg_e1 g g' ∧ pg_e2 g g' p (a_config2 p) (a_myVote2 p) ∧ pg_at g' (k + 1) (f_rings2, f_high2, f_low2, a_crashed2, a_config2, a_members2, a_newestCut2, a_reports2, a_votes2, a_myVote2, a_promised2, a_acceptedRound2, a_acceptedValue2, a_ownRound2, a_phase2, a_promisers2, a_promiserRound2, a_promiserValue2, a_learnedRound2, a_learnedFrom2, a_learnedValue2, a_slots2) p ∧ pg_sl g' (k + 1) a_slots2
theorem cd_st_b {rep : Nat → Int32} {b : Nat} {h l : Int32} : ∀ s, s ≤ 16 → ∀ m, cd_st rep b h l s = some m → ∀ i, i < 32 → bt m i = true → i < s := by
  intro s
  induction s with
  | zero =>
    intro _ m e i hi hb
    cases e
    rw [b_0] at hb
    exact absurd hb (by decide)
  | succ s ih =>
    intro hs m e i hi hb
    have step : cd_st rep b h l (s + 1) = (match cd_st rep b h l s with
        | none => none
        | some m => if h ≤ cd_ct (rep (b + s)) then some (m ||| (1 <<< (nI s &&& 31))) else if l ≤ cd_ct (rep (b + s)) then none else some m) := rfl
    rw [step] at e
    cases e0 : cd_st rep b h l s with
    | none => rw [e0] at e; exact absurd e (by simp)
    | some m0 =>
      rw [e0] at e
      dsimp only at e
      have ih := ih (by omega) m0 e0 i hi
      by_cases c1 : h ≤ cd_ct (rep (b + s))
      · rw [if_pos c1] at e
        cases e
        rw [b_or, cd_shl1 s (by omega) hi, Bool.or_eq_true_iff, decide_eq_true_iff] at hb
        rcases hb with a | a
        · have := ih a; omega
        · omega
      · rw [if_neg c1] at e
        by_cases c2 : l ≤ cd_ct (rep (b + s))
        · rw [if_pos c2] at e; exact absurd e (by simp)
        · rw [if_neg c2] at e
          cases e
          have := ih hb; omega
theorem cd_st_16 {rep : Nat → Int32} {b : Nat} {h l m : Int32} (e : cd_st rep b h l 16 = some m) : m &&& 65535 = m := by
  apply b_ext
  intro i hi
  rw [b_and, b_65535]
  cases hb : bt m i
  · rfl
  · rw [decide_eq_true (cd_st_b 16 (by omega) m e i hi hb)]; rfl
end PG7
end
section
section PG8
variable {f_rings f_high f_low : Int32} {a_crashed a_config a_members a_newestCut a_reports a_votes a_myVote a_promised a_acceptedRound a_acceptedValue a_ownRound a_phase a_promisers a_promiserRound a_promiserValue a_learnedRound a_learnedFrom a_learnedValue a_slots : Nat → Int32}
variable {g : pg_G} {k p : Nat}
/-- nothing of the process's own history has changed -/
theorem pr_same (I : pg_I g) (hp : p < 16) (A : pg_at g k (f_rings, f_high, f_low, a_crashed, a_config, a_members, a_newestCut, a_reports, a_votes, a_myVote, a_promised, a_acceptedRound, a_acceptedValue, a_ownRound, a_phase, a_promisers, a_promiserRound, a_promiserValue, a_learnedRound, a_learnedFrom, a_learnedValue, a_slots) p) (S : pg_sl g k a_slots) : pg_res g k p (f_rings, f_high, f_low, a_crashed, a_config, a_members, a_newestCut, a_reports, a_votes, a_myVote, a_promised, a_acceptedRound, a_acceptedValue, a_ownRound, a_phase, a_promisers, a_promiserRound, a_promiserValue, a_learnedRound, a_learnedFrom, a_learnedValue, a_slots) (f_rings, f_high, f_low, a_crashed, a_config, a_members, a_newestCut, a_reports, a_votes, a_myVote, a_promised, a_acceptedRound, a_acceptedValue, a_ownRound, a_phase, a_promisers, a_promiserRound, a_promiserValue, a_learnedRound, a_learnedFrom, a_learnedValue, a_slots) :=
  ⟨rfl, rfl, rfl, pg_ot_rf p _, fun a b => absurd a b, g, I, pg_le_rf g, pg_own_rf p g, pg_e1_rf I rfl rfl rfl, pg_e2_rf rfl (Or.inl rfl), po_id I hp A, pg_sl_up (pg_le_rf g) (Nat.le_succ k) S⟩
theorem pr_pis (I : pg_I g) (hp : p < 16) (hk : k ≤ 200) (A : pg_at g k (f_rings, f_high, f_low, a_crashed, a_config, a_members, a_newestCut, a_reports, a_votes, a_myVote, a_promised, a_acceptedRound, a_acceptedValue, a_ownRound, a_phase, a_promisers, a_promiserRound, a_promiserValue, a_learnedRound, a_learnedFrom, a_learnedValue, a_slots) p) (S : pg_sl g k a_slots) (hm : bt (a_members p) p = true) (h1 : a_myVote p = -1) (h2 : a_promised p = 0) : pg_res g k p (f_rings, f_high, f_low, a_crashed, a_config, a_members, a_newestCut, a_reports, a_votes, a_myVote, a_promised, a_acceptedRound, a_acceptedValue, a_ownRound, a_phase, a_promisers, a_promiserRound, a_promiserValue, a_learnedRound, a_learnedFrom, a_learnedValue, a_slots) (cx_pis (f_rings, f_high, f_low, a_crashed, a_config, a_members, a_newestCut, a_reports, a_votes, a_myVote, a_promised, a_acceptedRound, a_acceptedValue, a_ownRound, a_phase, a_promisers, a_promiserRound, a_promiserValue, a_learnedRound, a_learnedFrom, a_learnedValue, a_slots) p) := by
  unfold cx_pis
  dsimp only
  cases e : cd_st a_reports (p * 16) f_high f_low 16 with
  | none => exact pr_same I hp A S
  | some m =>
    dsimp only
    by_cases z : m = 0
    · rw [if_pos z]; exact pr_same I hp A S
    · rw [if_neg z]
      obtain ⟨g', I', L, O, E1, E2, P, M⟩ := po_vote I hp hk A h1 h2 hm z (cd_st_16 e)
      refine ⟨rfl, rfl, rfl, fun q hq hne => ⟨rfl, rfl, rfl, pk_un hne, rfl, pk_un hne, pk_un hne, rfl, rfl, rfl, rfl, rfl, rfl, fun _ _ => rfl, fun _ _ => rfl, fun _ _ => rfl⟩, fun _ _ => ?_, g', I', L, O, E1, ?_, ?_, pg_sl_send (pg_sl_up L (Nat.le_succ k) S) M⟩
      · rw [pk_us]; exact e
      · rw [pk_us]; exact E2
      · unfold pg_at
        dsimp only
        rw [pk_us, pk_us, pk_us]; exact P
theorem pr_alert (I : pg_I g) (hp : p < 16) (hk : k ≤ 200) (A : pg_at g k (f_rings, f_high, f_low, a_crashed, a_config, a_members, a_newestCut, a_reports, a_votes, a_myVote, a_promised, a_acceptedRound, a_acceptedValue, a_ownRound, a_phase, a_promisers, a_promiserRound, a_promiserValue, a_learnedRound, a_learnedFrom, a_learnedValue, a_slots) p) (S : pg_sl g k a_slots) (hm : bt (a_members p) p = true) {s : Nat} {y : Int32} : pg_res g k p (f_rings, f_high, f_low, a_crashed, a_config, a_members, a_newestCut, a_reports, a_votes, a_myVote, a_promised, a_acceptedRound, a_acceptedValue, a_ownRound, a_phase, a_promisers, a_promiserRound, a_promiserValue, a_learnedRound, a_learnedFrom, a_learnedValue, a_slots) (cx_alert (f_rings, f_high, f_low, a_crashed, a_config, a_members, a_newestCut, a_reports, a_votes, a_myVote, a_promised, a_acceptedRound, a_acceptedValue, a_ownRound, a_phase, a_promisers, a_promiserRound, a_promiserValue, a_learnedRound, a_learnedFrom, a_learnedValue, a_slots) p s y) := by
  unfold cx_alert
  dsimp only
  by_cases c : a_myVote p = -1 ∧ a_promised p = 0
  · rw [if_pos c]
    exact pr_pis (a_reports := upd a_reports (p * 16 + s) (a_reports (p * 16 + s) ||| y)) I hp hk A S hm c.1 c.2
  · rw [if_neg c]
    exact pr_same (a_reports := upd a_reports (p * 16 + s) (a_reports (p * 16 + s) ||| y)) I hp A S
theorem pr_dec (I : pg_I g) (hp : p < 16) (hk : k ≤ 200) {u : St2} {a_votes' a_learnedFrom' a_learnedRound' a_learnedValue' : Nat → Int32} (A : pg_at g k (f_rings, f_high, f_low, a_crashed, a_config, a_members, a_newestCut, a_reports, a_votes, a_myVote, a_promised, a_acceptedRound, a_acceptedValue, a_ownRound, a_phase, a_promisers, a_promiserRound, a_promiserValue, a_learnedRound, a_learnedFrom, a_learnedValue, a_slots) p) (S : pg_sl g k a_slots) (ot : pg_ot p u (f_rings, f_high, f_low, a_crashed, a_config, a_members, a_newestCut, a_reports, a_votes, a_myVote, a_promised, a_acceptedRound, a_acceptedValue, a_ownRound, a_phase, a_promisers, a_promiserRound, a_promiserValue, a_learnedRound, a_learnedFrom, a_learnedValue, a_slots)) {x : Int32} {c0 : Nat} (hc0 : a_config p = nI c0) (hc0k : c0 ≤ k) (hd : pg_dec g c0 x) :
    pg_ot p u (cx_dec (f_rings, f_high, f_low, a_crashed, a_config, a_members, a_newestCut, a_reports, a_votes, a_myVote, a_promised, a_acceptedRound, a_acceptedValue, a_ownRound, a_phase, a_promisers, a_promiserRound, a_promiserValue, a_learnedRound, a_learnedFrom, a_learnedValue, a_slots) p x) ∧ ∃ g', pg_I g' ∧ pg_le g g' ∧ pg_own p g g' ∧ pg_e1 g g' ∧ pg_e2 g g' p (a_config p + 1) (-1) ∧ pg_at g' (k + 1) (cx_dec (f_rings, f_high, f_low, a_crashed, a_config, a_members, a_newestCut, a_reports, a_votes, a_myVote, a_promised, a_acceptedRound, a_acceptedValue, a_ownRound, a_phase, a_promisers, a_promiserRound, a_promiserValue, a_learnedRound, a_learnedFrom, a_learnedValue, a_slots) p x) p ∧ pg_sl g' (k + 1) (cd_sd a_slots (nI p) (upd a_config p (a_config p + 1) p) 7 (a_members p ^^^ x) x 0 (x &&& cd_not p)) := by
  refine ⟨pg_ot_send (pg_ot_inst ot), ?_⟩
  obtain ⟨g', I', L, O, E1, E2, P, M⟩ := po_dec I hp hk A hc0 hc0k hd (vt' := fun q => cd_fill a_votes (p * 16) (-1) 16 (p * 16 + q)) (fun j hj => cd_fillI (by omega) (by omega)) (prr' := fun q => a_promiserRound (p * 16 + q)) (prv' := fun q => a_promiserValue (p * 16 + q))
  refine ⟨g', I', L, O, E1, E2, ?_, ?_⟩
  · unfold pg_at cx_dec cx_send cx_inst
    dsimp only
    simp only [pk_us]
    exact P
  · rw [pk_us]
    exact pg_sl_send (pg_sl_up L (Nat.le_succ k) S) M
theorem pr_vote (I : pg_I g) (hp : p < 16) (hk : k ≤ 200) (A : pg_at g k (f_rings, f_high, f_low, a_crashed, a_config, a_members, a_newestCut, a_reports, a_votes, a_myVote, a_promised, a_acceptedRound, a_acceptedValue, a_ownRound, a_phase, a_promisers, a_promiserRound, a_promiserValue, a_learnedRound, a_learnedFrom, a_learnedValue, a_slots) p) (S : pg_sl g k a_slots) {q c0 : Nat} {x : Int32} (hq : q < 16) (hc0 : a_config p = nI c0) (hc0k : c0 ≤ k) (hx : x = pg_V g c0 q) (hx1 : ¬ pg_V g c0 q = -1) : pg_res g k p (f_rings, f_high, f_low, a_crashed, a_config, a_members, a_newestCut, a_reports, a_votes, a_myVote, a_promised, a_acceptedRound, a_acceptedValue, a_ownRound, a_phase, a_promisers, a_promiserRound, a_promiserValue, a_learnedRound, a_learnedFrom, a_learnedValue, a_slots) (cx_vote (f_rings, f_high, f_low, a_crashed, a_config, a_members, a_newestCut, a_reports, a_votes, a_myVote, a_promised, a_acceptedRound, a_acceptedValue, a_ownRound, a_phase, a_promisers, a_promiserRound, a_promiserValue, a_learnedRound, a_learnedFrom, a_learnedValue, a_slots) p q x) := by
  unfold cx_vote
  dsimp only
  by_cases c : a_votes (p * 16 + q) = -1
  rotate_left
  · rw [if_neg c]; exact pr_same I hp A S
  rw [if_pos c]
  have ot : pg_ot p (f_rings, f_high, f_low, a_crashed, a_config, a_members, a_newestCut, a_reports, a_votes, a_myVote, a_promised, a_acceptedRound, a_acceptedValue, a_ownRound, a_phase, a_promisers, a_promiserRound, a_promiserValue, a_learnedRound, a_learnedFrom, a_learnedValue, a_slots) (f_rings, f_high, f_low, a_crashed, a_config, a_members, a_newestCut, a_reports, upd a_votes (p * 16 + q) x, a_myVote, a_promised, a_acceptedRound, a_acceptedValue, a_ownRound, a_phase, a_promisers, a_promiserRound, a_promiserValue, a_learnedRound, a_learnedFrom, a_learnedValue, a_slots) := fun j hj hne => ⟨rfl, rfl, rfl, rfl, rfl, rfl, rfl, rfl, rfl, rfl, rfl, rfl, rfl, fun i hi => pk_un (by omega), fun _ _ => rfl, fun _ _ => rfl⟩
  have A' : pg_at g k (f_rings, f_high, f_low, a_crashed, a_config, a_members, a_newestCut, a_reports, upd a_votes (p * 16 + q) x, a_myVote, a_promised, a_acceptedRound, a_acceptedValue, a_ownRound, a_phase, a_promisers, a_promiserRound, a_promiserValue, a_learnedRound, a_learnedFrom, a_learnedValue, a_slots) p := po_note I hp hk A hq hc0 hc0k hx (fun j hj => by
    by_cases e : j = q
    · subst e; rw [pk_us, if_pos rfl]
    · rw [pk_un (by omega), if_neg e])
  by_cases d : cd_fq (cd_ct (a_members p)) ≤ nI (cd_sm (upd a_votes (p * 16 + q) x) (p * 16) x 16)
  · rw [if_pos d]
    rw [pg_sm_ct] at d
    have hd : pg_dec g c0 x := po_fast A' hk hq hc0 hc0k (by rw [hx]; exact hx1) pk_us d
    obtain ⟨o, g', I', L, O, E1, E2, P, SL⟩ := pr_dec (u := (f_rings, f_high, f_low, a_crashed, a_config, a_members, a_newestCut, a_reports, a_votes, a_myVote, a_promised, a_acceptedRound, a_acceptedValue, a_ownRound, a_phase, a_promisers, a_promiserRound, a_promiserValue, a_learnedRound, a_learnedFrom, a_learnedValue, a_slots)) (a_votes' := a_votes) (a_learnedFrom' := a_votes) (a_learnedRound' := a_votes) (a_learnedValue' := a_votes) I hp hk A' S ot hc0 hc0k hd
    refine ⟨rfl, rfl, rfl, o, fun _ n => absurd pk_us n, g', I', L, O, E1, ?_, P, SL⟩
    rw [pk_us, pk_us]; exact E2
  · rw [if_neg d]
    exact ⟨rfl, rfl, rfl, ot, fun a b => absurd a b, g, I, pg_le_rf g, pg_own_rf p g, pg_e1_rf I rfl rfl rfl, pg_e2_rf rfl (Or.inl rfl), po_id I hp A', pg_sl_up (pg_le_rf g) (Nat.le_succ k) S⟩
theorem pr_prep (I : pg_I g) (hp : p < 16) (hk : k ≤ 200) (A : pg_at g k (f_rings, f_high, f_low, a_crashed, a_config, a_members, a_newestCut, a_reports, a_votes, a_myVote, a_promised, a_acceptedRound, a_acceptedValue, a_ownRound, a_phase, a_promisers, a_promiserRound, a_promiserValue, a_learnedRound, a_learnedFrom, a_learnedValue, a_slots) p) (S : pg_sl g k a_slots) (hm : bt (a_members p) p = true) {q r : Nat} (hr : 16 ≤ r) (hrk : r ≤ 16 * k + 15) : pg_res g k p (f_rings, f_high, f_low, a_crashed, a_config, a_members, a_newestCut, a_reports, a_votes, a_myVote, a_promised, a_acceptedRound, a_acceptedValue, a_ownRound, a_phase, a_promisers, a_promiserRound, a_promiserValue, a_learnedRound, a_learnedFrom, a_learnedValue, a_slots) (cx_prep (f_rings, f_high, f_low, a_crashed, a_config, a_members, a_newestCut, a_reports, a_votes, a_myVote, a_promised, a_acceptedRound, a_acceptedValue, a_ownRound, a_phase, a_promisers, a_promiserRound, a_promiserValue, a_learnedRound, a_learnedFrom, a_learnedValue, a_slots) p q (nI r)) := by
  unfold cx_prep
  dsimp only
  by_cases c : a_promised p < nI r
  rotate_left
  · rw [if_neg c]; exact pr_same I hp A S
  rw [if_pos c]
  obtain ⟨g', I', L, O, E1, E2, P, M⟩ := po_prep I hp hk A hm hr hrk c
  refine ⟨rfl, rfl, rfl, fun q hq hne => ⟨rfl, rfl, rfl, rfl, pk_un hne, rfl, rfl, rfl, rfl, rfl, rfl, rfl, rfl, fun _ _ => rfl, fun _ _ => rfl, fun _ _ => rfl⟩, fun a b => absurd a b, g', I', L, O, E1, E2, ?_, pg_sl_send (pg_sl_up L (Nat.le_succ k) S) M⟩
  unfold pg_at
  dsimp only
  rw [pk_us]; exact P
theorem pr_acc (I : pg_I g) (hp : p < 16) (hk : k ≤ 200) (A : pg_at g k (f_rings, f_high, f_low, a_crashed, a_config, a_members, a_newestCut, a_reports, a_votes, a_myVote, a_promised, a_acceptedRound, a_acceptedValue, a_ownRound, a_phase, a_promisers, a_promiserRound, a_promiserValue, a_learnedRound, a_learnedFrom, a_learnedValue, a_slots) p) (S : pg_sl g k a_slots) (hm : bt (a_members p) p = true) {r c0 : Nat} {y : Int32} (hr : 16 ≤ r) (hrk : r ≤ 16 * k + 15) (hc0 : a_config p = nI c0) (hc0k : c0 ≤ k) (hy : y = pg_W g c0 r) (hw : ¬ pg_W g c0 r = -1) : pg_res g k p (f_rings, f_high, f_low, a_crashed, a_config, a_members, a_newestCut, a_reports, a_votes, a_myVote, a_promised, a_acceptedRound, a_acceptedValue, a_ownRound, a_phase, a_promisers, a_promiserRound, a_promiserValue, a_learnedRound, a_learnedFrom, a_learnedValue, a_slots) (cx_acc (f_rings, f_high, f_low, a_crashed, a_config, a_members, a_newestCut, a_reports, a_votes, a_myVote, a_promised, a_acceptedRound, a_acceptedValue, a_ownRound, a_phase, a_promisers, a_promiserRound, a_promiserValue, a_learnedRound, a_learnedFrom, a_learnedValue, a_slots) p (nI r) y) := by
  unfold cx_acc
  dsimp only
  by_cases c : a_promised p ≤ nI r
  rotate_left
  · rw [if_neg c]; exact pr_same I hp A S
  rw [if_pos c]
  obtain ⟨g', I', L, O, E1, E2, P, M⟩ := po_acc I hp hk A hm hr hrk hc0 hc0k hy hw c
  refine ⟨rfl, rfl, rfl, fun q hq hne => ⟨rfl, rfl, rfl, rfl, pk_un hne, pk_un hne, pk_un hne, rfl, rfl, rfl, rfl, rfl, rfl, fun _ _ => rfl, fun _ _ => rfl, fun _ _ => rfl⟩, fun a b => absurd a b, g', I', L, O, E1, E2, ?_, pg_sl_send (pg_sl_up L (Nat.le_succ k) S) M⟩
  unfold pg_at
  dsimp only
  rw [pk_us, pk_us, pk_us]; exact P
theorem pr_prom (I : pg_I g) (hp : p < 16) (hk : k ≤ 200) (A : pg_at g k (f_rings, f_high, f_low, a_crashed, a_config, a_members, a_newestCut, a_reports, a_votes, a_myVote, a_promised, a_acceptedRound, a_acceptedValue, a_ownRound, a_phase, a_promisers, a_promiserRound, a_promiserValue, a_learnedRound, a_learnedFrom, a_learnedValue, a_slots) p) (S : pg_sl g k a_slots) {q r c0 : Nat} {y z : Int32} (hq : q < 16) (hrk : r ≤ 16 * k + 15) (hc0 : a_config p = nI c0) (hc0k : c0 ≤ k) (hok : pg_pok g c0 q r y z) : pg_res g k p (f_rings, f_high, f_low, a_crashed, a_config, a_members, a_newestCut, a_reports, a_votes, a_myVote, a_promised, a_acceptedRound, a_acceptedValue, a_ownRound, a_phase, a_promisers, a_promiserRound, a_promiserValue, a_learnedRound, a_learnedFrom, a_learnedValue, a_slots) (cx_prom (f_rings, f_high, f_low, a_crashed, a_config, a_members, a_newestCut, a_reports, a_votes, a_myVote, a_promised, a_acceptedRound, a_acceptedValue, a_ownRound, a_phase, a_promisers, a_promiserRound, a_promiserValue, a_learnedRound, a_learnedFrom, a_learnedValue, a_slots) p q (nI r) y z) := by
  unfold cx_prom
  dsimp only
  by_cases c : a_phase p = 1 ∧ nI r = a_ownRound p ∧ bt (a_promisers p) q = false
  rotate_left
  · rw [if_neg c]; exact pr_same I hp A S
  rw [if_pos c]
  have ot : pg_ot p (f_rings, f_high, f_low, a_crashed, a_config, a_members, a_newestCut, a_reports, a_votes, a_myVote, a_promised, a_acceptedRound, a_acceptedValue, a_ownRound, a_phase, a_promisers, a_promiserRound, a_promiserValue, a_learnedRound, a_learnedFrom, a_learnedValue, a_slots) (f_rings, f_high, f_low, a_crashed, a_config, a_members, a_newestCut, a_reports, a_votes, a_myVote, a_promised, a_acceptedRound, a_acceptedValue, a_ownRound, a_phase, upd a_promisers p (a_promisers p ||| (1 <<< (nI q &&& 31))), upd a_promiserRound (p * 16 + q) y, upd a_promiserValue (p * 16 + q) z, a_learnedRound, a_learnedFrom, a_learnedValue, a_slots) := fun j hj hne => ⟨rfl, rfl, rfl, rfl, rfl, rfl, rfl, rfl, rfl, pk_un hne, rfl, rfl, rfl, fun _ _ => rfl, fun i hi => pk_un (by omega), fun i hi => pk_un (by omega)⟩
  have A' := po_rec (prs' := a_promisers p ||| (1 <<< (nI q &&& 31))) (prr' := fun j => upd a_promiserRound (p * 16 + q) y (p * 16 + j)) (prv' := fun j => upd a_promiserValue (p * 16 + q) z (p * 16 + j)) A hk hq hrk hc0 hc0k c.2.1 hok
    (fun j hj hb => by
      rw [b_or, cd_shl1 q (by omega) (by omega), Bool.or_eq_true_iff, decide_eq_true_iff] at hb
      rcases hb with a | a
      · exact Or.inr a
      · exact Or.inl a)
    (fun j hj => by
      by_cases e : j = q
      · subst e; rw [pk_us, if_pos rfl]
      · rw [pk_un (by omega), if_neg e])
    (fun j hj => by
      by_cases e : j = q
      · subst e; rw [pk_us, if_pos rfl]
      · rw [pk_un (by omega), if_neg e])
  by_cases n : cd_ct (a_promisers p ||| (1 <<< (nI q &&& 31))) = cd_cq (cd_ct (a_members p))
  rotate_left
  · rw [if_neg n]
    refine ⟨rfl, rfl, rfl, ot, fun a b => absurd a b, g, I, pg_le_rf g, pg_own_rf p g, pg_e1_rf I rfl rfl rfl, pg_e2_rf rfl (Or.inl rfl), ?_, pg_sl_up (pg_le_rf g) (Nat.le_succ k) S⟩
    have := po_id I hp A'
    unfold pg_at
    dsimp only
    rw [pk_us]; exact this
  rw [if_pos n]
  rw [c.1] at A'
  obtain ⟨C1, C2⟩ := po_choose (b := p * 16) (pr := upd a_promiserRound (p * 16 + q) y) (pv := upd a_promiserValue (p * 16 + q) z) I hp hk A' n
  unfold cx_choose
  dsimp only
  rw [pk_us]
  cases e : cd_ch (a_promisers p ||| (1 <<< (nI q &&& 31))) (a_members p) (upd a_promiserRound (p * 16 + q) y) (upd a_promiserValue (p * 16 + q) z) (p * 16) with
  | some q0 =>
    dsimp only
    obtain ⟨g', I', L, O, E1, E2, P, M⟩ := C1 q0 e
    refine ⟨rfl, rfl, rfl, fun j hj hne => ⟨rfl, rfl, rfl, rfl, rfl, rfl, rfl, rfl, pk_un hne, pk_un hne, rfl, rfl, rfl, fun _ _ => rfl, fun i hi => pk_un (by omega), fun i hi => pk_un (by omega)⟩, fun a b => absurd a b, g', I', L, O, E1, E2, ?_, pg_sl_send (pg_sl_up L (Nat.le_succ k) S) M⟩
    unfold pg_at
    dsimp only
    rw [pk_us, pk_us]; exact P
  | none =>
    dsimp only
    by_cases mv : a_myVote p = -1
    · rw [if_pos mv]
      refine ⟨rfl, rfl, rfl, fun j hj hne => ⟨rfl, rfl, rfl, rfl, rfl, rfl, rfl, rfl, pk_un hne, pk_un hne, rfl, rfl, rfl, fun _ _ => rfl, fun i hi => pk_un (by omega), fun i hi => pk_un (by omega)⟩, fun a b => absurd a b, g, I, pg_le_rf g, pg_own_rf p g, pg_e1_rf I rfl rfl rfl, pg_e2_rf rfl (Or.inl rfl), ?_, pg_sl_up (pg_le_rf g) (Nat.le_succ k) S⟩
      have := po_idle hp I A'
      unfold pg_at
      dsimp only
      rw [pk_us, pk_us]; exact this
    · rw [if_neg mv]
      obtain ⟨g', I', L, O, E1, E2, P, M⟩ := C2 e mv
      refine ⟨rfl, rfl, rfl, fun j hj hne => ⟨rfl, rfl, rfl, rfl, rfl, rfl, rfl, rfl, pk_un hne, pk_un hne, rfl, rfl, rfl, fun _ _ => rfl, fun i hi => pk_un (by omega), fun i hi => pk_un (by omega)⟩, fun a b => absurd a b, g', I', L, O, E1, E2, ?_, pg_sl_send (pg_sl_up L (Nat.le_succ k) S) M⟩
      unfold pg_at
      dsimp only
      rw [pk_us, pk_us]; exact P
end PG8
end
section
section PG9
variable {f_rings f_high f_low : Int32} {a_crashed a_config a_members a_newestCut a_reports a_votes a_myVote a_promised a_acceptedRound a_acceptedValue a_ownRound a_phase a_promisers a_promiserRound a_promiserValue a_learnedRound a_learnedFrom a_learnedValue a_slots : Nat → Int32}
variable {g : pg_G} {k p : Nat}
theorem pg_ot_sl {s : Nat → Int32} : pg_ot p (f_rings, f_high, f_low, a_crashed, a_config, a_members, a_newestCut, a_reports, a_votes, a_myVote, a_promised, a_acceptedRound, a_acceptedValue, a_ownRound, a_phase, a_promisers, a_promiserRound, a_promiserValue, a_learnedRound, a_learnedFrom, a_learnedValue, a_slots) (f_rings, f_high, f_low, a_crashed, a_config, a_members, a_newestCut, a_reports, a_votes, a_myVote, a_promised, a_acceptedRound, a_acceptedValue, a_ownRound, a_phase, a_promisers, a_promiserRound, a_promiserValue, a_learnedRound, a_learnedFrom, a_learnedValue, s) := fun q _ _ => ⟨rfl, rfl, rfl, rfl, rfl, rfl, rfl, rfl, rfl, rfl, rfl, rfl, rfl, fun _ _ => rfl, fun _ _ => rfl, fun _ _ => rfl⟩
theorem pr_lrn (I : pg_I g) (hp : p < 16) (hk : k ≤ 200) {b1 b2 b3 : Nat → Int32} {q c0 : Nat} (A : pg_at g k (f_rings, f_high, f_low, a_crashed, a_config, a_members, a_newestCut, a_reports, a_votes, a_myVote, a_promised, a_acceptedRound, a_acceptedValue, a_ownRound, a_phase, a_promisers, a_promiserRound, a_promiserValue, a_learnedRound, upd a_learnedFrom p (a_learnedFrom p ||| (1 <<< (nI q &&& 31))), a_learnedValue, a_slots) p) (S : pg_sl g k a_slots) (ot : pg_ot p (f_rings, f_high, f_low, a_crashed, a_config, a_members, a_newestCut, a_reports, a_votes, a_myVote, a_promised, a_acceptedRound, a_acceptedValue, a_ownRound, a_phase, a_promisers, a_promiserRound, a_promiserValue, b1, b2, b3, a_slots) (f_rings, f_high, f_low, a_crashed, a_config, a_members, a_newestCut, a_reports, a_votes, a_myVote, a_promised, a_acceptedRound, a_acceptedValue, a_ownRound, a_phase, a_promisers, a_promiserRound, a_promiserValue, a_learnedRound, upd a_learnedFrom p (a_learnedFrom p ||| (1 <<< (nI q &&& 31))), a_learnedValue, a_slots)) (hc0 : a_config p = nI c0) (hc0k : c0 ≤ k) (hd : cd_cq (cd_ct (a_members p)) ≤ cd_ct (a_learnedFrom p ||| (1 <<< (nI q &&& 31))) → pg_dec g c0 (a_learnedValue p)) : pg_res g k p (f_rings, f_high, f_low, a_crashed, a_config, a_members, a_newestCut, a_reports, a_votes, a_myVote, a_promised, a_acceptedRound, a_acceptedValue, a_ownRound, a_phase, a_promisers, a_promiserRound, a_promiserValue, b1, b2, b3, a_slots) (cx_lrn (f_rings, f_high, f_low, a_crashed, a_config, a_members, a_newestCut, a_reports, a_votes, a_myVote, a_promised, a_acceptedRound, a_acceptedValue, a_ownRound, a_phase, a_promisers, a_promiserRound, a_promiserValue, a_learnedRound, a_learnedFrom, a_learnedValue, a_slots) p q) := by
  unfold cx_lrn
  dsimp only
  by_cases d : cd_cq (cd_ct (a_members p)) ≤ cd_ct (a_learnedFrom p ||| (1 <<< (nI q &&& 31)))
  · rw [if_pos d]
    obtain ⟨o, g', I', L, O, E1, E2, P, SL⟩ := pr_dec (a_votes' := a_votes) (a_learnedFrom' := a_votes) (a_learnedRound' := a_votes) (a_learnedValue' := a_votes) I hp hk A S ot hc0 hc0k (hd d)
    refine ⟨rfl, rfl, rfl, o, fun _ n => absurd pk_us n, g', I', L, O, E1, ?_, P, SL⟩
    rw [pk_us, pk_us]; exact E2
  · rw [if_neg d]
    exact ⟨rfl, rfl, rfl, ot, fun a b => absurd a b, g, I, pg_le_rf g, pg_own_rf p g, pg_e1_rf I rfl rfl rfl, pg_e2_rf rfl (Or.inl rfl), po_id I hp A, pg_sl_up (pg_le_rf g) (Nat.le_succ k) S⟩
theorem cd_orq {x : Int32} {q j : Nat} (hq : q < 16) (hj : j < 16) (h : bt (x ||| (1 <<< (nI q &&& 31))) j = true) : j = q ∨ bt x j = true := by
  rw [b_or, cd_shl1 q (by omega) (by omega), Bool.or_eq_true_iff, decide_eq_true_iff] at h
  rcases h with a | a
  · exact Or.inr a
  · exact Or.inl a
theorem pr_acd (I : pg_I g) (hp : p < 16) (hk : k ≤ 200) (A : pg_at g k (f_rings, f_high, f_low, a_crashed, a_config, a_members, a_newestCut, a_reports, a_votes, a_myVote, a_promised, a_acceptedRound, a_acceptedValue, a_ownRound, a_phase, a_promisers, a_promiserRound, a_promiserValue, a_learnedRound, a_learnedFrom, a_learnedValue, a_slots) p) (S : pg_sl g k a_slots) {q r c0 : Nat} {y : Int32} (hq : q < 16) (hr : 16 ≤ r) (hrk : r ≤ 16 * k + 15) (hc0 : a_config p = nI c0) (hc0k : c0 ≤ k) (hy : y = pg_W g c0 r) (hw : ¬ pg_W g c0 r = -1) (hA : pg_A g c0 q r = true) : pg_res g k p (f_rings, f_high, f_low, a_crashed, a_config, a_members, a_newestCut, a_reports, a_votes, a_myVote, a_promised, a_acceptedRound, a_acceptedValue, a_ownRound, a_phase, a_promisers, a_promiserRound, a_promiserValue, a_learnedRound, a_learnedFrom, a_learnedValue, a_slots) (cx_acd (f_rings, f_high, f_low, a_crashed, a_config, a_members, a_newestCut, a_reports, a_votes, a_myVote, a_promised, a_acceptedRound, a_acceptedValue, a_ownRound, a_phase, a_promisers, a_promiserRound, a_promiserValue, a_learnedRound, a_learnedFrom, a_learnedValue, a_slots) p q (nI r) y) := by
  unfold cx_acd
  dsimp only
  by_cases c : nI r < a_learnedRound p
  · rw [if_pos c]; exact pr_same I hp A S
  rw [if_neg c]
  by_cases c2 : a_learnedRound p < nI r
  · rw [if_pos c2]
    obtain ⟨P, D⟩ := po_lrn (lr' := nI r) (lf' := (0 : Int32) ||| (1 <<< (nI q &&& 31))) (lv' := y) A hk hq hr hrk hc0 hc0k hy hw hA (Or.inr ⟨rfl, rfl, fun j hj hb => by
      rcases cd_orq hq hj hb with a | a
      · exact a
      · rw [b_0] at a; exact absurd a (by decide)⟩)
    refine pr_lrn (b1 := a_learnedRound) (b2 := a_learnedFrom) (b3 := a_learnedValue) I hp hk ?_ S ?_ hc0 hc0k ?_
    · unfold pg_at
      dsimp only
      rw [pk_us, pk_us, pk_us, pk_us]; exact P
    · exact fun j hj hne => ⟨rfl, rfl, rfl, rfl, rfl, rfl, rfl, rfl, rfl, rfl, pk_un hne, (pk_un hne).trans (pk_un hne), pk_un hne, fun _ _ => rfl, fun _ _ => rfl, fun _ _ => rfl⟩
    · rw [pk_us, pk_us]; exact D
  · rw [if_neg c2]
    have e : a_learnedRound p = nI r := Int32.le_antisymm (Int32.not_lt.mp c) (Int32.not_lt.mp c2)
    obtain ⟨P, D⟩ := po_lrn (lr' := a_learnedRound p) (lf' := a_learnedFrom p ||| (1 <<< (nI q &&& 31))) (lv' := a_learnedValue p) A hk hq hr hrk hc0 hc0k hy hw hA (Or.inl ⟨e, rfl, rfl, fun j hj hb => cd_orq hq hj hb⟩)
    refine pr_lrn (b1 := a_learnedRound) (b2 := a_learnedFrom) (b3 := a_learnedValue) I hp hk ?_ S ?_ hc0 hc0k D
    · unfold pg_at
      dsimp only
      rw [pk_us]; exact P
    · exact fun j hj hne => ⟨rfl, rfl, rfl, rfl, rfl, rfl, rfl, rfl, rfl, rfl, rfl, pk_un hne, rfl, fun _ _ => rfl, fun _ _ => rfl, fun _ _ => rfl⟩
end PG9
end
section
section PG10
variable {f_rings f_high f_low : Int32} {a_crashed a_config a_members a_newestCut a_reports a_votes a_myVote a_promised a_acceptedRound a_acceptedValue a_ownRound a_phase a_promisers a_promiserRound a_promiserValue a_learnedRound a_learnedFrom a_learnedValue a_slots : Nat → Int32}
variable {g : pg_G} {k p : Nat}
theorem pr_mem (I : pg_I g) (hp : p < 16) (hk : k ≤ 200) (A : pg_at g k (f_rings, f_high, f_low, a_crashed, a_config, a_members, a_newestCut, a_reports, a_votes, a_myVote, a_promised, a_acceptedRound, a_acceptedValue, a_ownRound, a_phase, a_promisers, a_promiserRound, a_promiserValue, a_learnedRound, a_learnedFrom, a_learnedValue, a_slots) p) (S : pg_sl g k a_slots) (hm : bt (a_members p) p = true) {q : Nat} (hq : q < 16) {kind c x y z : Int32} (M : pg_ms g k kind (nI q) c x y z) : pg_res g k p (f_rings, f_high, f_low, a_crashed, a_config, a_members, a_newestCut, a_reports, a_votes, a_myVote, a_promised, a_acceptedRound, a_acceptedValue, a_ownRound, a_phase, a_promisers, a_promiserRound, a_promiserValue, a_learnedRound, a_learnedFrom, a_learnedValue, a_slots) (cx_mem (f_rings, f_high, f_low, a_crashed, a_config, a_members, a_newestCut, a_reports, a_votes, a_myVote, a_promised, a_acceptedRound, a_acceptedValue, a_ownRound, a_phase, a_promisers, a_promiserRound, a_promiserValue, a_learnedRound, a_learnedFrom, a_learnedValue, a_slots) p q kind c x y z) := by
  unfold cx_mem
  dsimp only
  by_cases c1 : c < a_config p
  · rw [if_pos c1]
    by_cases e : q = p
    · rw [if_pos e]; exact pr_same I hp A S
    · rw [if_neg e]
      exact ⟨rfl, rfl, rfl, pg_ot_sl, fun a b => absurd a b, g, I, pg_le_rf g, pg_own_rf p g, pg_e1_rf I rfl rfl rfl, pg_e2_rf rfl (Or.inl rfl), po_id I hp A, pg_sl_send (pg_sl_up (pg_le_rf g) (Nat.le_succ k) S) (po_tell hp A)⟩
  rw [if_neg c1]
  by_cases c2 : a_config p < c
  · rw [if_pos c2]; exact pr_same I hp A S
  rw [if_neg c2]
  obtain ⟨q', c0, hq', eq, ec, hck, hcK, h⟩ := M
  have e1 : q = q' := (nI_eq (by omega) (by omega)).mp eq
  subst e1
  have hc0 : a_config p = nI c0 := by
    rw [← ec]
    exact Int32.le_antisymm (Int32.not_lt.mp c1) (Int32.not_lt.mp c2)
  rcases h with ⟨e, s, hs, ex⟩ | ⟨e, ex, hv⟩ | ⟨e, r, h1, h2, h3⟩ | ⟨e, r, h1, h2, h3, h4⟩ | ⟨e, r, h1, h2, h3, h4, h5⟩ | ⟨e, r, h1, h2, h3, h4, h5, h6⟩ | ⟨e, h1, h2⟩
  · subst e
    rw [if_pos rfl]
    exact pr_alert I hp hk A S hm
  · subst e
    rw [if_neg (by decide), if_pos rfl]
    exact pr_vote I hp hk A S hq hc0 hck ex hv
  · subst e h3
    rw [if_neg (by decide), if_neg (by decide), if_pos rfl]
    exact pr_prep I hp hk A S hm h1 h2
  · subst e h3
    rw [if_neg (by decide), if_neg (by decide), if_neg (by decide), if_pos rfl]
    exact pr_prom I hp hk A S hq h2 hc0 hck h4
  · subst e h3
    rw [if_neg (by decide), if_neg (by decide), if_neg (by decide), if_neg (by decide), if_pos rfl]
    exact pr_acc I hp hk A S hm h1 h2 hc0 hck h4 h5
  · subst e h3
    rw [if_neg (by decide), if_neg (by decide), if_neg (by decide), if_neg (by decide), if_neg (by decide), if_pos rfl]
    exact pr_acd I hp hk A S hq h1 h2 hc0 hck h4 h5 h6
  · subst e
    rw [if_neg (by decide), if_neg (by decide), if_neg (by decide), if_neg (by decide), if_neg (by decide), if_neg (by decide)]
    exact pr_same I hp A S
theorem pr_recv (I : pg_I g) (hp : p < 16) (hk : k ≤ 200) (A : pg_at g k (f_rings, f_high, f_low, a_crashed, a_config, a_members, a_newestCut, a_reports, a_votes, a_myVote, a_promised, a_acceptedRound, a_acceptedValue, a_ownRound, a_phase, a_promisers, a_promiserRound, a_promiserValue, a_learnedRound, a_learnedFrom, a_learnedValue, a_slots) p) (S : pg_sl g k a_slots) {q : Nat} (hq : q < 16) {kind c x y z : Int32} (M : pg_ms g k kind (nI q) c x y z) : pg_res g k p (f_rings, f_high, f_low, a_crashed, a_config, a_members, a_newestCut, a_reports, a_votes, a_myVote, a_promised, a_acceptedRound, a_acceptedValue, a_ownRound, a_phase, a_promisers, a_promiserRound, a_promiserValue, a_learnedRound, a_learnedFrom, a_learnedValue, a_slots) (cx_recv (f_rings, f_high, f_low, a_crashed, a_config, a_members, a_newestCut, a_reports, a_votes, a_myVote, a_promised, a_acceptedRound, a_acceptedValue, a_ownRound, a_phase, a_promisers, a_promiserRound, a_promiserValue, a_learnedRound, a_learnedFrom, a_learnedValue, a_slots) p q kind c x y z) := by
  unfold cx_recv
  dsimp only
  by_cases cr : a_crashed p = 0
  rotate_left
  · rw [if_neg cr]; exact pr_same I hp A S
  rw [if_pos cr]
  by_cases k7 : kind = 7
  · rw [if_pos k7]
    by_cases c1 : a_config p < c
    · rw [if_pos c1]
      obtain ⟨q', c0, hq', eq, ec, hck, hcK, h⟩ := M
      have hh : x = pg_M g c0 ∧ y = pg_C g c0 := by
        rw [k7] at h
        rcases h with ⟨e, _⟩ | ⟨e, _⟩ | ⟨e, _⟩ | ⟨e, _⟩ | ⟨e, _⟩ | ⟨e, _⟩ | ⟨_, h⟩
        · exact absurd e (by decide)
        · exact absurd e (by decide)
        · exact absurd e (by decide)
        · exact absurd e (by decide)
        · exact absurd e (by decide)
        · exact absurd e (by decide)
        · exact h
      obtain ⟨rfl, rfl⟩ := hh
      subst ec
      have P := po_wel (prr' := fun q => a_promiserRound (p * 16 + q)) (prv' := fun q => a_promiserValue (p * 16 + q)) I hp hk A hck hcK c1 (vt' := fun q => cd_fill a_votes (p * 16) (-1) 16 (p * 16 + q)) (fun j hj => cd_fillI (by omega) (by omega))
      refine ⟨rfl, rfl, rfl, pg_ot_inst (pg_ot_rf p (f_rings, f_high, f_low, a_crashed, a_config, a_members, a_newestCut, a_reports, a_votes, a_myVote, a_promised, a_acceptedRound, a_acceptedValue, a_ownRound, a_phase, a_promisers, a_promiserRound, a_promiserValue, a_learnedRound, a_learnedFrom, a_learnedValue, a_slots)), fun _ n => absurd pk_us n, g, I, pg_le_rf g, pg_own_rf p g, pg_e1_rf I rfl rfl rfl, pg_e2_rf rfl (Or.inl rfl), ?_, pg_sl_up (pg_le_rf g) (Nat.le_succ k) S⟩
      unfold pg_at
      dsimp only
      simp only [pk_us]
      exact P
    · rw [if_neg c1]; exact pr_same I hp A S
  rw [if_neg k7]
  by_cases hm : bt (a_members p) p = true
  · rw [if_pos hm]; exact pr_mem I hp hk A S hm hq M
  · rw [if_neg hm]; exact pr_same I hp A S
end PG10
end
section
section PG11
variable {f_rings f_high f_low : Int32} {a_crashed a_config a_members a_newestCut a_reports a_votes a_myVote a_promised a_acceptedRound a_acceptedValue a_ownRound a_phase a_promisers a_promiserRound a_promiserValue a_learnedRound a_learnedFrom a_learnedValue a_slots : Nat → Int32}
variable {g : pg_G} {k p : Nat}
theorem pg_res_sl {s : Nat → Int32} {u' : St2} (h : pg_res g k p (f_rings, f_high, f_low, a_crashed, a_config, a_members, a_newestCut, a_reports, a_votes, a_myVote, a_promised, a_acceptedRound, a_acceptedValue, a_ownRound, a_phase, a_promisers, a_promiserRound, a_promiserValue, a_learnedRound, a_learnedFrom, a_learnedValue, s) u') : pg_res g k p (f_rings, f_high, f_low, a_crashed, a_config, a_members, a_newestCut, a_reports, a_votes, a_myVote, a_promised, a_acceptedRound, a_acceptedValue, a_ownRound, a_phase, a_promisers, a_promiserRound, a_promiserValue, a_learnedRound, a_learnedFrom, a_learnedValue, a_slots) u' := by
  obtain ⟨f_rings2, f_high2, f_low2, a_crashed2, a_config2, a_members2, a_newestCut2, a_reports2, a_votes2, a_myVote2, a_promised2, a_acceptedRound2, a_acceptedValue2, a_ownRound2, a_phase2, a_promisers2, a_promiserRound2, a_promiserValue2, a_learnedRound2, a_learnedFrom2, a_learnedValue2, a_slots2⟩ := u'
  obtain ⟨h1, h2, h3, ot, h5, h6⟩ := h
  refine ⟨h1, h2, h3, fun q hq hne => ?_, h5, h6⟩
  obtain ⟨e1, e2, e3, e4, e5, e6, e7, e8, e9, e10, e11, e12, e13, e14, e15, e16⟩ := ot q hq hne
  exact ⟨e1, e2, e3, e4, e5, e6, e7, e8, e9, e10, e11, e12, e13, e14, e15, e16⟩
theorem pg_at_i : pg_at g k (f_rings, f_high, f_low, a_crashed, a_config, a_members, a_newestCut, a_reports, a_votes, a_myVote, a_promised, a_acceptedRound, a_acceptedValue, a_ownRound, a_phase, a_promisers, a_promiserRound, a_promiserValue, a_learnedRound, a_learnedFrom, a_learnedValue, a_slots) p = pg_p g k p (a_config p) (a_members p) (a_newestCut p) (a_myVote p) (a_promised p) (a_acceptedRound p) (a_acceptedValue p) (a_ownRound p) (a_phase p) (a_promisers p) (a_learnedRound p) (a_learnedFrom p) (a_learnedValue p) (fun q => a_votes (p * 16 + q)) (fun q => a_promiserRound (p * 16 + q)) (fun q => a_promiserValue (p * 16 + q)) := rfl
theorem pg_at_sl {s : Nat → Int32} (A : pg_at g k (f_rings, f_high, f_low, a_crashed, a_config, a_members, a_newestCut, a_reports, a_votes, a_myVote, a_promised, a_acceptedRound, a_acceptedValue, a_ownRound, a_phase, a_promisers, a_promiserRound, a_promiserValue, a_learnedRound, a_learnedFrom, a_learnedValue, a_slots) p) : pg_at g k (f_rings, f_high, f_low, a_crashed, a_config, a_members, a_newestCut, a_reports, a_votes, a_myVote, a_promised, a_acceptedRound, a_acceptedValue, a_ownRound, a_phase, a_promisers, a_promiserRound, a_promiserValue, a_learnedRound, a_learnedFrom, a_learnedValue, s) p := by
  rw [pg_at_i] at A ⊢
  exact A
theorem pr_del (I : pg_I g) (hp : p < 16) (hk : k ≤ 200) (A : pg_at g k (f_rings, f_high, f_low, a_crashed, a_config, a_members, a_newestCut, a_reports, a_votes, a_myVote, a_promised, a_acceptedRound, a_acceptedValue, a_ownRound, a_phase, a_promisers, a_promiserRound, a_promiserValue, a_learnedRound, a_learnedFrom, a_learnedValue, a_slots) p) (S : pg_sl g k a_slots) {i : Nat} (hi : i < 32) (hb : bt (a_slots (i * 7 + 6)) p = true) : (∃ q, q < 16 ∧ a_slots (i * 7 + 1) = nI q) ∧ (a_slots (i * 7) = 1 → ∃ s, s < 16 ∧ a_slots (i * 7 + 3) = nI s) ∧ pg_res g k p (f_rings, f_high, f_low, a_crashed, a_config, a_members, a_newestCut, a_reports, a_votes, a_myVote, a_promised, a_acceptedRound, a_acceptedValue, a_ownRound, a_phase, a_promisers, a_promiserRound, a_promiserValue, a_learnedRound, a_learnedFrom, a_learnedValue, a_slots) (cx_del (f_rings, f_high, f_low, a_crashed, a_config, a_members, a_newestCut, a_reports, a_votes, a_myVote, a_promised, a_acceptedRound, a_acceptedValue, a_ownRound, a_phase, a_promisers, a_promiserRound, a_promiserValue, a_learnedRound, a_learnedFrom, a_learnedValue, a_slots) i p) := by
  have M := S i hi (cd_bt0 hb)
  have M0 := M
  obtain ⟨q, c0, hq, eq, ec, hck, hcK, h⟩ := M
  refine ⟨⟨q, hq, eq⟩, fun e => ?_, ?_⟩
  · rw [e] at h
    rcases h with ⟨_, h⟩ | ⟨e, _⟩ | ⟨e, _⟩ | ⟨e, _⟩ | ⟨e, _⟩ | ⟨e, _⟩ | ⟨e, h⟩
    · exact h
    · exact absurd e (by decide)
    · exact absurd e (by decide)
    · exact absurd e (by decide)
    · exact absurd e (by decide)
    · exact absurd e (by decide)
    · exact absurd e (by decide)
  · unfold cx_del
    dsimp only
    rw [eq, cd_cl hq]
    rw [eq] at M0
    exact pg_res_sl (pr_recv (a_slots := cd_off a_slots i p) I hp hk (pg_at_sl A) (pg_sl_off S) hq M0)
theorem pr_drop (I : pg_I g) (hp : p < 16) (A : pg_at g k (f_rings, f_high, f_low, a_crashed, a_config, a_members, a_newestCut, a_reports, a_votes, a_myVote, a_promised, a_acceptedRound, a_acceptedValue, a_ownRound, a_phase, a_promisers, a_promiserRound, a_promiserValue, a_learnedRound, a_learnedFrom, a_learnedValue, a_slots) p) (S : pg_sl g k a_slots) {i a : Nat} : pg_res g k p (f_rings, f_high, f_low, a_crashed, a_config, a_members, a_newestCut, a_reports, a_votes, a_myVote, a_promised, a_acceptedRound, a_acceptedValue, a_ownRound, a_phase, a_promisers, a_promiserRound, a_promiserValue, a_learnedRound, a_learnedFrom, a_learnedValue, a_slots) (cx_off (f_rings, f_high, f_low, a_crashed, a_config, a_members, a_newestCut, a_reports, a_votes, a_myVote, a_promised, a_acceptedRound, a_acceptedValue, a_ownRound, a_phase, a_promisers, a_promiserRound, a_promiserValue, a_learnedRound, a_learnedFrom, a_learnedValue, a_slots) i a) :=
  pg_res_sl (pr_same (a_slots := cd_off a_slots i a) I hp (pg_at_sl A) (pg_sl_off S))
theorem pr_crash (I : pg_I g) (hp : p < 16) (A : pg_at g k (f_rings, f_high, f_low, a_crashed, a_config, a_members, a_newestCut, a_reports, a_votes, a_myVote, a_promised, a_acceptedRound, a_acceptedValue, a_ownRound, a_phase, a_promisers, a_promiserRound, a_promiserValue, a_learnedRound, a_learnedFrom, a_learnedValue, a_slots) p) (S : pg_sl g k a_slots) {b : Nat → Int32} : pg_res g k p (f_rings, f_high, f_low, a_crashed, a_config, a_members, a_newestCut, a_reports, a_votes, a_myVote, a_promised, a_acceptedRound, a_acceptedValue, a_ownRound, a_phase, a_promisers, a_promiserRound, a_promiserValue, a_learnedRound, a_learnedFrom, a_learnedValue, a_slots) (f_rings, f_high, f_low, b, a_config, a_members, a_newestCut, a_reports, a_votes, a_myVote, a_promised, a_acceptedRound, a_acceptedValue, a_ownRound, a_phase, a_promisers, a_promiserRound, a_promiserValue, a_learnedRound, a_learnedFrom, a_learnedValue, a_slots) :=
  ⟨rfl, rfl, rfl, fun q hq hne => ⟨rfl, rfl, rfl, rfl, rfl, rfl, rfl, rfl, rfl, rfl, rfl, rfl, rfl, fun _ _ => rfl, fun _ _ => rfl, fun _ _ => rfl⟩, fun a b => absurd a b, g, I, pg_le_rf g, pg_own_rf p g, pg_e1_rf I rfl rfl rfl, pg_e2_rf rfl (Or.inl rfl), po_id I hp A, pg_sl_up (pg_le_rf g) (Nat.le_succ k) S⟩
theorem pr_obs (I : pg_I g) (hp : p < 16) (A : pg_at g k (f_rings, f_high, f_low, a_crashed, a_config, a_members, a_newestCut, a_reports, a_votes, a_myVote, a_promised, a_acceptedRound, a_acceptedValue, a_ownRound, a_phase, a_promisers, a_promiserRound, a_promiserValue, a_learnedRound, a_learnedFrom, a_learnedValue, a_slots) p) (S : pg_sl g k a_slots) {s : Nat} (hs : s < 16) {w : Int32} : pg_res g k p (f_rings, f_high, f_low, a_crashed, a_config, a_members, a_newestCut, a_reports, a_votes, a_myVote, a_promised, a_acceptedRound, a_acceptedValue, a_ownRound, a_phase, a_promisers, a_promiserRound, a_promiserValue, a_learnedRound, a_learnedFrom, a_learnedValue, a_slots) (cx_send (f_rings, f_high, f_low, a_crashed, a_config, a_members, a_newestCut, a_reports, a_votes, a_myVote, a_promised, a_acceptedRound, a_acceptedValue, a_ownRound, a_phase, a_promisers, a_promiserRound, a_promiserValue, a_learnedRound, a_learnedFrom, a_learnedValue, a_slots) p 1 (nI s) w 0 (a_members p)) := by
  have A0 := A
  obtain ⟨c, rc, h1, h2, h3, _⟩ := A
  exact ⟨rfl, rfl, rfl, pg_ot_sl, fun a b => absurd a b, g, I, pg_le_rf g, pg_own_rf p g, pg_e1_rf I rfl rfl rfl, pg_e2_rf rfl (Or.inl rfl), po_id I hp A0, pg_sl_send (pg_sl_up (pg_le_rf g) (Nat.le_succ k) S) ⟨p, c, hp, rfl, h1, by omega, h3, Or.inl ⟨rfl, s, hs, rfl⟩⟩⟩
theorem pr_fb (I : pg_I g) (hp : p < 16) (hk : k ≤ 200) (A : pg_at g k (f_rings, f_high, f_low, a_crashed, a_config, a_members, a_newestCut, a_reports, a_votes, a_myVote, a_promised, a_acceptedRound, a_acceptedValue, a_ownRound, a_phase, a_promisers, a_promiserRound, a_promiserValue, a_learnedRound, a_learnedFrom, a_learnedValue, a_slots) p) (S : pg_sl g k a_slots) {b : Int32} (hb : b = (if a_promised p ≤ a_ownRound p then a_ownRound p else a_promised p)) : pg_res g k p (f_rings, f_high, f_low, a_crashed, a_config, a_members, a_newestCut, a_reports, a_votes, a_myVote, a_promised, a_acceptedRound, a_acceptedValue, a_ownRound, a_phase, a_promisers, a_promiserRound, a_promiserValue, a_learnedRound, a_learnedFrom, a_learnedValue, a_slots) (cx_fb (f_rings, f_high, f_low, a_crashed, a_config, a_members, a_newestCut, a_reports, a_votes, a_myVote, a_promised, a_acceptedRound, a_acceptedValue, a_ownRound, a_phase, a_promisers, a_promiserRound, a_promiserValue, a_learnedRound, a_learnedFrom, a_learnedValue, a_slots) p ((b / 16 + 1) * 16 + nI p)) := by
  obtain ⟨P, M⟩ := po_fb I hp hk A hb
  refine ⟨rfl, rfl, rfl, fun q hq hne => ⟨rfl, rfl, rfl, rfl, rfl, rfl, rfl, pk_un hne, pk_un hne, pk_un hne, rfl, rfl, rfl, fun _ _ => rfl, fun _ _ => rfl, fun _ _ => rfl⟩, fun a b => absurd a b, g, I, pg_le_rf g, pg_own_rf p g, pg_e1_rf I rfl rfl rfl, pg_e2_rf rfl (Or.inl rfl), ?_, pg_sl_send (pg_sl_up (pg_le_rf g) (Nat.le_succ k) S) M⟩
  unfold pg_at
  dsimp only
  rw [pk_us, pk_us, pk_us]; exact P
def pg_out (g g' : pg_G) (u u' : St2) : Prop := match u with
  | (f_rings, f_high, f_low, a_crashed, a_config, a_members, a_newestCut, a_reports, a_votes, a_myVote, a_promised, a_acceptedRound, a_acceptedValue, a_ownRound, a_phase, a_promisers, a_promiserRound, a_promiserValue, a_learnedRound, a_learnedFrom, a_learnedValue, a_slots) => match u' with
    | (f_rings2, f_high2, f_low2, a_crashed2, a_config2, a_members2, a_newestCut2, a_reports2, a_votes2, a_myVote2, a_promised2, a_acceptedRound2, a_acceptedValue2, a_ownRound2, a_phase2, a_promisers2, a_promiserRound2, a_promiserValue2, a_learnedRound2, a_learnedFrom2, a_learnedValue2, a_slots2) => f_rings2 = f_rings ∧ f_high2 = f_high ∧ f_low2 = f_low ∧ pg_e1 g g' ∧ (pg_K g' = pg_K g ∨ ∃ q, q < 16 ∧ a_config2 q = nI (pg_K g')) ∧ (∀ c q, q < 16 → pg_V g' c q = pg_V g c q ∨ (a_config2 q = nI c ∧ a_myVote2 q = pg_V g' c q)) ∧ (∀ q, q < 16 → a_myVote q = -1 → ¬ a_myVote2 q = -1 → cd_st a_reports2 (q * 16) f_high f_low 16 = some (a_myVote2 q))
theorem pg_fin {u u' : St2} (hp : p < 16) (st : pg_st g k u) (h : pg_res g k p u u') : ∃ g', pg_le g g' ∧ pg_st g' (k + 1) u' ∧ pg_out g g' u u' := by
  obtain ⟨f_rings, f_high, f_low, a_crashed, a_config, a_members, a_newestCut, a_reports, a_votes, a_myVote, a_promised, a_acceptedRound, a_acceptedValue, a_ownRound, a_phase, a_promisers, a_promiserRound, a_promiserValue, a_learnedRound, a_learnedFrom, a_learnedValue, a_slots⟩ := u
  obtain ⟨f_rings2, f_high2, f_low2, a_crashed2, a_config2, a_members2, a_newestCut2, a_reports2, a_votes2, a_myVote2, a_promised2, a_acceptedRound2, a_acceptedValue2, a_ownRound2, a_phase2, a_promisers2, a_promiserRound2, a_promiserValue2, a_learnedRound2, a_learnedFrom2, a_learnedValue2, a_slots2⟩ := u'
  obtain ⟨I, P, S⟩ := st
  obtain ⟨h1, h2, h3, ot, h5, g', I', L, O, E1, E2, A, SL⟩ := h
  refine ⟨g', L, ⟨I', fun q hq => ?_, SL⟩, h1, h2, h3, E1, ?_, fun c q hq => ?_, fun q hq a b => ?_⟩
  · by_cases e : q = p
    · subst e; exact A
    · exact pg_at_eq (ot q hq e) (pg_p_up I L O (Nat.le_succ k) hq e (P q hq))
  · rcases E2.1 with e | e
    · exact Or.inl e
    · exact Or.inr ⟨p, hp, e⟩
  · rcases E2.2 c q hq with e | ⟨e1, e2, e3⟩
    · exact Or.inl e
    · subst e1
      exact Or.inr ⟨e2, e3⟩
  · by_cases e : q = p
    · subst e; exact h5 a b
    · obtain ⟨_, _, _, e4, _⟩ := ot q hq e
      exact absurd (e4.trans a) b
end PG11
end
section
section PG12
variable {f_rings f_high f_low : Int32} {a_crashed a_config a_members a_newestCut a_reports a_votes a_myVote a_promised a_acceptedRound a_acceptedValue a_ownRound a_phase a_promisers a_promiserRound a_promiserValue a_learnedRound a_learnedFrom a_learnedValue a_slots : Nat → Int32}
variable {g : pg_G} {k p : Nat}
theorem cx_eta2 {post : Int32 → St2 → Prop} {r : Int32} {u : St2} (h : post r u) : (match u with | (f_rings, f_high, f_low, a_crashed, a_config, a_members, a_newestCut, a_reports, a_votes, a_myVote, a_promised, a_acceptedRound, a_acceptedValue, a_ownRound, a_phase, a_promisers, a_promiserRound, a_promiserValue, a_learnedRound, a_learnedFrom, a_learnedValue, a_slots) => post r (f_rings, f_high, f_low, a_crashed, a_config, a_members, a_newestCut, a_reports, a_votes, a_myVote, a_promised, a_acceptedRound, a_acceptedValue, a_ownRound, a_phase, a_promisers, a_promiserRound, a_promiserValue, a_learnedRound, a_learnedFrom, a_learnedValue, a_slots)) := h
def pg_next (g : pg_G) (k : Nat) (u u' : St2) : Prop := ∃ g', pg_le g g' ∧ pg_st g' (k + 1) u' ∧ pg_out g g' u u'
theorem st_same (st : pg_st g k (f_rings, f_high, f_low, a_crashed, a_config, a_members, a_newestCut, a_reports, a_votes, a_myVote, a_promised, a_acceptedRound, a_acceptedValue, a_ownRound, a_phase, a_promisers, a_promiserRound, a_promiserValue, a_learnedRound, a_learnedFrom, a_learnedValue, a_slots)) : pg_next g k (f_rings, f_high, f_low, a_crashed, a_config, a_members, a_newestCut, a_reports, a_votes, a_myVote, a_promised, a_acceptedRound, a_acceptedValue, a_ownRound, a_phase, a_promisers, a_promiserRound, a_promiserValue, a_learnedRound, a_learnedFrom, a_learnedValue, a_slots) (f_rings, f_high, f_low, a_crashed, a_config, a_members, a_newestCut, a_reports, a_votes, a_myVote, a_promised, a_acceptedRound, a_acceptedValue, a_ownRound, a_phase, a_promisers, a_promiserRound, a_promiserValue, a_learnedRound, a_learnedFrom, a_learnedValue, a_slots) := pg_fin (p := 0) (by omega) st (pr_same st.1 (by omega) (st.2.1 0 (by omega)) st.2.2)
theorem sw_obs {post : Int32 → St2 → Prop} (st : pg_st g k (f_rings, f_high, f_low, a_crashed, a_config, a_members, a_newestCut, a_reports, a_votes, a_myVote, a_promised, a_acceptedRound, a_acceptedValue, a_ownRound, a_phase, a_promisers, a_promiserRound, a_promiserValue, a_learnedRound, a_learnedFrom, a_learnedValue, a_slots)) {K : Nat} (hK : K ≤ 6) (hr : f_rings = nI K) {o s : Nat} (ho : o < 16) (hs : s < 16) (h : ∀ r u', pg_next g k (f_rings, f_high, f_low, a_crashed, a_config, a_members, a_newestCut, a_reports, a_votes, a_myVote, a_promised, a_acceptedRound, a_acceptedValue, a_ownRound, a_phase, a_promisers, a_promiserRound, a_promiserValue, a_learnedRound, a_learnedFrom, a_learnedValue, a_slots) u' → post r u') : wpX_observe post (f_rings, f_high, f_low, a_crashed, a_config, a_members, a_newestCut, a_reports, a_votes, a_myVote, a_promised, a_acceptedRound, a_acceptedValue, a_ownRound, a_phase, a_promisers, a_promiserRound, a_promiserValue, a_learnedRound, a_learnedFrom, a_learnedValue, a_slots) (nI o) (nI s) := by
  have h0 := h 0 _ (st_same st)
  unfold wpX_observe
  dsimp only
  refine xw_isP ho (br_f (by decide) (xw_isP hs (br_f (by decide) ?_)))
  refine br_c (fun _ => h0) (fun _ => xw_stt ho ?_)
  refine br_c (fun _ => xw_wat ho hK hr ?_) (fun _ => h0)
  refine br_c (fun _ => h0) (fun _ => xw_free ?_)
  refine br_c (fun _ => h0) (fun _ => ⟨cd_vi ho, ?_⟩)
  rw [cd_cl ho]
  exact xw_send ho (h 1 _ (pg_fin ho st (pr_obs st.1 ho (st.2.1 o ho) st.2.2 hs)))
theorem sw_fb {post : Int32 → St2 → Prop} (st : pg_st g k (f_rings, f_high, f_low, a_crashed, a_config, a_members, a_newestCut, a_reports, a_votes, a_myVote, a_promised, a_acceptedRound, a_acceptedValue, a_ownRound, a_phase, a_promisers, a_promiserRound, a_promiserValue, a_learnedRound, a_learnedFrom, a_learnedValue, a_slots)) (hk : k ≤ 200) (hp : p < 16) (h : ∀ r u', pg_next g k (f_rings, f_high, f_low, a_crashed, a_config, a_members, a_newestCut, a_reports, a_votes, a_myVote, a_promised, a_acceptedRound, a_acceptedValue, a_ownRound, a_phase, a_promisers, a_promiserRound, a_promiserValue, a_learnedRound, a_learnedFrom, a_learnedValue, a_slots) u' → post r u') : wpX_fallback post (f_rings, f_high, f_low, a_crashed, a_config, a_members, a_newestCut, a_reports, a_votes, a_myVote, a_promised, a_acceptedRound, a_acceptedValue, a_ownRound, a_phase, a_promisers, a_promiserRound, a_promiserValue, a_learnedRound, a_learnedFrom, a_learnedValue, a_slots) (nI p) := by
  have h0 := h 0 _ (st_same st)
  unfold wpX_fallback
  dsimp only
  refine xw_isP hp (br_f (by decide) (xw_stt hp ?_))
  refine br_c (fun _ => xw_free ?_) (fun _ => h0)
  refine br_c (fun _ => h0) (fun _ => ⟨cd_vi hp, cd_vi hp, ?_⟩)
  have Xc : ∀ (z0 : Int32), z0 = (if a_promised p ≤ a_ownRound p then a_ownRound p else a_promised p) → wX_fallback_56 post (nI p) z0 f_rings f_high f_low a_crashed a_config a_members a_newestCut a_reports a_votes a_myVote a_promised a_acceptedRound a_acceptedValue a_ownRound a_phase a_promisers a_promiserRound a_promiserValue a_learnedRound a_learnedFrom a_learnedValue a_slots := by
    intro z0 e
    unfold wX_fallback_56
    rw [cd_cl hp]
    refine ⟨by decide, cd_vi hp, nm_e ⟨cd_vi hp, nm_e ⟨cd_vi hp, nm_e ⟨cd_vi hp, cd_vi hp, ?_⟩⟩⟩⟩
    rw [pk_us]
    exact xw_send hp (h 1 _ (pg_fin hp st (pr_fb st.1 hp hk (st.2.1 p hp) st.2.2 e)))
  rw [cd_cl hp]
  by_cases c : a_promised p ≤ a_ownRound p
  · rw [if_pos c] at Xc
    exact br_t c ⟨cd_vi hp, Xc _ rfl⟩
  · rw [if_neg c] at Xc
    exact br_f c ⟨cd_vi hp, Xc _ rfl⟩
theorem sw_crash {post : Int32 → St2 → Prop} (st : pg_st g k (f_rings, f_high, f_low, a_crashed, a_config, a_members, a_newestCut, a_reports, a_votes, a_myVote, a_promised, a_acceptedRound, a_acceptedValue, a_ownRound, a_phase, a_promisers, a_promiserRound, a_promiserValue, a_learnedRound, a_learnedFrom, a_learnedValue, a_slots)) (hp : p < 16) (h : ∀ r u', pg_next g k (f_rings, f_high, f_low, a_crashed, a_config, a_members, a_newestCut, a_reports, a_votes, a_myVote, a_promised, a_acceptedRound, a_acceptedValue, a_ownRound, a_phase, a_promisers, a_promiserRound, a_promiserValue, a_learnedRound, a_learnedFrom, a_learnedValue, a_slots) u' → post r u') : wpX_crash post (f_rings, f_high, f_low, a_crashed, a_config, a_members, a_newestCut, a_reports, a_votes, a_myVote, a_promised, a_acceptedRound, a_acceptedValue, a_ownRound, a_phase, a_promisers, a_promiserRound, a_promiserValue, a_learnedRound, a_learnedFrom, a_learnedValue, a_slots) (nI p) := by
  have h0 := h 0 _ (st_same st)
  unfold wpX_crash
  dsimp only
  refine xw_isP hp (br_f (by decide) ⟨cd_vi hp, ?_⟩)
  exact br_c (fun _ => ⟨cd_vi hp, nm_e (h 1 _ (pg_fin hp st (pr_crash st.1 hp (st.2.1 p hp) st.2.2)))⟩) (fun _ => h0)
theorem sw_drop {post : Int32 → St2 → Prop} (st : pg_st g k (f_rings, f_high, f_low, a_crashed, a_config, a_members, a_newestCut, a_reports, a_votes, a_myVote, a_promised, a_acceptedRound, a_acceptedValue, a_ownRound, a_phase, a_promisers, a_promiserRound, a_promiserValue, a_learnedRound, a_learnedFrom, a_learnedValue, a_slots)) {i : Nat} (hi : i < 32) (hp : p < 16) (h : ∀ r u', pg_next g k (f_rings, f_high, f_low, a_crashed, a_config, a_members, a_newestCut, a_reports, a_votes, a_myVote, a_promised, a_acceptedRound, a_acceptedValue, a_ownRound, a_phase, a_promisers, a_promiserRound, a_promiserValue, a_learnedRound, a_learnedFrom, a_learnedValue, a_slots) u' → post r u') : wpX_drop post (f_rings, f_high, f_low, a_crashed, a_config, a_members, a_newestCut, a_reports, a_votes, a_myVote, a_promised, a_acceptedRound, a_acceptedValue, a_ownRound, a_phase, a_promisers, a_promiserRound, a_promiserValue, a_learnedRound, a_learnedFrom, a_learnedValue, a_slots) (nI i) (nI p) := by
  have h0 := h 0 _ (st_same st)
  unfold wpX_drop
  refine xw_awt hi hp (fun _ => br_t rfl h0) (fun _ => br_f (by decide) (xw_off hi ?_))
  exact cx_eta2 (h 1 _ (pg_fin hp st (pr_drop st.1 hp (st.2.1 p hp) st.2.2)))
theorem sw_del {post : Int32 → St2 → Prop} (st : pg_st g k (f_rings, f_high, f_low, a_crashed, a_config, a_members, a_newestCut, a_reports, a_votes, a_myVote, a_promised, a_acceptedRound, a_acceptedValue, a_ownRound, a_phase, a_promisers, a_promiserRound, a_promiserValue, a_learnedRound, a_learnedFrom, a_learnedValue, a_slots)) (hk : k ≤ 200) {i : Nat} (hi : i < 32) (hp : p < 16) (hb : bt (a_slots (i * 7 + 6)) p = true) (h : ∀ r u', pg_next g k (f_rings, f_high, f_low, a_crashed, a_config, a_members, a_newestCut, a_reports, a_votes, a_myVote, a_promised, a_acceptedRound, a_acceptedValue, a_ownRound, a_phase, a_promisers, a_promiserRound, a_promiserValue, a_learnedRound, a_learnedFrom, a_learnedValue, a_slots) u' → post r u') : wpX_deliver post (f_rings, f_high, f_low, a_crashed, a_config, a_members, a_newestCut, a_reports, a_votes, a_myVote, a_promised, a_acceptedRound, a_acceptedValue, a_ownRound, a_phase, a_promisers, a_promiserRound, a_promiserValue, a_learnedRound, a_learnedFrom, a_learnedValue, a_slots) (nI i) (nI p) := by
  obtain ⟨h1, h2, h3⟩ := pr_del st.1 hp hk (st.2.1 p hp) st.2.2 hi hb
  exact xw_del hi hp hb h1 h2 (h 1 _ (pg_fin hp st h3))
theorem sw_msg {post : Int32 → Prop} {i : Nat} (hi : i < 32) (h : post (a_slots (i * 7 + 6))) : wpX_msg post (f_rings, f_high, f_low, a_crashed, a_config, a_members, a_newestCut, a_reports, a_votes, a_myVote, a_promised, a_acceptedRound, a_acceptedValue, a_ownRound, a_phase, a_promisers, a_promiserRound, a_promiserValue, a_learnedRound, a_learnedFrom, a_learnedValue, a_slots) (nI i) 6 := by
  unfold wpX_msg
  dsimp only
  rw [cd_i76, cd_c7 hi (by omega)]
  exact br_f (nI_pos (by omega)) (br_f (nI_ge (b := 32) hi (by decide)) (br_f (by decide) (br_t (by decide) ⟨cd_v7 hi (by omega), h⟩)))
theorem sw_cfg {post : Int32 → Prop} (hp : p < 16) (h : post (a_config p)) : wpX_configOf post (f_rings, f_high, f_low, a_crashed, a_config, a_members, a_newestCut, a_reports, a_votes, a_myVote, a_promised, a_acceptedRound, a_acceptedValue, a_ownRound, a_phase, a_promisers, a_promiserRound, a_promiserValue, a_learnedRound, a_learnedFrom, a_learnedValue, a_slots) (nI p) := by
  unfold wpX_configOf
  dsimp only
  rw [cd_cl hp]
  exact xw_isP hp (br_f (by decide) ⟨cd_vi hp, h⟩)
theorem sw_mem {post : Int32 → Prop} (hp : p < 16) (h : post (a_members p)) : wpX_membersOf post (f_rings, f_high, f_low, a_crashed, a_config, a_members, a_newestCut, a_reports, a_votes, a_myVote, a_promised, a_acceptedRound, a_acceptedValue, a_ownRound, a_phase, a_promisers, a_promiserRound, a_promiserValue, a_learnedRound, a_learnedFrom, a_learnedValue, a_slots) (nI p) := by
  unfold wpX_membersOf
  dsimp only
  rw [cd_cl hp]
  exact xw_isP hp (br_f (by decide) ⟨cd_vi hp, h⟩)
theorem sw_cut {post : Int32 → Prop} (hp : p < 16) (h : post (a_newestCut p)) : wpX_lastCut post (f_rings, f_high, f_low, a_crashed, a_config, a_members, a_newestCut, a_reports, a_votes, a_myVote, a_promised, a_acceptedRound, a_acceptedValue, a_ownRound, a_phase, a_promisers, a_promiserRound, a_promiserValue, a_learnedRound, a_learnedFrom, a_learnedValue, a_slots) (nI p) := by
  unfold wpX_lastCut
  dsimp only
  rw [cd_cl hp]
  exact xw_isP hp (br_f (by decide) ⟨cd_vi hp, h⟩)
theorem sw_pro {post : Int32 → Prop} (hp : p < 16) (h : post (a_myVote p)) : wpX_proposalOf post (f_rings, f_high, f_low, a_crashed, a_config, a_members, a_newestCut, a_reports, a_votes, a_myVote, a_promised, a_acceptedRound, a_acceptedValue, a_ownRound, a_phase, a_promisers, a_promiserRound, a_promiserValue, a_learnedRound, a_learnedFrom, a_learnedValue, a_slots) (nI p) := by
  unfold wpX_proposalOf
  dsimp only
  rw [cd_cl hp]
  exact xw_isP hp (br_f (by decide) ⟨cd_vi hp, h⟩)
theorem sw_rep {post : Int32 → Prop} (hp : p < 16) {s : Nat} (hs : s < 16) (h : post (cd_ct (a_reports (p * 16 + s)))) : wpX_reportCount post (f_rings, f_high, f_low, a_crashed, a_config, a_members, a_newestCut, a_reports, a_votes, a_myVote, a_promised, a_acceptedRound, a_acceptedValue, a_ownRound, a_phase, a_promisers, a_promiserRound, a_promiserValue, a_learnedRound, a_learnedFrom, a_learnedValue, a_slots) (nI p) (nI s) := by
  unfold wpX_reportCount
  dsimp only
  rw [cd_cl16 hp hs]
  exact xw_isP hp (br_f (by decide) (xw_isP hs (br_f (by decide) ⟨cd_vi16 hp hs, xw_ct h⟩)))
/-! the start -/
def cd_row (n : Nat) (v : Int32) : Nat → Int32 := fun j => if j < n then v else 0
theorem cd_row0 (v : Int32) : cd_row 0 v = fun _ => 0 := by
  funext j
  exact if_neg (Nat.not_lt_zero j)
theorem cd_rowI {n j : Nat} {v : Int32} (h : j < n) : cd_row n v j = v := if_pos h
theorem cd_rowS (p : Nat) (v : Int32) : upd (cd_row p v) p v = cd_row (p + 1) v := by
  funext j
  show (if j = p then v else if j < p then v else 0) = (if j < p + 1 then v else 0)
  by_cases e : j = p
  · rw [if_pos e, if_pos (by omega)]
  · rw [if_neg e]
    by_cases l : j < p
    · rw [if_pos l, if_pos (by omega)]
    · rw [if_neg l, if_neg (by omega)]
theorem cd_rowF (p : Nat) (v : Int32) : cd_fill (cd_row (p * 16) v) (p * 16) v 16 = cd_row ((p + 1) * 16) v := by
  funext j
  show (if p * 16 ≤ j ∧ j < p * 16 + 16 then v else if j < p * 16 then v else 0) = (if j < (p + 1) * 16 then v else 0)
  by_cases e : p * 16 ≤ j ∧ j < p * 16 + 16
  · rw [if_pos e, if_pos (by omega)]
  · rw [if_neg e]
    by_cases l : j < p * 16
    · rw [if_pos l, if_pos (by omega)]
    · rw [if_neg l, if_neg (by omega)]
theorem cd_u0 (p : Nat) : upd (fun _ => 0) p 0 = fun _ => 0 := by
  funext j
  show (if j = p then (0 : Int32) else 0) = 0
  split <;> rfl
theorem cd_f0 (b n : Nat) : cd_fill (fun _ => 0) b 0 n = fun _ => 0 := by
  funext j
  show (if b ≤ j ∧ j < b + n then (0 : Int32) else 0) = 0
  split <;> rfl
theorem xw_clampI {post : Int32 → Prop} {v lo hi : Int32} (h1 : lo ≤ v) (h2 : v ≤ hi) (h : post v) : wpX_clamp post () v lo hi := br_t h1 (br_t h2 h)
def cx_0 (r h l f : Int32) (p : Nat) : St2 := (r, h, l, fun _ => 0, fun _ => 0, cd_row p f, fun _ => 0, fun _ => 0, cd_row (p * 16) (-1), cd_row p (-1), fun _ => 0, cd_row p (-1), fun _ => 0, fun _ => 0, fun _ => 0, fun _ => 0, fun _ => 0, fun _ => 0, fun _ => 0, fun _ => 0, fun _ => 0, fun _ => 0)
theorem xw_iniL {post : St2 → Prop} {mc ms kc ks : Nat} {r h l f : Int32} (hh : post (cx_0 r h l f 16)) : ∀ d p, p + d = 16 → wX_init_219 post mc ms f kc ks (d + 1) (nI p) r h l (fun _ => 0) (fun _ => 0) (cd_row p f) (fun _ => 0) (fun _ => 0) (cd_row (p * 16) (-1)) (cd_row p (-1)) (fun _ => 0) (cd_row p (-1)) (fun _ => 0) (fun _ => 0) (fun _ => 0) (fun _ => 0) (fun _ => 0) (fun _ => 0) (fun _ => 0) (fun _ => 0) (fun _ => 0) (fun _ => 0) := by
  intro d
  induction d with
  | zero =>
    intro p hp
    have e : p = 16 := by omega
    subst e
    exact br_t (cd_at16 rfl) hh
  | succ d ih =>
    intro p hp
    have ih := ih (p + 1) (by omega)
    refine br_f (cd_ge16 (by omega)) (xw_inst (by omega) ?_)
    unfold cx_inst
    dsimp only
    rw [cd_u0, cd_f0, cd_rowS, cd_rowS, cd_rowF]
    exact nm_r (nI_1 p) ih
theorem xw_init {post : St2 → Prop} {n k h l : Int32} (n1 : 3 ≤ n) (n2 : n ≤ 16) (k1 : 2 ≤ k) (k2 : k ≤ 6) (h1 : 1 ≤ h) (h2 : h ≤ k) (l1 : 1 ≤ l) (l2 : l ≤ h) (hh : post (cx_0 k h l ((1 <<< (n &&& 31)) - 1) 16)) : wpX_init post 19 1472 (0, 0, 0) n k h l := by
  have L := xw_iniL (mc := 19) (ms := 1472) (kc := 19) (ks := 1472) hh 16 0 rfl
  rw [Nat.zero_mul, cd_row0, cd_row0] at L
  exact ⟨by omega, by omega, by omega, by omega, by omega, by omega, by omega, by omega, by omega, by omega, by omega, by omega, by omega, by omega, by omega, by omega, by omega, by omega, by omega, by omega, by omega, by omega, by omega, by omega, by omega, by omega, by omega, by omega, by omega, by omega, by omega, by omega, by omega, by omega, by omega, by omega, by omega, by omega, xw_clampI n1 n2 (xw_clampI k1 k2 (xw_clampI h1 h2 (xw_clampI l1 l2 (nm_e ⟨17, L⟩))))⟩
def pg_0 (f : Int32) : pg_G := (0, fun _ => f, fun _ => 0, fun _ _ => -1, fun _ _ => 0, fun _ _ _ => false, fun _ _ => -1)
theorem pg_st0 {r h l f : Int32} : pg_st (pg_0 f) 0 (cx_0 r h l f 16) := by
  refine ⟨⟨fun c q r _ e => absurd (show false = true from e) (by decide), fun c q _ n => absurd rfl n, fun c r n => absurd rfl n, fun c _ => ⟨fun q _ => ⟨rfl, rfl⟩, fun _ => rfl⟩, fun c hc => absurd hc (Nat.not_lt_zero c)⟩, fun p hp => ?_, fun i _ n => absurd rfl n⟩
  have F := po_fresh (g := pg_0 f) (k := 0) (c := 0) (prr := fun _ => 0) (prv := fun _ => 0) hp (Nat.le_refl 0) (Nat.le_refl 0) ⟨rfl, rfl, fun _ => rfl, fun _ _ => rfl⟩ (fun _ _ => ⟨rfl, rfl, fun _ => rfl, fun _ _ => rfl⟩) (vt' := fun q => cd_row (16 * 16) (-1) (p * 16 + q)) (fun j hj => cd_rowI (by omega))
  unfold pg_at
  dsimp only
  rw [cd_rowI hp, cd_rowI hp]
  exact F
end PG12
end
section
section PG13
theorem nx_and (a b : Nat) : nI a &&& nI b = nI (a &&& b) := by
  apply Int32.toBitVec_inj.1
  show BitVec.ofNat 32 a &&& BitVec.ofNat 32 b = BitVec.ofNat 32 (a &&& b)
  apply BitVec.eq_of_getLsbD_eq
  intro i hi
  simp [hi]
theorem nx_xor (a b : Nat) : nI a ^^^ nI b = nI (a ^^^ b) := by
  apply Int32.toBitVec_inj.1
  show BitVec.ofNat 32 a ^^^ BitVec.ofNat 32 b = BitVec.ofNat 32 (a ^^^ b)
  apply BitVec.eq_of_getLsbD_eq
  intro i hi
  simp [hi]
theorem nx_mod (k : Nat) : nI k &&& 65535 = nI (k % 65536) := by
  show nI k &&& nI 65535 = _
  rw [nx_and, show (65535 : Nat) = 2 ^ 16 - 1 from rfl, Nat.and_two_pow_sub_one_eq_mod]
theorem nx_mask (x : Int32) : ∃ k, k < 65536 ∧ x &&& 65535 = nI k := by
  have e : x = nI x.toBitVec.toNat := by
    apply Int32.toBitVec_inj.1
    show x.toBitVec = BitVec.ofNat 32 x.toBitVec.toNat
    simp
  refine ⟨x.toBitVec.toNat % 65536, Nat.mod_lt _ (by omega), ?_⟩
  rw [← nx_mod, ← e]
theorem wb_tb (n : Nat) : (lN n).toBitVec = BitVec.ofNat 64 n := rfl
theorem wb_inj {a b : Int64} (h : a.toBitVec = b.toBitVec) : a = b := Int64.toBitVec_inj.mp h
theorem wb_tn {n : Nat} (h : n < 2 ^ 64) : (lN n).toBitVec.toNat = n := by rw [wb_tb, BitVec.toNat_ofNat, Nat.mod_eq_of_lt h]
theorem wb_of (x : Int64) : ∃ n, n < 2 ^ 64 ∧ x = lN n := ⟨x.toBitVec.toNat, x.toBitVec.isLt, wb_inj (by rw [wb_tb]; simp)⟩
theorem wb_c : ∀ k, k < 64 → ((nI k).toInt64 &&& 63) = lN k := by decide +kernel
theorem wb_cu : ∀ k, k < 64 → ((nI k).toInt64.toUInt64 &&& Int64.toUInt64 63) = UInt64.ofNat k := by decide +kernel
theorem wb_sm : ∀ k, k < 64 → (BitVec.ofNat 64 k).smod 64 = BitVec.ofNat 64 k := by decide +kernel
theorem wb_pw {a b : Nat} (h : a ≤ b) : 2 ^ b = 2 ^ a * 2 ^ (b - a) := by rw [← Nat.pow_add]; congr 1; omega
theorem wb_lt2 {a b : Nat} (h : a < b) : 2 ^ a < 2 ^ b := Nat.pow_lt_pow_right (by decide) h
theorem wb_mod (n : Nat) : lN n = lN (n % 2 ^ 64) := wb_inj (by rw [wb_tb, wb_tb]; apply BitVec.eq_of_toNat_eq; rw [BitVec.toNat_ofNat, BitVec.toNat_ofNat, Nat.mod_mod])
theorem wb_shr {n k : Nat} (hn : n < 2 ^ 64) (hk : k < 64) : ((lN n).toUInt64 >>> ((nI k).toInt64.toUInt64 &&& Int64.toUInt64 63)).toInt64 = lN (n / 2 ^ k) := by
  rw [wb_cu k hk]
  apply wb_inj
  apply BitVec.eq_of_toNat_eq
  show ((lN n).toUInt64 >>> UInt64.ofNat k).toNat = (BitVec.ofNat 64 _).toNat
  have h1 : (UInt64.ofNat k).toNat = k := by
    show (BitVec.ofNat 64 k).toNat = k
    rw [BitVec.toNat_ofNat, Nat.mod_eq_of_lt (by omega)]
  have h2 : (lN n).toUInt64.toNat = n := wb_tn hn
  rw [UInt64.toNat_shiftRight, h1, h2, Nat.mod_eq_of_lt hk, Nat.shiftRight_eq_div_pow, BitVec.toNat_ofNat, Nat.mod_eq_of_lt (Nat.lt_of_le_of_lt (Nat.div_le_self _ _) hn)]
theorem wb_shl (n : Nat) {k : Nat} (hk : k < 64) : lN n <<< ((nI k).toInt64 &&& 63) = lN (n * 2 ^ k) := by
  rw [wb_c k hk]
  apply wb_inj
  rw [Int64.toBitVec_shiftLeft, wb_tb, wb_tb, wb_tb, wb_sm k hk]
  apply BitVec.eq_of_toNat_eq
  rw [BitVec.shiftLeft_eq', BitVec.toNat_shiftLeft, BitVec.toNat_ofNat, BitVec.toNat_ofNat, BitVec.toNat_ofNat, Nat.mod_eq_of_lt (show k < 2 ^ 64 by omega), Nat.shiftLeft_eq, Nat.mul_mod, Nat.mod_mod, ← Nat.mul_mod]
theorem wb_and {a b : Nat} (ha : a < 2 ^ 64) (hb : b < 2 ^ 64) : lN a &&& lN b = lN (a &&& b) := by
  apply wb_inj
  rw [Int64.toBitVec_and, wb_tb, wb_tb, wb_tb]
  apply BitVec.eq_of_toNat_eq
  rw [BitVec.toNat_and, BitVec.toNat_ofNat, BitVec.toNat_ofNat, BitVec.toNat_ofNat, Nat.mod_eq_of_lt ha, Nat.mod_eq_of_lt hb, Nat.mod_eq_of_lt (Nat.and_lt_two_pow _ hb)]
theorem wb_or {a b : Nat} (ha : a < 2 ^ 64) (hb : b < 2 ^ 64) : lN a ||| lN b = lN (a ||| b) := by
  apply wb_inj
  rw [Int64.toBitVec_or, wb_tb, wb_tb, wb_tb]
  apply BitVec.eq_of_toNat_eq
  rw [BitVec.toNat_or, BitVec.toNat_ofNat, BitVec.toNat_ofNat, BitVec.toNat_ofNat, Nat.mod_eq_of_lt ha, Nat.mod_eq_of_lt hb, Nat.mod_eq_of_lt (Nat.or_lt_two_pow ha hb)]
theorem wb_mask {n k : Nat} (hn : n < 2 ^ 64) (hk : k < 64) : lN n &&& lN (2 ^ k - 1) = lN (n % 2 ^ k) := by
  rw [wb_and hn (by have := wb_lt2 hk; omega), Nat.and_two_pow_sub_one_eq_mod]
theorem lN_bv (n : Nat) : (lN n).toBitVec = BitVec.ofNat 64 n := rfl
theorem lN_xor (a b : Nat) : lN a ^^^ lN b = lN (a ^^^ b) := by
  apply Int64.toBitVec_inj.mp; rw [Int64.toBitVec_xor, lN_bv, lN_bv, lN_bv]; apply BitVec.eq_of_getLsbD_eq; intro i hi; simp [BitVec.getLsbD_ofNat, Nat.testBit_xor, hi]
/-! fields of w bits -/
def pf_F (w n j : Nat) : Nat := n / 2 ^ (w * j) % 2 ^ w
theorem pf_lt (w n j : Nat) : pf_F w n j < 2 ^ w := Nat.mod_lt _ (Nat.two_pow_pos w)
theorem pf_0 (w j : Nat) : pf_F w 0 j = 0 := by unfold pf_F; rw [Nat.zero_div, Nat.zero_mod]
theorem pf_sh (w v i j : Nat) (hv : v < 2 ^ w) : v * 2 ^ (w * i) / 2 ^ (w * j) % 2 ^ w = if j = i then v else 0 := by
  by_cases e : j = i
  · subst e
    rw [if_pos rfl, Nat.mul_div_cancel _ (Nat.two_pow_pos _), Nat.mod_eq_of_lt hv]
  · rw [if_neg e]
    rcases Nat.lt_or_ge j i with l | l
    · obtain ⟨t, rfl⟩ : ∃ t, i = j + 1 + t := ⟨i - j - 1, by omega⟩
      have e2 : v * 2 ^ (w * (j + 1 + t)) = v * 2 ^ (w * t) * 2 ^ w * 2 ^ (w * j) := by
        have e3 : w * (j + 1 + t) = w * t + (w + w * j) := by rw [Nat.mul_add, Nat.mul_add, Nat.mul_one]; omega
        rw [e3, Nat.pow_add, Nat.pow_add, Nat.mul_assoc, Nat.mul_assoc]
      rw [e2, Nat.mul_div_cancel _ (Nat.two_pow_pos _), Nat.mul_mod_left]
    · have hlt : i + 1 ≤ j := by omega
      have h1 : v * 2 ^ (w * i) < 2 ^ w * 2 ^ (w * i) := Nat.mul_lt_mul_of_pos_right hv (Nat.two_pow_pos _)
      have h2 : 2 ^ w * 2 ^ (w * i) ≤ 2 ^ (w * j) := by
        rw [← Nat.pow_add]
        have := Nat.mul_le_mul_left w hlt
        rw [Nat.mul_add, Nat.mul_one] at this
        exact Nat.pow_le_pow_right (by decide) (by omega)
      rw [Nat.div_eq_of_lt (Nat.lt_of_lt_of_le h1 h2), Nat.zero_mod]
theorem pf_or (w n v i j : Nat) (hv : v < 2 ^ w) : pf_F w (n ||| v * 2 ^ (w * i)) j = pf_F w n j ||| (if j = i then v else 0) := by
  unfold pf_F
  rw [← pf_sh w v i j hv, ← Nat.shiftRight_eq_div_pow, ← Nat.shiftRight_eq_div_pow, ← Nat.shiftRight_eq_div_pow, Nat.shiftRight_or_distrib, Nat.or_mod_two_pow]
theorem lf_field {post : Int32 → Prop} {n j : Nat} (hn : n < 2 ^ 64) (hj : j < 4) (h : post (nI (pf_F 16 n j))) : wpL_field post () (lN n) (nI j) := by
  unfold wpL_field
  rw [show (16 : Int32) * nI j = nI (16 * j) from pk_mul 16 j, wb_shr hn (by omega), show (65535 : Int64) = lN (2 ^ 16 - 1) from rfl, wb_mask (Nat.lt_of_le_of_lt (Nat.div_le_self _ _) hn) (by decide), lN_i]
  exact h
def pf_has (n : Nat) (x : Int32) : Prop := ∃ j, j < 4 ∧ nI (pf_F 16 n j) = x
theorem lf_hasL {post : Int32 → Prop} {n : Nat} {x : Int32} (hn : n < 2 ^ 64) : ∀ d j, j + d = 4 → ((∃ i, j ≤ i ∧ i < 4 ∧ nI (pf_F 16 n i) = x) → post 1) → ((∀ i, j ≤ i → i < 4 → ¬ nI (pf_F 16 n i) = x) → post 0) → wL_has_2 post (lN n) x (d + 1) (nI j) := by
  intro d
  induction d with
  | zero =>
    intro j hj _ h0
    have e : j = 4 := by omega
    subst e
    exact br_t (by decide) (h0 (fun i a b => by omega))
  | succ d ih =>
    intro j hj h1 h0
    refine br_f (nI_ge (b := 4) (by omega) (by decide)) (lf_field hn (by omega) ?_)
    by_cases c : nI (pf_F 16 n j) = x
    · exact br_t c (h1 ⟨j, Nat.le_refl j, by omega, c⟩)
    · refine br_f c (nm_r (nI_1 j) (ih (j + 1) (by omega) (fun ⟨i, a, b, e⟩ => h1 ⟨i, by omega, b, e⟩) (fun hh => h0 (fun i a b => ?_))))
      by_cases e : i = j
      · subst e; exact c
      · exact hh i (by omega) b
theorem lf_has {post : Int32 → Prop} {n : Nat} {x : Int32} (hn : n < 2 ^ 64) (h1 : pf_has n x → post 1) (h0 : ¬ pf_has n x → post 0) : wpL_has post () (lN n) x :=
  ⟨5, lf_hasL hn 4 0 rfl (fun ⟨i, _, b, e⟩ => h1 ⟨i, b, e⟩) (fun hh => h0 (fun ⟨i, b, e⟩ => hh i (Nat.zero_le i) b e))⟩
theorem lf_fitsL {post : Int32 → Prop} {n : Nat} (hn : n < 2 ^ 64) (h0 : post 0) : ∀ d j, j + d = 4 → ((∃ i, i < 4 ∧ pf_F 16 n i = 0) → post 1) → wL_fits_12 post (lN n) (d + 1) (nI j) := by
  intro d
  induction d with
  | zero =>
    intro j hj _
    have e : j = 4 := by omega
    subst e
    exact br_t (by decide) h0
  | succ d ih =>
    intro j hj h1
    refine br_f (nI_ge (b := 4) (by omega) (by decide)) (lf_field hn (by omega) ?_)
    have hl := pf_lt 16 n j
    by_cases c : pf_F 16 n j = 0
    · exact br_t (by rw [c]; rfl) (h1 ⟨j, by omega, c⟩)
    · exact br_f (nI_ne0 (by omega) (by omega)) (nm_r (nI_1 j) (ih (j + 1) (by omega) h1))
theorem lf_fits {post : Int32 → Prop} {n : Nat} {x : Int32} (hn : n < 2 ^ 64) (h1 : (pf_has n x ∨ ∃ i, i < 4 ∧ pf_F 16 n i = 0) → post 1) (h0 : post 0) : wpL_fits post () (lN n) x := by
  unfold wpL_fits
  exact lf_has hn (fun c => br_f (by decide) (h1 (Or.inl c))) (fun _ => br_t rfl ⟨5, lf_fitsL hn h0 4 0 rfl (fun c => h1 (Or.inr c))⟩)
theorem lf_putL {post : Int64 → Prop} {n v : Nat} (hn : n < 2 ^ 64) (hv : v < 65536) (h : ∀ n', n' < 2 ^ 64 → pf_has n' (nI v) → (∀ y : Int32, ¬ y = 0 → pf_has n y → pf_has n' y) → post (lN n')) : ∀ d j, j + d = 4 → (∃ i, j ≤ i ∧ i < 4 ∧ pf_F 16 n i = 0) → wL_put_12 post (lN n) (nI v) (d + 1) (nI j) := by
  intro d
  induction d with
  | zero =>
    intro j hj hz
    obtain ⟨i, a, b, _⟩ := hz
    omega
  | succ d ih =>
    intro j hj hz
    refine br_f (nI_ge (b := 4) (by omega) (by decide)) (lf_field hn (by omega) ?_)
    have hl := pf_lt 16 n j
    by_cases c : pf_F 16 n j = 0
    · refine br_t (by rw [c]; rfl) ?_
      have hm : v * 2 ^ (16 * j) < 2 ^ 64 := by
        have a : v * 2 ^ (16 * j) < 2 ^ 16 * 2 ^ (16 * j) := Nat.mul_lt_mul_of_pos_right hv (Nat.two_pow_pos _)
        have b : 2 ^ 16 * 2 ^ (16 * j) ≤ 2 ^ 64 := by
          rw [← Nat.pow_add]
          exact Nat.pow_le_pow_right (by decide) (by omega)
        exact Nat.lt_of_lt_of_le a b
      rw [nI_l (by omega), show (16 : Int32) * nI j = nI (16 * j) from pk_mul 16 j, wb_shl _ (by omega), wb_or hn hm]
      refine h _ (Nat.or_lt_two_pow hn hm) ⟨j, by omega, ?_⟩ (fun y hy hh => ?_)
      · rw [pf_or 16 n v j j hv, c, if_pos rfl, Nat.zero_or]
      · obtain ⟨i, hi, e⟩ := hh
        refine ⟨i, hi, ?_⟩
        rw [pf_or 16 n v j i hv]
        by_cases ij : i = j
        · subst ij
          rw [c] at e
          exact absurd e.symm hy
        · rw [if_neg ij, Nat.or_zero]; exact e
    · refine br_f (nI_ne0 (by omega) (by omega)) (nm_r (nI_1 j) (ih (j + 1) (by omega) ?_))
      obtain ⟨i, a, b, z⟩ := hz
      refine ⟨i, ?_, b, z⟩
      rcases Nat.lt_or_ge j i with l | l
      · exact l
      · have : i = j := by omega
        subst this
        exact absurd z c
theorem lf_put {post : Int64 → Prop} {n v : Nat} (hn : n < 2 ^ 64) (hv : v < 65536) (hz : pf_has n (nI v) ∨ ∃ i, i < 4 ∧ pf_F 16 n i = 0) (h : ∀ n', n' < 2 ^ 64 → pf_has n' (nI v) → (∀ y : Int32, ¬ y = 0 → pf_has n y → pf_has n' y) → post (lN n')) : wpL_put post () (lN n) (nI v) := by
  unfold wpL_put
  refine lf_has hn (fun c => br_f (by decide) (h n hn c (fun y _ hh => hh))) (fun c => br_t rfl ⟨5, lf_putL hn hv h 4 0 rfl ?_⟩)
  rcases hz with a | ⟨i, b, z⟩
  · exact absurd a c
  · exact ⟨i, Nat.zero_le i, b, z⟩
/-! the script's cells, and remainders made positive -/
theorem lf_cell {post : Int32 → Prop} {L : Nat} {xs : Nat → Int32} (hL : L ≤ 260) {i : Nat} (hi : i < 2 ^ 30) (h : ∀ r, post r) : wpL_cell post L xs () (nI i) := by
  unfold wpL_cell
  by_cases c : L ≤ i
  · exact br_t (nI_le c (by omega)) (h 0)
  · exact br_f (nI_ge (by omega) (by omega)) ⟨vp_in_nI (by omega) (by omega), h _⟩
theorem lf_pos {post : Int32 → Prop} {a : Int32} {M : Nat} (h0 : 0 < M) (hM : M < 2 ^ 30) (h : ∀ t, t < M → post (nI t)) : wpL_pos post () a (nI M) := by
  unfold wpL_pos
  have eM : (nI M).toInt = (M : Int) := nI_toInt (by omega)
  have e0 : (0 : Int32).toInt = 0 := by decide
  refine ⟨nI_ne0 h0 (by omega), fun x ex => ?_⟩
  have hx : x.toInt = a.toInt.tmod M := by
    rw [ex, irem_eq_mod, Int32.toInt_mod, eM]
  have hlt : x.toInt < M := by
    rw [hx]
    exact Int.tmod_lt_of_pos _ (by omega)
  have hgt : -(M : Int) < x.toInt := by
    rw [hx]
    exact Int.lt_tmod_of_pos _ (by omega)
  by_cases c : 0 ≤ x
  · obtain ⟨t, ht, e⟩ := nI_of (x := x) (Int32.not_lt.mpr c)
    refine br_t c ?_
    rw [e, nI_toInt ht] at hlt
    rw [e]
    exact h t (by omega)
  · refine br_f c ?_
    have hneg : x.toInt < 0 := by
      rw [Int32.le_iff_toInt_le, e0] at c
      omega
    have es : (x + nI M).toInt = x.toInt + M := by
      rw [Int32.toInt_add, eM]
      exact Int.bmod_eq_of_le (by omega) (by omega)
    have hn : ¬ x + nI M < 0 := by
      rw [Int32.lt_iff_toInt_lt, es, e0]
      omega
    obtain ⟨t, ht, e⟩ := nI_of hn
    rw [e, nI_toInt ht] at es
    rw [e]
    exact h t (by omega)
end PG13
end
section
section PG14
abbrev lq_91 : Type := Int64 → Int64 → Int64 → Int64 → Int64 → Int32 → Int32 → Int32 → Int32 → Int32 → Int32 → Int32 → (Nat → Int32) → (Nat → Int32) → (Nat → Int32) → (Nat → Int32) → (Nat → Int32) → (Nat → Int32) → (Nat → Int32) → (Nat → Int32) → (Nat → Int32) → (Nat → Int32) → (Nat → Int32) → (Nat → Int32) → (Nat → Int32) → (Nat → Int32) → (Nat → Int32) → (Nat → Int32) → (Nat → Int32) → (Nat → Int32) → (Nat → Int32) → Prop
abbrev lq_548 : Type := Int64 → Int64 → Int64 → Int64 → Int64 → Int32 → Int32 → Int32 → Int32 → Prop
variable {f_rings f_high f_low : Int32} {a_crashed a_config a_members a_newestCut a_reports a_votes a_myVote a_promised a_acceptedRound a_acceptedValue a_ownRound a_phase a_promisers a_promiserRound a_promiserValue a_learnedRound a_learnedFrom a_learnedValue a_slots : Nat → Int32}
variable {post : Int32 → Prop} {L : Nat} {xs : Nat → Int32} {J91 : lq_91} {x1 x3 x4 kn ov x18 x19 : Int32} {kc ks : Nat}
/-! the record: members and cuts by configuration, proposals by configuration -/
def lq_ps (p0 p1 p2 c : Nat) : Nat := if c = 0 then p0 else if c = 1 then p1 else p2
def lq_ag (A B c : Nat) : Nat := if c < 2 then A else B
def lq_lo (x : Int32) : Nat := x.toBitVec.toNat % 2 ^ 16
theorem lq_lo_e (x : Int32) : x &&& 65535 = nI (lq_lo x) := pk_and x 16 (by decide)
theorem lq_lo_lt (x : Int32) : lq_lo x < 65536 := Nat.mod_lt _ (by decide)
def lq_rec (g : pg_G) (c : Nat) : Nat := lq_lo (pg_M g c) ||| lq_lo (pg_C g c) * 2 ^ (16 * 1)
theorem lq_rec_lo (g : pg_G) (c : Nat) : lq_rec g c % 65536 = lq_lo (pg_M g c) := by
  have h := pf_or 16 (lq_lo (pg_M g c)) (lq_lo (pg_C g c)) 1 0 (lq_lo_lt _)
  unfold pf_F at h
  rw [if_neg (by omega), Nat.or_zero, Nat.mul_zero, Nat.pow_zero, Nat.div_one, Nat.div_one, Nat.mod_eq_of_lt (lq_lo_lt (pg_M g c))] at h
  exact h
theorem lq_rec_lt (g : pg_G) (c : Nat) : lq_rec g c < 2 ^ 32 := by
  have a := lq_lo_lt (pg_M g c)
  have b := lq_lo_lt (pg_C g c)
  refine Nat.or_lt_two_pow (by omega) ?_
  show lq_lo (pg_C g c) * 65536 < 4294967296
  omega
def lq_R (KN : Nat → Prop) (g : pg_G) (WT : Nat → Int32 → Prop) (A B p0 p1 p2 : Nat) (kn ov : Int32) : Prop :=
  A < 2 ^ 64 ∧ B < 2 ^ 64 ∧ p0 < 2 ^ 64 ∧ p1 < 2 ^ 64 ∧ p2 < 2 ^ 64 ∧ (∀ c, c ≤ 3 → (bt kn c = true ↔ KN c)) ∧
  (∀ c, c ≤ 3 → (KN c → pf_F 32 (lq_ag A B c) (c % 2) = lq_rec g c) ∧ (¬ KN c → pf_F 32 (lq_ag A B c) (c % 2) = 0)) ∧
  (∀ c, c ≤ 2 → bt ov c = true ∨ ∀ x, WT c x → pf_has (lq_ps p0 p1 p2 c) x)
theorem la_497 {J : Int32 → Prop} {x6 x8 x10 x12 x14 : Int64} {x22 : Int32} {p pc n m : Nat} (hp : p < 16) (hc : pc < 4) (hn : n < 2 ^ 64) (hm : n / 2 ^ (32 * (pc % 2)) % 65536 = m) (he : a_members p &&& 65535 = nI m ^^^ (x22 &&& 65535)) (hJ : J (nI (p + 1))) :
    wL_law_497 post L xs J91 J x1 x3 x4 x6 x8 x10 x12 x14 kn ov x18 x19 (nI p) x22 (nI pc) (lN n) kc ks f_rings f_high f_low a_crashed a_config a_members a_newestCut a_reports a_votes a_myVote a_promised a_acceptedRound a_acceptedValue a_ownRound a_phase a_promisers a_promiserRound a_promiserValue a_learnedRound a_learnedFrom a_learnedValue a_slots := by
  unfold wL_law_497
  have e1 : (32 : Int32) * (nI pc &&& 1) = nI (32 * (pc % 2)) := by
    rw [pk_andN (n := pc) (by omega) (m := 1) 1 (by decide)]
    exact pk_mul 32 (pc % 2 ^ 1)
  rw [e1, wb_shr hn (by omega), show (65535 : Int64) = lN (2 ^ 16 - 1) from rfl, wb_mask (Nat.lt_of_le_of_lt (Nat.div_le_self _ _) hn) (by decide)]
  refine nm_r (e' := lN m) (congrArg lN hm) (sw_mem hp ?_)
  have e2 : a_members p &&& 65535 = (lN m ^^^ (x22 &&& 65535).toInt64).toInt32 := by
    rw [he, lq_lo_e x22, nI_l (by have := lq_lo_lt x22; omega), lN_xor, lN_i, nx_xor]
  exact br_t e2 (nm_r (nI_1 p) hJ)
theorem la_484 {J : Int32 → Prop} {A B : Nat} {x10 x12 x14 : Int64} {x22 : Int32} {p pc m : Nat} (hp : p < 16) (hc : pc < 4) (hA : A < 2 ^ 64) (hB : B < 2 ^ 64) (hm : lq_ag A B pc / 2 ^ (32 * (pc % 2)) % 65536 = m) (he : a_members p &&& 65535 = nI m ^^^ (x22 &&& 65535)) (hJ : J (nI (p + 1))) :
    wL_law_484 post L xs J91 J x1 x3 x4 (lN A) (lN B) x10 x12 x14 kn ov x18 x19 (nI p) x22 (nI pc) kc ks f_rings f_high f_low a_crashed a_config a_members a_newestCut a_reports a_votes a_myVote a_promised a_acceptedRound a_acceptedValue a_ownRound a_phase a_promisers a_promiserRound a_promiserValue a_learnedRound a_learnedFrom a_learnedValue a_slots := by
  unfold lq_ag at hm
  by_cases c : pc < 2
  · rw [if_pos c] at hm
    exact br_f (nI_ge (b := 2) c (by decide)) (la_497 hp hc hA hm he hJ)
  · rw [if_neg c] at hm
    exact br_t (nI_le (a := 2) (by omega) (by omega)) (la_497 hp hc hB hm he hJ)
theorem la_460 {J : Int32 → Prop} {A B : Nat} {x10 x12 x14 : Int64} {x22 : Int32} {p pc m n : Nat} (hp : p < 16) (hc : pc < 4) (hA : A < 2 ^ 64) (hB : B < 2 ^ 64) (hn : n < 2 ^ 64) (ho : bt ov pc = true ∨ pf_has n x22) (hm : lq_ag A B pc / 2 ^ (32 * (pc % 2)) % 65536 = m) (he : a_members p &&& 65535 = nI m ^^^ (x22 &&& 65535)) (hJ : J (nI (p + 1))) :
    wL_law_460 post L xs J91 J x1 x3 x4 (lN A) (lN B) x10 x12 x14 kn ov x18 x19 (nI p) x22 (nI pc) (lN n) kc ks f_rings f_high f_low a_crashed a_config a_members a_newestCut a_reports a_votes a_myVote a_promised a_acceptedRound a_acceptedValue a_ownRound a_phase a_promisers a_promiserRound a_promiserValue a_learnedRound a_learnedFrom a_learnedValue a_slots := by
  have H := la_484 (post := post) (L := L) (xs := xs) (J91 := J91) (x1 := x1) (x3 := x3) (x4 := x4) (kn := kn) (ov := ov) (x18 := x18) (x19 := x19) (kc := kc) (ks := ks) (x10 := x10) (x12 := x12) (x14 := x14) (f_rings := f_rings) (f_high := f_high) (f_low := f_low) (a_crashed := a_crashed) (a_config := a_config) (a_newestCut := a_newestCut) (a_reports := a_reports) (a_votes := a_votes) (a_myVote := a_myVote) (a_promised := a_promised) (a_acceptedRound := a_acceptedRound) (a_acceptedValue := a_acceptedValue) (a_ownRound := a_ownRound) (a_phase := a_phase) (a_promisers := a_promisers) (a_promiserRound := a_promiserRound) (a_promiserValue := a_promiserValue) (a_learnedRound := a_learnedRound) (a_learnedFrom := a_learnedFrom) (a_learnedValue := a_learnedValue) (a_slots := a_slots) hp hc hA hB hm he hJ
  refine br_c (fun z => ?_) (fun _ => H)
  have z := (cd_has (by omega)).mp z
  rcases ho with o | o
  · rw [z] at o; exact absurd o (by decide)
  · exact lf_has hn (fun _ => br_f (by decide) H) (fun c => absurd o c)
theorem la_A {A B p0 p1 p2 : Nat} (hA : A < 2 ^ 64) (hB : B < 2 ^ 64) (h0 : p0 < 2 ^ 64) (h1 : p1 < 2 ^ 64) (h2 : p2 < 2 ^ 64)
    (H : ∀ p, p < 16 → ∃ c, c ≤ 300 ∧ a_config p = nI c ∧ (1 ≤ c → c ≤ 3 → ¬ a_newestCut p = 0 ∧ bt kn (c - 1) = true ∧ (bt ov (c - 1) = true ∨ pf_has (lq_ps p0 p1 p2 (c - 1)) (a_newestCut p)) ∧ ∃ m, lq_ag A B (c - 1) / 2 ^ (32 * ((c - 1) % 2)) % 65536 = m ∧ a_members p &&& 65535 = nI m ^^^ (a_newestCut p &&& 65535)))
    (hE : ∃ fu, wL_law_548 post L xs J91 x1 x3 x4 x18 x19 kc ks f_rings f_high f_low a_crashed a_config a_members a_newestCut a_reports a_votes a_myVote a_promised a_acceptedRound a_acceptedValue a_ownRound a_phase a_promisers a_promiserRound a_promiserValue a_learnedRound a_learnedFrom a_learnedValue a_slots fu (lN A) (lN B) (lN p0) (lN p1) (lN p2) kn ov 0 0) :
    ∀ d p, p + d = 16 → wL_law_375 post L xs J91 x1 x3 x4 (lN A) (lN B) (lN p0) (lN p1) (lN p2) kn ov x18 x19 kc ks f_rings f_high f_low a_crashed a_config a_members a_newestCut a_reports a_votes a_myVote a_promised a_acceptedRound a_acceptedValue a_ownRound a_phase a_promisers a_promiserRound a_promiserValue a_learnedRound a_learnedFrom a_learnedValue a_slots (d + 1) (nI p) := by
  intro d
  induction d with
  | zero =>
    intro p hp
    exact br_t (cd_at16 (by omega)) hE
  | succ d ih =>
    intro p hp
    have ih := ih (p + 1) (by omega)
    have hp16 : p < 16 := by omega
    obtain ⟨c, hc, ec, hh⟩ := H p hp16
    refine br_f (cd_ge16 hp16) (sw_cfg hp16 ?_)
    rw [ec]
    by_cases c1 : c < 1
    · exact br_t (nI_lt (b := 1) c1 (by decide)) (nm_r (nI_1 p) ih)
    refine br_f (nI_nlt (b := 1) (by omega) (by omega)) ?_
    by_cases c3 : 3 < c
    · exact br_t (nI_lt (a := 3) c3 (by omega)) (nm_r (nI_1 p) ih)
    refine br_f (nI_nlt (a := 3) (b := c) (by omega) (by decide)) (sw_cut hp16 ?_)
    obtain ⟨g1, g2, g3, m, g4, g5⟩ := hh (by omega) (by omega)
    obtain ⟨pc, rfl⟩ : ∃ pc, c = pc + 1 := ⟨c - 1, by omega⟩
    rw [Nat.add_sub_cancel] at g2 g3 g4
    refine br_f g1 (nm_r (nI_pred pc) ?_)
    refine br_f ((cd_hasn (by omega)).mpr g2) ?_
    by_cases e0 : pc = 0
    · subst e0
      exact br_t rfl (la_460 hp16 (by omega) hA hB h0 g3 g4 g5 ih)
    refine br_f (nI_ne0 (by omega) (by omega)) ?_
    by_cases e1 : pc = 1
    · subst e1
      exact br_t rfl (la_460 hp16 (by omega) hA hB h1 g3 g4 g5 ih)
    have e2 : pc = 2 := by omega
    subst e2
    exact br_f (by decide) (la_460 hp16 (by omega) hA hB h2 g3 g4 g5 ih)
end PG14
end
section
section PG15
variable {f_rings f_high f_low : Int32} {a_crashed a_config a_members a_newestCut a_reports a_votes a_myVote a_promised a_acceptedRound a_acceptedValue a_ownRound a_phase a_promisers a_promiserRound a_promiserValue a_learnedRound a_learnedFrom a_learnedValue a_slots : Nat → Int32}
variable {post : Int32 → Prop} {L : Nat} {xs : Nat → Int32} {J91 : lq_91} {J : lq_548} {x1 x3 x4 kn ov x18 x19 now : Int32} {kc ks : Nat} {g : pg_G} {KN : Nat → Prop} {WT : Nat → Int32 → Prop} {A B p0 p1 p2 q : Nat}
theorem lb_R_wt {WT' : Nat → Int32 → Prop} (R : lq_R KN g WT A B p0 p1 p2 kn ov) (h : ∀ c, c ≤ 2 → ∀ x, WT' c x → WT c x) : lq_R KN g WT' A B p0 p1 p2 kn ov := by
  obtain ⟨r1, r2, r3, r4, r5, r6, r7, r8⟩ := R
  refine ⟨r1, r2, r3, r4, r5, r6, r7, fun c hc => ?_⟩
  rcases r8 c hc with a | a
  · exact Or.inl a
  · exact Or.inr (fun x hx => a x (h c hc x hx))
theorem lb_839 {WT' : Nat → Int32 → Prop} (R : lq_R KN g WT A B p0 p1 p2 kn ov) {c v : Nat} (hc : c ≤ 2) (hv1 : 1 ≤ v) (hv2 : v ≤ 65535) (hW0 : ∀ c' x, WT c' x → ¬ x = 0) (hW : ∀ c', c' ≤ 2 → ∀ x, WT' c' x → WT c' x ∨ (c' = c ∧ x = nI v))
    (hJ : ∀ p0' p1' p2' ov', lq_R KN g WT' A B p0' p1' p2' kn ov' → J (lN A) (lN B) (lN p0') (lN p1') (lN p2') kn ov' now (nI (q + 1))) :
    wL_law_839 post L xs J91 J x1 x3 x4 (lN A) (lN B) (lN p0) (lN p1) (lN p2) kn ov x18 x19 now (nI q) (nI c) (nI v) (lN (lq_ps p0 p1 p2 c)) kc ks f_rings f_high f_low a_crashed a_config a_members a_newestCut a_reports a_votes a_myVote a_promised a_acceptedRound a_acceptedValue a_ownRound a_phase a_promisers a_promiserRound a_promiserValue a_learnedRound a_learnedFrom a_learnedValue a_slots := by
  obtain ⟨r1, r2, r3, r4, r5, r6, r7, r8⟩ := R
  have hn : lq_ps p0 p1 p2 c < 2 ^ 64 := by
    unfold lq_ps
    split
    · exact r3
    · split
      · exact r4
      · exact r5
  refine lf_fits hn (fun hz => br_f (by decide) (lf_put hn (by omega) hz (fun n' hn' hin hkeep => ?_))) (br_t rfl (nm_e (nm_r (nI_1 q) (hJ p0 p1 p2 _ ⟨r1, r2, r3, r4, r5, r6, r7, fun c' hc' => ?_⟩))))
  · have key : ∀ p0' p1' p2', p0' < 2 ^ 64 → p1' < 2 ^ 64 → p2' < 2 ^ 64 → (∀ c', c' ≤ 2 → lq_ps p0' p1' p2' c' = if c' = c then n' else lq_ps p0 p1 p2 c') → lq_R KN g WT' A B p0' p1' p2' kn ov := by
      intro p0' p1' p2' q0 q1 q2 he
      refine ⟨r1, r2, q0, q1, q2, r6, r7, fun c' hc' => ?_⟩
      rcases r8 c' hc' with a | a
      · exact Or.inl a
      · refine Or.inr (fun x hx => ?_)
        rw [he c' hc']
        by_cases e : c' = c
        · rw [if_pos e]
          rcases hW c' hc' x hx with w | w
          · have w2 := a x w
            rw [e] at w2
            exact hkeep x (hW0 c' x w) w2
          · rw [w.2]; exact hin
        · rw [if_neg e]
          rcases hW c' hc' x hx with w | w
          · exact a x w
          · exact absurd w.1 e
    by_cases e0 : c = 0
    · subst e0
      refine br_t rfl (nm_r (nI_1 q) (hJ n' p1 p2 ov (key n' p1 p2 hn' r4 r5 (fun c' hc' => ?_))))
      unfold lq_ps
      by_cases z : c' = 0
      · rw [if_pos z, if_pos z]
      · rw [if_neg z, if_neg z, if_neg z]
    refine br_f (nI_ne0 (by omega) (by omega)) ?_
    by_cases e1 : c = 1
    · subst e1
      refine br_t rfl (nm_r (nI_1 q) (hJ p0 n' p2 ov (key p0 n' p2 r3 hn' r5 (fun c' hc' => ?_))))
      unfold lq_ps
      by_cases z : c' = 0
      · rw [if_pos z, if_neg (by omega), if_pos z]
      · rw [if_neg z]
        by_cases z1 : c' = 1
        · rw [if_pos z1, if_pos z1]
        · rw [if_neg z1, if_neg z1, if_neg z, if_neg z1]
    have e2 : c = 2 := by omega
    subst e2
    refine br_f (by decide) (nm_r (nI_1 q) (hJ p0 p1 n' ov (key p0 p1 n' r3 r4 hn' (fun c' hc' => ?_))))
    unfold lq_ps
    by_cases z : c' = 0
    · rw [if_pos z, if_neg (by omega), if_pos z]
    · rw [if_neg z]
      by_cases z1 : c' = 1
      · rw [if_pos z1, if_neg (by omega), if_neg z, if_pos z1]
      · rw [if_neg z1, if_pos (by omega)]
  · by_cases e : c' = c
    · refine Or.inl ?_
      rw [b_or, e, cd_shl1 c (by omega) (by omega), decide_eq_true rfl, Bool.or_true]
    · rcases r8 c' hc' with a | a
      · refine Or.inl ?_
        rw [b_or, a, Bool.true_or]
      · refine Or.inr (fun x hx => ?_)
        rcases hW c' hc' x hx with w | w
        · exact a x w
        · exact absurd w.1 e
theorem lb_792 {WT' : Nat → Int32 → Prop} (R : lq_R KN g WT A B p0 p1 p2 kn ov) {c v : Nat} (hc : c ≤ 300) (hv1 : 1 ≤ v) (hv2 : v ≤ 65535) (hW0 : ∀ c' x, WT c' x → ¬ x = 0) (hW : ∀ c', c' ≤ 2 → ∀ x, WT' c' x → WT c' x ∨ (c' = c ∧ x = nI v))
    (hJ : ∀ p0' p1' p2' ov', lq_R KN g WT' A B p0' p1' p2' kn ov' → J (lN A) (lN B) (lN p0') (lN p1') (lN p2') kn ov' now (nI (q + 1))) :
    wL_law_792 post L xs J91 J x1 x3 x4 (lN A) (lN B) (lN p0) (lN p1) (lN p2) kn ov x18 x19 now (nI q) (nI c) (nI v) kc ks f_rings f_high f_low a_crashed a_config a_members a_newestCut a_reports a_votes a_myVote a_promised a_acceptedRound a_acceptedValue a_ownRound a_phase a_promisers a_promiserRound a_promiserValue a_learnedRound a_learnedFrom a_learnedValue a_slots := by
  refine br_f (nI_pos (by omega)) ?_
  by_cases c2 : 2 < c
  · refine br_t (nI_lt (a := 2) c2 (by omega)) (nm_r (nI_1 q) (hJ p0 p1 p2 ov (lb_R_wt R (fun c' hc' x hx => ?_))))
    rcases hW c' hc' x hx with w | w
    · exact w
    · omega
  refine br_f (nI_nlt (a := 2) (b := c) (by omega) (by decide)) (br_f (nI_nlt (b := 1) (by omega) (by omega)) (br_f (nI_nlt (a := 65535) (b := v) (by omega) (by decide)) ?_))
  have H := lb_839 (post := post) (L := L) (xs := xs) (J91 := J91) (x1 := x1) (x3 := x3) (x4 := x4) (x18 := x18) (x19 := x19) (kc := kc) (ks := ks) (f_rings := f_rings) (f_high := f_high) (f_low := f_low) (a_crashed := a_crashed) (a_config := a_config) (a_members := a_members) (a_newestCut := a_newestCut) (a_reports := a_reports) (a_votes := a_votes) (a_myVote := a_myVote) (a_promised := a_promised) (a_acceptedRound := a_acceptedRound) (a_acceptedValue := a_acceptedValue) (a_ownRound := a_ownRound) (a_phase := a_phase) (a_promisers := a_promisers) (a_promiserRound := a_promiserRound) (a_promiserValue := a_promiserValue) (a_learnedRound := a_learnedRound) (a_learnedFrom := a_learnedFrom) (a_learnedValue := a_learnedValue) (a_slots := a_slots) R (show c ≤ 2 by omega) hv1 hv2 hW0 hW hJ
  unfold lq_ps at H
  by_cases e0 : c = 0
  · subst e0
    exact br_t rfl H
  refine br_f (nI_ne0 (by omega) (by omega)) ?_
  rw [if_neg e0] at H
  by_cases e1 : c = 1
  · subst e1
    exact br_t rfl H
  rw [if_neg e1] at H
  have e2 : c = 2 := by omega
  subst e2
  exact br_f (by decide) H
theorem lb_732 {c v m : Nat} (hq : q < 16) (e : cd_st a_reports (q * 16) x3 x4 16 = some (nI v))
    (H : wL_law_792 post L xs J91 J x1 x3 x4 (lN A) (lN B) (lN p0) (lN p1) (lN p2) kn ov x18 x19 now (nI q) (nI c) (nI v) kc ks f_rings f_high f_low a_crashed a_config a_members a_newestCut a_reports a_votes a_myVote a_promised a_acceptedRound a_acceptedValue a_ownRound a_phase a_promisers a_promiserRound a_promiserValue a_learnedRound a_learnedFrom a_learnedValue a_slots) :
    ∀ d s m, s + d = 16 → cd_st a_reports (q * 16) x3 x4 s = some m → wL_law_732 post L xs J91 J x1 x3 x4 (lN A) (lN B) (lN p0) (lN p1) (lN p2) kn ov x18 x19 now (nI q) (nI c) (nI v) kc ks f_rings f_high f_low a_crashed a_config a_members a_newestCut a_reports a_votes a_myVote a_promised a_acceptedRound a_acceptedValue a_ownRound a_phase a_promisers a_promiserRound a_promiserValue a_learnedRound a_learnedFrom a_learnedValue a_slots (d + 1) m (nI s) := by
  intro d
  induction d with
  | zero =>
    intro s m hs em
    have e2 : s = 16 := by omega
    subst e2
    rw [e] at em
    cases em
    exact br_t (cd_at16 rfl) (br_t rfl H)
  | succ d ih =>
    intro s m hs em
    have ih := ih (s + 1)
    have step : cd_st a_reports (q * 16) x3 x4 (s + 1) = (if x3 ≤ cd_ct (a_reports (q * 16 + s)) then some (m ||| (1 <<< (nI s &&& 31))) else if x4 ≤ cd_ct (a_reports (q * 16 + s)) then none else some m) := by
      show (match cd_st a_reports (q * 16) x3 x4 s with
        | none => none
        | some m => if x3 ≤ cd_ct (a_reports (q * 16 + s)) then some (m ||| (1 <<< (nI s &&& 31))) else if x4 ≤ cd_ct (a_reports (q * 16 + s)) then none else some m) = _
      rw [em]
    refine br_f (cd_ge16 (by omega)) (sw_rep hq (by omega) ?_)
    by_cases c1 : cd_ct (a_reports (q * 16 + s)) < x3
    · refine br_t c1 ?_
      rw [if_neg (Int32.not_le.mpr c1)] at step
      by_cases c2 : cd_ct (a_reports (q * 16 + s)) < x4
      · rw [if_neg (Int32.not_le.mpr c2)] at step
        exact br_t c2 (nm_r (nI_1 s) (ih m (by omega) step))
      · rw [if_pos (Int32.not_lt.mp c2)] at step
        have e16 := cd_st_none step d
        rw [show s + 1 + d = 16 from by omega, e] at e16
        exact absurd e16 (by simp)
    · rw [if_pos (Int32.not_lt.mp c1)] at step
      exact br_f c1 (nm_e (nm_r (nI_1 s) (ih _ (by omega) step)))
/-- q's proposal -/
theorem lb_692 {WT' : Nat → Int32 → Prop} (R : lq_R KN g WT A B p0 p1 p2 kn ov) {c : Nat} (hq : q < 16) (hc : c ≤ 300) (hv : ¬ a_myVote q = -1 → ∃ v, 1 ≤ v ∧ v ≤ 65535 ∧ a_myVote q = nI v) (hN : bt x18 q = false → ¬ a_myVote q = -1 → cd_st a_reports (q * 16) x3 x4 16 = some (a_myVote q)) (hW0 : ∀ c' x, WT c' x → ¬ x = 0) (hW : ∀ c', c' ≤ 2 → ∀ x, WT' c' x → WT c' x ∨ (c' = c ∧ x = a_myVote q ∧ ¬ x = -1))
    (hJ : ∀ p0' p1' p2' ov' now', lq_R KN g WT' A B p0' p1' p2' kn ov' → (∀ i, i < 16 → (bt now' i = true ↔ bt now i = true ∨ (i = q ∧ ¬ a_myVote q = -1))) → J (lN A) (lN B) (lN p0') (lN p1') (lN p2') kn ov' now' (nI (q + 1))) :
    wL_law_692 post L xs J91 J x1 x3 x4 (lN A) (lN B) (lN p0) (lN p1) (lN p2) kn ov x18 x19 now (nI q) (nI c) kc ks f_rings f_high f_low a_crashed a_config a_members a_newestCut a_reports a_votes a_myVote a_promised a_acceptedRound a_acceptedValue a_ownRound a_phase a_promisers a_promiserRound a_promiserValue a_learnedRound a_learnedFrom a_learnedValue a_slots := by
  refine sw_pro hq ?_
  by_cases m : a_myVote q = -1
  · refine br_t m (nm_r (nI_1 q) (hJ p0 p1 p2 ov now (lb_R_wt R (fun c' hc' x hx => ?_)) (fun i _ => ⟨fun h => Or.inl h, fun h => ?_⟩)))
    · rcases hW c' hc' x hx with w | w
      · exact w
      · exact absurd (w.2.1.trans m) w.2.2
    · rcases h with h | h
      · exact h
      · exact absurd m h.2
  refine br_f m (nm_e ?_)
  obtain ⟨v, v1, v2, ev⟩ := hv m
  have H : wL_law_792 post L xs J91 J x1 x3 x4 (lN A) (lN B) (lN p0) (lN p1) (lN p2) kn ov x18 x19 (now ||| (1 <<< (nI q &&& 31))) (nI q) (nI c) (nI v) kc ks f_rings f_high f_low a_crashed a_config a_members a_newestCut a_reports a_votes a_myVote a_promised a_acceptedRound a_acceptedValue a_ownRound a_phase a_promisers a_promiserRound a_promiserValue a_learnedRound a_learnedFrom a_learnedValue a_slots := by
    refine lb_792 R hc v1 v2 hW0 (fun c' hc' x hx => ?_) (fun p0' p1' p2' ov' R' => hJ p0' p1' p2' ov' _ R' (fun i hi => ?_))
    · rcases hW c' hc' x hx with w | w
      · exact Or.inl w
      · exact Or.inr ⟨w.1, w.2.1.trans ev⟩
    · rw [b_or, cd_shl1 q (by omega) (by omega), Bool.or_eq_true_iff, decide_eq_true_iff]
      constructor
      · rintro (a | a)
        · exact Or.inl a
        · exact Or.inr ⟨a, m⟩
      · rintro (a | a)
        · exact Or.inl a
        · exact Or.inr a.1
  refine br_c (fun z => ⟨17, ?_⟩) (fun _ => by rw [ev]; exact H)
  have e := hN ((cd_has (by omega)).mp z) m
  rw [ev] at e ⊢
  exact lb_732 (m := 0) hq e H 16 0 0 rfl rfl
end PG15
end
section
section PG16
variable {f_rings f_high f_low : Int32} {a_crashed a_config a_members a_newestCut a_reports a_votes a_myVote a_promised a_acceptedRound a_acceptedValue a_ownRound a_phase a_promisers a_promiserRound a_promiserValue a_learnedRound a_learnedFrom a_learnedValue a_slots : Nat → Int32}
variable {post : Int32 → Prop} {L : Nat} {xs : Nat → Int32} {J91 : lq_91} {J : lq_548} {x1 x3 x4 kn ov x18 x19 now : Int32} {kc ks : Nat} {g : pg_G} {KN : Nat → Prop} {WT : Nat → Int32 → Prop} {A B p0 p1 p2 q : Nat}
theorem lb_R_kn {KN' : Nat → Prop} (R : lq_R KN g WT A B p0 p1 p2 kn ov) (h : ∀ c, c ≤ 3 → (KN' c ↔ KN c)) : lq_R KN' g WT A B p0 p1 p2 kn ov := by
  obtain ⟨r1, r2, r3, r4, r5, r6, r7, r8⟩ := R
  exact ⟨r1, r2, r3, r4, r5, fun c hc => (r6 c hc).trans (h c hc).symm, fun c hc => ⟨fun k => (r7 c hc).1 ((h c hc).mp k), fun k => (r7 c hc).2 (fun z => k ((h c hc).mpr z))⟩, r8⟩
theorem lb_625 {KN' : Nat → Prop} (R : lq_R KN g WT A B p0 p1 p2 kn ov) {c : Nat} (hc : c ≤ 3) (hK : ∀ c', c' ≤ 3 → (KN' c' ↔ KN c' ∨ c' = c))
    (H : ∀ A' B' kn', lq_R KN' g WT A' B' p0 p1 p2 kn' ov → wL_law_692 post L xs J91 J x1 x3 x4 (lN A') (lN B') (lN p0) (lN p1) (lN p2) kn' ov x18 x19 now (nI q) (nI c) kc ks f_rings f_high f_low a_crashed a_config a_members a_newestCut a_reports a_votes a_myVote a_promised a_acceptedRound a_acceptedValue a_ownRound a_phase a_promisers a_promiserRound a_promiserValue a_learnedRound a_learnedFrom a_learnedValue a_slots) :
    wL_law_625 post L xs J91 J x1 x3 x4 (lN A) (lN B) (lN p0) (lN p1) (lN p2) kn ov x18 x19 now (nI q) (nI c) (lN (lq_rec g c)) (nI (32 * (c % 2))) (lN (lq_ag A B c)) kc ks f_rings f_high f_low a_crashed a_config a_members a_newestCut a_reports a_votes a_myVote a_promised a_acceptedRound a_acceptedValue a_ownRound a_phase a_promisers a_promiserRound a_promiserValue a_learnedRound a_learnedFrom a_learnedValue a_slots := by
  have R0 := R
  obtain ⟨r1, r2, r3, r4, r5, r6, r7, r8⟩ := R
  have hn : lq_ag A B c < 2 ^ 64 := by
    unfold lq_ag
    split
    · exact r1
    · exact r2
  have hrec := lq_rec_lt g c
  unfold wL_law_625
  rw [wb_shr hn (by omega), show (4294967295 : Int64) = lN (2 ^ 32 - 1) from rfl, wb_mask (Nat.lt_of_le_of_lt (Nat.div_le_self _ _) hn) (by decide)]
  refine nm_r (e' := lN (pf_F 32 (lq_ag A B c) (c % 2))) rfl ?_
  refine br_c (fun z => nm_e ?_) (fun z => ?_)
  · have nk : ¬ KN c := fun k => by
      have := (r6 c hc).mpr k
      rw [(cd_has (by omega)).mp z] at this
      exact absurd this (by decide)
    have f0 := (r7 c hc).2 nk
    have hm : lq_rec g c * 2 ^ (32 * (c % 2)) < 2 ^ 64 := by
      have a : lq_rec g c * 2 ^ (32 * (c % 2)) < 2 ^ 32 * 2 ^ (32 * (c % 2)) := Nat.mul_lt_mul_of_pos_right hrec (Nat.two_pow_pos _)
      have b : 2 ^ 32 * 2 ^ (32 * (c % 2)) ≤ 2 ^ 64 := by
        rw [← Nat.pow_add]
        exact Nat.pow_le_pow_right (by decide) (by omega)
      exact Nat.lt_of_lt_of_le a b
    rw [wb_shl _ (by omega)]
    have key : ∀ A' B', A' < 2 ^ 64 → B' < 2 ^ 64 → (∀ c', c' ≤ 3 → lq_ag A' B' c' = if (c' < 2 ↔ c < 2) then lq_ag A B c ||| lq_rec g c * 2 ^ (32 * (c % 2)) else lq_ag A B c') → lq_R KN' g WT A' B' p0 p1 p2 (kn ||| (1 <<< (nI c &&& 31))) ov := by
      intro A' B' a1 a2 he
      refine ⟨a1, a2, r3, r4, r5, fun c' hc' => ?_, fun c' hc' => ?_, r8⟩
      · rw [b_or, cd_shl1 c (by omega) (by omega), Bool.or_eq_true_iff, decide_eq_true_iff, r6 c' hc', hK c' hc']
      · rw [he c' hc']
        by_cases w : (c' < 2 ↔ c < 2)
        · have ew : lq_ag A B c' = lq_ag A B c := by
            unfold lq_ag
            by_cases y : c < 2
            · rw [if_pos y, if_pos (w.mpr y)]
            · rw [if_neg y, if_neg (fun t => y (w.mp t))]
          rw [if_pos w, pf_or 32 _ _ (c % 2) (c' % 2) hrec]
          by_cases e : c' = c
          · subst e
            rw [f0, if_pos rfl, Nat.zero_or]
            exact ⟨fun _ => rfl, fun n => absurd ((hK c' hc').mpr (Or.inr rfl)) n⟩
          · have ne : ¬ c' % 2 = c % 2 := by omega
            rw [if_neg ne, Nat.or_zero, ← ew]
            refine ⟨fun k => (r7 c' hc').1 ?_, fun k => (r7 c' hc').2 (fun y => k ((hK c' hc').mpr (Or.inl y)))⟩
            rcases (hK c' hc').mp k with y | y
            · exact y
            · exact absurd y e
        · rw [if_neg w]
          have e : ¬ c' = c := fun y => w (by rw [y])
          refine ⟨fun k => (r7 c' hc').1 ?_, fun k => (r7 c' hc').2 (fun y => k ((hK c' hc').mpr (Or.inl y)))⟩
          rcases (hK c' hc').mp k with y | y
          · exact y
          · exact absurd y e
    by_cases c2 : c < 2
    · refine br_f (nI_ge (b := 2) c2 (by decide)) ?_
      have ea : lq_ag A B c = A := if_pos c2
      rw [ea] at key
      rw [wb_or r1 hm]
      refine nm_e (H _ B _ (key _ B (Nat.or_lt_two_pow r1 hm) r2 (fun c' hc' => ?_)))
      unfold lq_ag
      by_cases w : c' < 2
      · rw [if_pos w, if_pos (iff_of_true w c2)]
      · rw [if_neg w, if_neg (fun y => w (y.mpr c2)), if_neg w]
    · refine br_t (nI_le (a := 2) (by omega) (by omega)) ?_
      have ea : lq_ag A B c = B := if_neg c2
      rw [ea] at key
      rw [wb_or r2 hm]
      refine nm_e (H A _ _ (key A _ r1 (Nat.or_lt_two_pow r2 hm) (fun c' hc' => ?_)))
      unfold lq_ag
      by_cases w : c' < 2
      · rw [if_pos w, if_neg (fun y => c2 (y.mp w)), if_pos w]
      · rw [if_neg w, if_pos (iff_of_false w c2)]
  · have k : KN c := (r6 c hc).mp ((cd_hasn (by omega)).mp z)
    rw [(r7 c hc).1 k]
    refine br_t rfl (H A B kn (lb_R_kn R0 (fun c' hc' => ?_)))
    rw [hK c' hc']
    constructor
    · rintro (y | y)
      · exact y
      · rw [y]; exact k
    · exact fun y => Or.inl y
def lq_KN (KN : Nat → Prop) (cf : Nat → Int32) (q c : Nat) : Prop := KN c ∨ ∃ i, i < q ∧ cf i = nI c
def lq_WT (WT : Nat → Int32 → Prop) (cf mv : Nat → Int32) (q c : Nat) (x : Int32) : Prop := WT c x ∨ ∃ i, i < q ∧ cf i = nI c ∧ mv i = x ∧ ¬ x = -1
theorem lb_B {KN0 : Nat → Prop} {WT0 : Nat → Int32 → Prop} (hW0 : ∀ c x, WT0 c x → ¬ x = 0)
    (HP : ∀ q, q < 16 → ∃ c, c ≤ 300 ∧ a_config q = nI c ∧ a_members q = pg_M g c ∧ a_newestCut q = pg_C g c ∧ (¬ a_myVote q = -1 → ∃ v, 1 ≤ v ∧ v ≤ 65535 ∧ a_myVote q = nI v))
    (HN : ∀ q, q < 16 → bt x18 q = false → ¬ a_myVote q = -1 → cd_st a_reports (q * 16) x3 x4 16 = some (a_myVote q))
    (hE : ∀ A B p0 p1 p2 kn ov now, lq_R (lq_KN KN0 a_config 16) g (lq_WT WT0 a_config a_myVote 16) A B p0 p1 p2 kn ov → (∀ i, i < 16 → (bt now i = true ↔ i < 16 ∧ ¬ a_myVote i = -1)) → J91 (lN A) (lN B) (lN p0) (lN p1) (lN p2) kn ov now (x19 + 3) f_rings f_high f_low a_crashed a_config a_members a_newestCut a_reports a_votes a_myVote a_promised a_acceptedRound a_acceptedValue a_ownRound a_phase a_promisers a_promiserRound a_promiserValue a_learnedRound a_learnedFrom a_learnedValue a_slots) :
    ∀ d q, q + d = 16 → ∀ A B p0 p1 p2 kn ov now, lq_R (lq_KN KN0 a_config q) g (lq_WT WT0 a_config a_myVote q) A B p0 p1 p2 kn ov → (∀ i, i < 16 → (bt now i = true ↔ i < q ∧ ¬ a_myVote i = -1)) →
      wL_law_548 post L xs J91 x1 x3 x4 x18 x19 kc ks f_rings f_high f_low a_crashed a_config a_members a_newestCut a_reports a_votes a_myVote a_promised a_acceptedRound a_acceptedValue a_ownRound a_phase a_promisers a_promiserRound a_promiserValue a_learnedRound a_learnedFrom a_learnedValue a_slots (d + 1) (lN A) (lN B) (lN p0) (lN p1) (lN p2) kn ov now (nI q) := by
  intro d
  induction d with
  | zero =>
    intro q hq A B p0 p1 p2 kn ov now R N
    have e : q = 16 := by omega
    subst e
    exact br_t (cd_at16 rfl) (nm_e (hE A B p0 p1 p2 kn ov now R N))
  | succ d ih =>
    intro q hq A B p0 p1 p2 kn ov now R N
    have hq16 : q < 16 := by omega
    have ih := ih (q + 1) (by omega)
    obtain ⟨c, hc, ec, em, eu, hv⟩ := HP q hq16
    have inj : ∀ c', c' ≤ 3 → a_config q = nI c' → c' = c := fun c' hc' e => (nI_eq (by omega) (by omega)).mp (e.symm.trans ec)
    have hKs : ∀ c', c' ≤ 3 → (lq_KN KN0 a_config (q + 1) c' ↔ lq_KN KN0 a_config q c' ∨ c' = c) := by
      intro c' hc'
      constructor
      · rintro (a | ⟨i, hi, e⟩)
        · exact Or.inl (Or.inl a)
        · by_cases iq : i = q
          · subst iq
            exact Or.inr (inj c' hc' e)
          · exact Or.inl (Or.inr ⟨i, by omega, e⟩)
      · rintro ((a | ⟨i, hi, e⟩) | a)
        · exact Or.inl a
        · exact Or.inr ⟨i, by omega, e⟩
        · exact Or.inr ⟨q, by omega, by rw [a]; exact ec⟩
    have hW1 : ∀ c' x, lq_WT WT0 a_config a_myVote q c' x → ¬ x = 0 := by
      rintro c' x (a | ⟨i, hi, _, e, n⟩)
      · exact hW0 c' x a
      · obtain ⟨_, _, _, _, _, hvi⟩ := HP i (by omega)
        rw [e] at hvi
        obtain ⟨v, v1, v2, ev⟩ := hvi n
        rw [ev]
        exact nI_ne0 (by omega) (by omega)
    have hWs : ∀ c', c' ≤ 2 → ∀ x, lq_WT WT0 a_config a_myVote (q + 1) c' x → lq_WT WT0 a_config a_myVote q c' x ∨ (c' = c ∧ x = a_myVote q ∧ ¬ x = -1) := by
      rintro c' hc' x (a | ⟨i, hi, e1, e2, n⟩)
      · exact Or.inl (Or.inl a)
      · by_cases iq : i = q
        · subst iq
          exact Or.inr ⟨inj c' (by omega) e1, e2.symm, n⟩
        · exact Or.inl (Or.inr ⟨i, by omega, e1, e2, n⟩)
    have H692 : ∀ A' B' kn', lq_R (lq_KN KN0 a_config (q + 1)) g (lq_WT WT0 a_config a_myVote q) A' B' p0 p1 p2 kn' ov → wL_law_692 post L xs J91 (wL_law_548 post L xs J91 x1 x3 x4 x18 x19 kc ks f_rings f_high f_low a_crashed a_config a_members a_newestCut a_reports a_votes a_myVote a_promised a_acceptedRound a_acceptedValue a_ownRound a_phase a_promisers a_promiserRound a_promiserValue a_learnedRound a_learnedFrom a_learnedValue a_slots (d + 1)) x1 x3 x4 (lN A') (lN B') (lN p0) (lN p1) (lN p2) kn' ov x18 x19 now (nI q) (nI c) kc ks f_rings f_high f_low a_crashed a_config a_members a_newestCut a_reports a_votes a_myVote a_promised a_acceptedRound a_acceptedValue a_ownRound a_phase a_promisers a_promiserRound a_promiserValue a_learnedRound a_learnedFrom a_learnedValue a_slots := by
      intro A' B' kn' R'
      refine lb_692 (g := g) (WT' := lq_WT WT0 a_config a_myVote (q + 1)) R' hq16 hc hv (HN q hq16) hW1 hWs (fun p0' p1' p2' ov' now' R2 N2 => ih A' B' p0' p1' p2' kn' ov' now' R2 (fun i hi => ?_))
      rw [N2 i hi, N i hi]
      constructor
      · rintro (a | ⟨rfl, a⟩)
        · exact ⟨by omega, a.2⟩
        · exact ⟨by omega, a⟩
      · intro a
        by_cases iq : i = q
        · subst iq; exact Or.inr ⟨rfl, a.2⟩
        · exact Or.inl ⟨by omega, a.2⟩
    refine br_f (cd_ge16 hq16) (sw_cfg hq16 ?_)
    rw [ec]
    refine br_f (nI_pos (by omega)) ?_
    by_cases c3 : 3 < c
    · refine br_t (nI_lt (a := 3) c3 (by omega)) (H692 A B kn (lb_R_kn R (fun c' hc' => ?_)))
      rw [hKs c' hc']
      constructor
      · rintro (a | a)
        · exact a
        · omega
      · exact fun a => Or.inl a
    refine br_f (nI_nlt (a := 3) (b := c) (by omega) (by decide)) (sw_mem hq16 (sw_cut hq16 ?_))
    have e1 : (a_members q &&& 65535).toInt64 ||| ((a_newestCut q &&& 65535).toInt64 <<< ((16 : Int32).toInt64 &&& 63)) = lN (lq_rec g c) := by
      have b1 := lq_lo_lt (pg_M g c)
      have b2 := lq_lo_lt (pg_C g c)
      rw [em, eu, lq_lo_e, lq_lo_e, nI_l (by omega), nI_l (by omega), show (16 : Int32) = nI 16 from rfl, wb_shl _ (by decide), wb_or (by omega) (by show lq_lo (pg_C g c) * 65536 < 18446744073709551616; omega)]
      rfl
    have e2 : (32 : Int32) * (nI c &&& 1) = nI (32 * (c % 2)) := by
      rw [pk_andN (n := c) (by omega) (m := 1) 1 (by decide)]
      exact pk_mul 32 (c % 2 ^ 1)
    refine nm_r e1 (nm_r e2 ?_)
    have H := lb_625 (post := post) (L := L) (xs := xs) (J91 := J91) (J := wL_law_548 post L xs J91 x1 x3 x4 x18 x19 kc ks f_rings f_high f_low a_crashed a_config a_members a_newestCut a_reports a_votes a_myVote a_promised a_acceptedRound a_acceptedValue a_ownRound a_phase a_promisers a_promiserRound a_promiserValue a_learnedRound a_learnedFrom a_learnedValue a_slots (d + 1)) (x1 := x1) (x3 := x3) (x4 := x4) (x18 := x18) (x19 := x19) (now := now) (q := q) (kc := kc) (ks := ks) R (show c ≤ 3 by omega) hKs H692
    by_cases c2 : c < 2
    · rw [show lq_ag A B c = A from if_pos c2] at H
      exact br_f (nI_ge (b := 2) c2 (by decide)) H
    · rw [show lq_ag A B c = B from if_neg c2] at H
      exact br_t (nI_le (a := 2) (by omega) (by omega)) H
end PG16
end
section
section PG17
variable {f_rings f_high f_low : Int32} {a_crashed a_config a_members a_newestCut a_reports a_votes a_myVote a_promised a_acceptedRound a_acceptedValue a_ownRound a_phase a_promisers a_promiserRound a_promiserValue a_learnedRound a_learnedFrom a_learnedValue a_slots : Nat → Int32}
variable {post : Int32 → Prop} {L : Nat} {xs : Nat → Int32} {J91 : lq_91} {x1 x3 x4 kn ov x18 x19 : Int32} {kc ks : Nat} {g : pg_G} {A B p0 p1 p2 k : Nat}
/-- the record of a history, b: something has been recorded -/
def lq_H (b : Prop) (g : pg_G) (A B p0 p1 p2 : Nat) (kn ov : Int32) : Prop := lq_R (fun c => b ∧ c ≤ pg_K g) g (fun c x => b ∧ ∃ q, q < 16 ∧ pg_V g c q = x ∧ ¬ x = -1) A B p0 p1 p2 kn ov
/-- the head of a turn -/
def lq_I (b : Prop) (g : pg_G) (k : Nat) (x3 x4 : Int32) (A B p0 p1 p2 : Nat) (kn ov had : Int32) (u : St2) : Prop := match u with
  | (f_rings, f_high, f_low, a_crashed, a_config, a_members, a_newestCut, a_reports, a_votes, a_myVote, a_promised, a_acceptedRound, a_acceptedValue, a_ownRound, a_phase, a_promisers, a_promiserRound, a_promiserValue, a_learnedRound, a_learnedFrom, a_learnedValue, a_slots) => pg_st g k (f_rings, f_high, f_low, a_crashed, a_config, a_members, a_newestCut, a_reports, a_votes, a_myVote, a_promised, a_acceptedRound, a_acceptedValue, a_ownRound, a_phase, a_promisers, a_promiserRound, a_promiserValue, a_learnedRound, a_learnedFrom, a_learnedValue, a_slots) ∧ f_high = x3 ∧ f_low = x4 ∧ (∃ K, K ≤ 6 ∧ f_rings = nI K) ∧ lq_H b g A B p0 p1 p2 kn ov ∧ (∀ q, q < 16 → (bt had q = true ↔ ¬ a_myVote q = -1)) ∧ (b ∨ (pg_K g = 0 ∧ ∀ c q, q < 16 → pg_V g c q = -1))
theorem lq_vote16 {x : Int32} (h0 : ¬ x = 0) (h : x &&& 65535 = x) : ∃ v, 1 ≤ v ∧ v ≤ 65535 ∧ x = nI v := by
  have e := lq_lo_e x
  rw [h] at e
  have l := lq_lo_lt x
  refine ⟨lq_lo x, ?_, by omega, e⟩
  rcases Nat.eq_zero_or_pos (lq_lo x) with z | z
  · rw [z] at e; exact absurd e h0
  · exact z
theorem pg_dec_v {g : pg_G} (I : pg_I g) {c : Nat} {v : Int32} (h : pg_dec g c v) : ∃ q, q < 16 ∧ pg_V g c q = v ∧ ¬ v = -1 := by
  obtain ⟨h1, ⟨_, q, hq, e⟩ | ⟨r, e, _⟩⟩ := h
  · exact ⟨q, hq, e, h1⟩
  · obtain ⟨_, _, q, hq, e2⟩ := I.2.2.1 c r (by rw [e]; exact h1)
    exact ⟨q, hq, e2.trans e, h1⟩
/-- the checks behind a turn's call -/
theorem lc_check {b : Prop} {u0 : St2} (hk : k ≤ 200) (I0 : lq_I b g k x3 x4 A B p0 p1 p2 kn ov x18 u0) (N : pg_next g k u0 (f_rings, f_high, f_low, a_crashed, a_config, a_members, a_newestCut, a_reports, a_votes, a_myVote, a_promised, a_acceptedRound, a_acceptedValue, a_ownRound, a_phase, a_promisers, a_promiserRound, a_promiserValue, a_learnedRound, a_learnedFrom, a_learnedValue, a_slots)) (hb : b ∨ ∀ q, q < 16 → a_config q = 0)
    (hE : ∀ A B p0 p1 p2 kn ov had g', lq_I True g' (k + 1) x3 x4 A B p0 p1 p2 kn ov had (f_rings, f_high, f_low, a_crashed, a_config, a_members, a_newestCut, a_reports, a_votes, a_myVote, a_promised, a_acceptedRound, a_acceptedValue, a_ownRound, a_phase, a_promisers, a_promiserRound, a_promiserValue, a_learnedRound, a_learnedFrom, a_learnedValue, a_slots) → J91 (lN A) (lN B) (lN p0) (lN p1) (lN p2) kn ov had (x19 + 3) f_rings f_high f_low a_crashed a_config a_members a_newestCut a_reports a_votes a_myVote a_promised a_acceptedRound a_acceptedValue a_ownRound a_phase a_promisers a_promiserRound a_promiserValue a_learnedRound a_learnedFrom a_learnedValue a_slots) :
    ∃ fu, wL_law_375 post L xs J91 x1 x3 x4 (lN A) (lN B) (lN p0) (lN p1) (lN p2) kn ov x18 x19 kc ks f_rings f_high f_low a_crashed a_config a_members a_newestCut a_reports a_votes a_myVote a_promised a_acceptedRound a_acceptedValue a_ownRound a_phase a_promisers a_promiserRound a_promiserValue a_learnedRound a_learnedFrom a_learnedValue a_slots fu 0 := by
  obtain ⟨f_rings0, f_high0, f_low0, a_crashed0, a_config0, a_members0, a_newestCut0, a_reports0, a_votes0, a_myVote0, a_promised0, a_acceptedRound0, a_acceptedValue0, a_ownRound0, a_phase0, a_promisers0, a_promiserRound0, a_promiserValue0, a_learnedRound0, a_learnedFrom0, a_learnedValue0, a_slots0⟩ := u0
  obtain ⟨st0, eh, el, ⟨K, hK6, eK⟩, H, hhad, hb0⟩ := I0
  obtain ⟨g', Le, st', out⟩ := N
  obtain ⟨o1, o2, o3, E1, EK, EV, EN⟩ := out
  have Ig : pg_I g := st0.1
  have st2 := st'
  obtain ⟨Ig', P', S'⟩ := st'
  have r := H
  obtain ⟨r1, r2, r3, r4, r5, r6, r7, r8⟩ := r
  have HC : ∀ p, p < 16 → ∃ c, c ≤ k + 1 ∧ a_config p = nI c ∧ c ≤ pg_K g' ∧ a_members p = pg_M g' c ∧ a_newestCut p = pg_C g' c ∧ a_myVote p = pg_V g' c p := by
    intro p hp
    obtain ⟨c, rc, h1, h2, h3, h4, h5, h6, _⟩ := P' p hp
    exact ⟨c, h2, h1, h3, h4, h5, h6⟩
  refine ⟨17, la_A r1 r2 r3 r4 r5 (fun p hp => ?_) ⟨17, ?_⟩ 16 0 rfl⟩
  · obtain ⟨c, hc, ec, hcK, em, eu, _⟩ := HC p hp
    refine ⟨c, by omega, ec, fun c1 c3 => ?_⟩
    have hb' : b := by
      rcases hb with y | y
      · exact y
      · exfalso
        rw [y p hp] at ec
        exact absurd ec.symm (nI_ne0 (by omega) (by omega))
    obtain ⟨pc, rfl⟩ : ∃ pc, c = pc + 1 := ⟨c - 1, by omega⟩
    rw [Nat.add_sub_cancel]
    obtain ⟨e1, e2, e3⟩ := E1.2 pc (by omega)
    obtain ⟨q, hq, ev, nv⟩ := pg_dec_v Ig e2
    have hv := Ig.2.1 pc q hq (by rw [ev]; exact nv)
    rw [ev] at hv
    have kn1 : b ∧ pc ≤ pg_K g := ⟨hb', e1⟩
    rw [eu, em]
    refine ⟨hv.2.1, (r6 pc (by omega)).mpr kn1, ?_, lq_lo (pg_M g pc), ?_, ?_⟩
    · rcases r8 pc (by omega) with o | o
      · exact Or.inl o
      · exact Or.inr (o _ ⟨hb', q, hq, ev, nv⟩)
    · have f := (r7 pc (by omega)).1 kn1
      unfold pf_F at f
      rw [← lq_rec_lo g pc, ← f]
      generalize lq_ag A B pc / 2 ^ (32 * (pc % 2)) = z
      omega
    · rw [e3, ← lq_lo_e]
      apply b_ext
      intro i hi
      rw [b_and, b_xor, b_xor, b_and, b_and]
      cases bt (pg_M g pc) i <;> cases bt (pg_C g' (pc + 1)) i <;> cases bt 65535 i <;> rfl
  · refine lb_B (g := g') (KN0 := fun c => b ∧ c ≤ pg_K g) (WT0 := fun c x => b ∧ ∃ q, q < 16 ∧ pg_V g c q = x ∧ ¬ x = -1) ?_ (fun q hq => ?_) (fun q hq hh m => ?_) ?_ 16 0 rfl A B p0 p1 p2 kn ov 0 ?_ (fun i hi => ?_)
    · rintro c x ⟨_, q, hq, e, n⟩
      have := (Ig.2.1 c q hq (by rw [e]; exact n)).2.1
      rw [e] at this
      exact this
    · obtain ⟨c, hc, ec, hcK, em, eu, ev⟩ := HC q hq
      refine ⟨c, by omega, ec, em, eu, fun n => ?_⟩
      rw [ev] at n ⊢
      have := Ig'.2.1 c q hq n
      exact lq_vote16 this.2.1 this.2.2
    · have h0 : a_myVote0 q = -1 := by
        by_cases z : a_myVote0 q = -1
        · exact z
        · have := (hhad q hq).mpr z
          rw [hh] at this
          exact absurd this (by decide)
      have := EN q hq h0 m
      rw [eh, el] at this
      exact this
    · intro A B p0 p1 p2 kn ov now R2 N2
      refine hE A B p0 p1 p2 kn ov now g' ⟨st2, o2.trans eh, o3.trans el, ⟨K, hK6, o1.trans eK⟩, ?_, fun q hq => ?_, Or.inl trivial⟩
      · refine lb_R_wt (lb_R_kn R2 (fun c hc => ?_)) (fun c hc x hx => ?_)
        · constructor
          · rintro ⟨_, hle⟩
            rcases Nat.lt_or_ge (pg_K g) c with l | l
            · rcases EK with e | ⟨q, hq, e⟩
              · omega
              · have : c = pg_K g' := by have := E1.1; omega
                rw [this]
                exact Or.inr ⟨q, hq, e⟩
            · by_cases hb2 : b
              · exact Or.inl ⟨hb2, l⟩
              · rcases hb with y | y
                · exact absurd y hb2
                · rcases hb0 with w | w
                  · exact absurd w hb2
                  · have : c = 0 := by omega
                    subst this
                    exact Or.inr ⟨0, by omega, y 0 (by omega)⟩
          · rintro (⟨hb', l⟩ | ⟨q, hq, e⟩)
            · exact ⟨trivial, Nat.le_trans l Le.1⟩
            · obtain ⟨c', hc', ec, hcK, _⟩ := HC q hq
              have : c = c' := (nI_eq (by omega) (by omega)).mp (e.symm.trans ec)
              rw [this]
              exact ⟨trivial, hcK⟩
        · obtain ⟨_, q, hq, e, n⟩ := hx
          rcases EV c q hq with z | ⟨z1, z2⟩
          · rcases hb0 with w | w
            · exact Or.inl ⟨w, q, hq, z.symm.trans e, n⟩
            · rw [w.2 c q hq] at z
              exact absurd (e.symm.trans z) n
          · exact Or.inr ⟨q, hq, z1, z2.trans e, n⟩
      · rw [N2 q hq]
        exact ⟨fun a => a.2, fun a => ⟨hq, a⟩⟩
    · refine lb_R_wt (lb_R_kn (KN := fun c => b ∧ c ≤ pg_K g) ⟨r1, r2, r3, r4, r5, r6, fun c hc => ⟨fun kk => ?_, (r7 c hc).2⟩, r8⟩ (fun c hc => ⟨?_, fun z => Or.inl z⟩)) (fun c hc x => ?_)
      · rw [(r7 c hc).1 kk]
        unfold lq_rec
        rw [(Le.2.1 c kk.2).1, (Le.2.1 c kk.2).2]
      · rintro (z | ⟨i, hi, _⟩)
        · exact z
        · omega
      · rintro (z | ⟨i, hi, _⟩)
        · exact z
        · omega
    · rw [b_0]
      constructor
      · intro z; exact absurd z (by decide)
      · rintro ⟨z, _⟩; omega
end PG17
end
section
section PG18
variable {f_rings f_high f_low : Int32} {a_crashed a_config a_members a_newestCut a_reports a_votes a_myVote a_promised a_acceptedRound a_acceptedValue a_ownRound a_phase a_promisers a_promiserRound a_promiserValue a_learnedRound a_learnedFrom a_learnedValue a_slots : Nat → Int32}
variable {post : Int32 → Prop} {L : Nat} {xs : Nat → Int32} {J91 : lq_91} {x6 x8 x10 x12 x14 : Int64} {x1 x3 x4 kn ov x18 x19 x20 : Int32} {kc ks : Nat} {g : pg_G} {k : Nat}
abbrev lq_174 : Type := Int32 → Int32 → Int32 → Int32 → Int32 → (Nat → Int32) → (Nat → Int32) → (Nat → Int32) → (Nat → Int32) → (Nat → Int32) → (Nat → Int32) → (Nat → Int32) → (Nat → Int32) → (Nat → Int32) → (Nat → Int32) → (Nat → Int32) → (Nat → Int32) → (Nat → Int32) → (Nat → Int32) → (Nat → Int32) → (Nat → Int32) → (Nat → Int32) → (Nat → Int32) → (Nat → Int32) → Prop
theorem ld_218d {J : lq_174} {x23 x24 x27 x28 : Int32} {j : Nat} (h : J 1 (nI (j + 1)) f_rings f_high f_low a_crashed a_config a_members a_newestCut a_reports a_votes a_myVote a_promised a_acceptedRound a_acceptedValue a_ownRound a_phase a_promisers a_promiserRound a_promiserValue a_learnedRound a_learnedFrom a_learnedValue a_slots) (d r : Nat) : wL_law_218 post L xs J91 J x1 x3 x4 x6 x8 x10 x12 x14 kn ov x18 x19 x20 x23 x24 (nI j) x27 x28 kc ks (d + 1) 1 (nI r) f_rings f_high f_low a_crashed a_config a_members a_newestCut a_reports a_votes a_myVote a_promised a_acceptedRound a_acceptedValue a_ownRound a_phase a_promisers a_promiserRound a_promiserValue a_learnedRound a_learnedFrom a_learnedValue a_slots :=
  br_c (fun _ => nm_r (nI_1 j) h) (fun _ => br_f (by decide) (nm_r (nI_1 j) h))
theorem ld_218 {J : lq_174} {x23 : Int32} {sl st0 j : Nat} (hk : k ≤ 200) (st : pg_st g k (f_rings, f_high, f_low, a_crashed, a_config, a_members, a_newestCut, a_reports, a_votes, a_myVote, a_promised, a_acceptedRound, a_acceptedValue, a_ownRound, a_phase, a_promisers, a_promiserRound, a_promiserValue, a_learnedRound, a_learnedFrom, a_learnedValue, a_slots)) (hs : sl < 32) (hst : st0 < 16) (h0 : J 0 (nI (j + 1)) f_rings f_high f_low a_crashed a_config a_members a_newestCut a_reports a_votes a_myVote a_promised a_acceptedRound a_acceptedValue a_ownRound a_phase a_promisers a_promiserRound a_promiserValue a_learnedRound a_learnedFrom a_learnedValue a_slots) (h1 : ∀ u', pg_next g k (f_rings, f_high, f_low, a_crashed, a_config, a_members, a_newestCut, a_reports, a_votes, a_myVote, a_promised, a_acceptedRound, a_acceptedValue, a_ownRound, a_phase, a_promisers, a_promiserRound, a_promiserValue, a_learnedRound, a_learnedFrom, a_learnedValue, a_slots) u' → (match u' with | (f_rings2, f_high2, f_low2, a_crashed2, a_config2, a_members2, a_newestCut2, a_reports2, a_votes2, a_myVote2, a_promised2, a_acceptedRound2, a_acceptedValue2, a_ownRound2, a_phase2, a_promisers2, a_promiserRound2, a_promiserValue2, a_learnedRound2, a_learnedFrom2, a_learnedValue2, a_slots2) => J 1 (nI (j + 1)) f_rings2 f_high2 f_low2 a_crashed2 a_config2 a_members2 a_newestCut2 a_reports2 a_votes2 a_myVote2 a_promised2 a_acceptedRound2 a_acceptedValue2 a_ownRound2 a_phase2 a_promisers2 a_promiserRound2 a_promiserValue2 a_learnedRound2 a_learnedFrom2 a_learnedValue2 a_slots2)) :
    ∀ d r, r + d = 16 → wL_law_218 post L xs J91 J x1 x3 x4 x6 x8 x10 x12 x14 kn ov x18 x19 x20 x23 (nI st0) (nI j) (nI sl) (a_slots (sl * 7 + 6)) kc ks (d + 1) 0 (nI r) f_rings f_high f_low a_crashed a_config a_members a_newestCut a_reports a_votes a_myVote a_promised a_acceptedRound a_acceptedValue a_ownRound a_phase a_promisers a_promiserRound a_promiserValue a_learnedRound a_learnedFrom a_learnedValue a_slots := by
  intro d
  induction d with
  | zero =>
    intro r hr
    exact br_t (cd_at16 (by omega)) (nm_r (nI_1 j) h0)
  | succ d ih =>
    intro r hr
    have ih := ih (r + 1) (by omega)
    have e : (nI st0 + nI r) - (nI st0 + nI r) / 16 * 16 = nI ((st0 + r) % 16) := by
      rw [nI_add]
      exact pk_rem (d := 16) (by omega) (by omega) (by omega)
    have hp : (st0 + r) % 16 < 16 := Nat.mod_lt _ (by omega)
    refine br_f (cd_ge16 (by omega)) (br_t rfl ⟨by decide, nm_r e ?_⟩)
    refine br_c (fun _ => nm_r (nI_1 r) ih) (fun z => ?_)
    have hb := (cd_hasn (by omega)).mp z
    have H : ∀ u', pg_next g k (f_rings, f_high, f_low, a_crashed, a_config, a_members, a_newestCut, a_reports, a_votes, a_myVote, a_promised, a_acceptedRound, a_acceptedValue, a_ownRound, a_phase, a_promisers, a_promiserRound, a_promiserValue, a_learnedRound, a_learnedFrom, a_learnedValue, a_slots) u' → (match u' with | (f_rings2, f_high2, f_low2, a_crashed2, a_config2, a_members2, a_newestCut2, a_reports2, a_votes2, a_myVote2, a_promised2, a_acceptedRound2, a_acceptedValue2, a_ownRound2, a_phase2, a_promisers2, a_promiserRound2, a_promiserValue2, a_learnedRound2, a_learnedFrom2, a_learnedValue2, a_slots2) => ∀ x, x = nI r + 1 → wL_law_218 post L xs J91 J x1 x3 x4 x6 x8 x10 x12 x14 kn ov x18 x19 x20 x23 (nI st0) (nI j) (nI sl) (a_slots (sl * 7 + 6)) kc ks (d + 1) 1 x f_rings2 f_high2 f_low2 a_crashed2 a_config2 a_members2 a_newestCut2 a_reports2 a_votes2 a_myVote2 a_promised2 a_acceptedRound2 a_acceptedValue2 a_ownRound2 a_phase2 a_promisers2 a_promiserRound2 a_promiserValue2 a_learnedRound2 a_learnedFrom2 a_learnedValue2 a_slots2) := by
      intro u' N
      have h := h1 u' N
      obtain ⟨f_rings2, f_high2, f_low2, a_crashed2, a_config2, a_members2, a_newestCut2, a_reports2, a_votes2, a_myVote2, a_promised2, a_acceptedRound2, a_acceptedValue2, a_ownRound2, a_phase2, a_promisers2, a_promiserRound2, a_promiserValue2, a_learnedRound2, a_learnedFrom2, a_learnedValue2, a_slots2⟩ := u'
      exact nm_r (nI_1 r) (ld_218d h d (r + 1))
    exact br_c (fun _ => sw_drop st hs hp (fun _ u' N => H u' N)) (fun _ => sw_del st hk hs hp hb (fun _ u' N => H u' N))
theorem ld_174d {x23 x24 : Int32} (h : ∃ fu, wL_law_375 post L xs J91 x1 x3 x4 x6 x8 x10 x12 x14 kn ov x18 x19 kc ks f_rings f_high f_low a_crashed a_config a_members a_newestCut a_reports a_votes a_myVote a_promised a_acceptedRound a_acceptedValue a_ownRound a_phase a_promisers a_promiserRound a_promiserValue a_learnedRound a_learnedFrom a_learnedValue a_slots fu 0) (d : Nat) (x : Int32) : wL_law_174 post L xs J91 x1 x3 x4 x6 x8 x10 x12 x14 kn ov x18 x19 x20 x23 x24 kc ks (d + 1) 1 x f_rings f_high f_low a_crashed a_config a_members a_newestCut a_reports a_votes a_myVote a_promised a_acceptedRound a_acceptedValue a_ownRound a_phase a_promisers a_promiserRound a_promiserValue a_learnedRound a_learnedFrom a_learnedValue a_slots :=
  br_c (fun _ => h) (fun _ => br_f (by decide) h)
theorem ld_174 {a0 st0 : Nat} (hk : k ≤ 200) (st : pg_st g k (f_rings, f_high, f_low, a_crashed, a_config, a_members, a_newestCut, a_reports, a_votes, a_myVote, a_promised, a_acceptedRound, a_acceptedValue, a_ownRound, a_phase, a_promisers, a_promiserRound, a_promiserValue, a_learnedRound, a_learnedFrom, a_learnedValue, a_slots)) (ha : a0 < 32) (hst : st0 < 16)
    (HC : ∀ u', pg_next g k (f_rings, f_high, f_low, a_crashed, a_config, a_members, a_newestCut, a_reports, a_votes, a_myVote, a_promised, a_acceptedRound, a_acceptedValue, a_ownRound, a_phase, a_promisers, a_promiserRound, a_promiserValue, a_learnedRound, a_learnedFrom, a_learnedValue, a_slots) u' → (match u' with | (f_rings2, f_high2, f_low2, a_crashed2, a_config2, a_members2, a_newestCut2, a_reports2, a_votes2, a_myVote2, a_promised2, a_acceptedRound2, a_acceptedValue2, a_ownRound2, a_phase2, a_promisers2, a_promiserRound2, a_promiserValue2, a_learnedRound2, a_learnedFrom2, a_learnedValue2, a_slots2) => ∃ fu, wL_law_375 post L xs J91 x1 x3 x4 x6 x8 x10 x12 x14 kn ov x18 x19 kc ks f_rings2 f_high2 f_low2 a_crashed2 a_config2 a_members2 a_newestCut2 a_reports2 a_votes2 a_myVote2 a_promised2 a_acceptedRound2 a_acceptedValue2 a_ownRound2 a_phase2 a_promisers2 a_promiserRound2 a_promiserValue2 a_learnedRound2 a_learnedFrom2 a_learnedValue2 a_slots2 fu 0)) :
    ∀ d j, j + d = 32 → wL_law_174 post L xs J91 x1 x3 x4 x6 x8 x10 x12 x14 kn ov x18 x19 x20 (nI a0) (nI st0) kc ks (d + 1) 0 (nI j) f_rings f_high f_low a_crashed a_config a_members a_newestCut a_reports a_votes a_myVote a_promised a_acceptedRound a_acceptedValue a_ownRound a_phase a_promisers a_promiserRound a_promiserValue a_learnedRound a_learnedFrom a_learnedValue a_slots := by
  have H0 := HC (f_rings, f_high, f_low, a_crashed, a_config, a_members, a_newestCut, a_reports, a_votes, a_myVote, a_promised, a_acceptedRound, a_acceptedValue, a_ownRound, a_phase, a_promisers, a_promiserRound, a_promiserValue, a_learnedRound, a_learnedFrom, a_learnedValue, a_slots) (st_same st)
  intro d
  induction d with
  | zero =>
    intro j hj
    have e : j = 32 := by omega
    subst e
    exact br_t (by decide) H0
  | succ d ih =>
    intro j hj
    have ih := ih (j + 1) (by omega)
    have e : (nI a0 + nI j) - (nI a0 + nI j) / 32 * 32 = nI ((a0 + j) % 32) := by
      rw [nI_add]
      exact pk_rem (d := 32) (by omega) (by omega) (by omega)
    have hs : (a0 + j) % 32 < 32 := Nat.mod_lt _ (by omega)
    refine br_f (nI_ge (b := 32) (by omega) (by decide)) (br_t rfl ⟨by decide, nm_r e (sw_msg hs ?_)⟩)
    refine br_c (fun _ => nm_r (nI_1 j) ih) (fun _ => ⟨17, ld_218 hk st hs hst ih (fun u' N => ?_) 16 0 rfl⟩)
    have h := HC u' N
    obtain ⟨f_rings2, f_high2, f_low2, a_crashed2, a_config2, a_members2, a_newestCut2, a_reports2, a_votes2, a_myVote2, a_promised2, a_acceptedRound2, a_acceptedValue2, a_ownRound2, a_phase2, a_promisers2, a_promiserRound2, a_promiserValue2, a_learnedRound2, a_learnedFrom2, a_learnedValue2, a_slots2⟩ := u'
    exact ld_174d h d _
theorem le_104 {nn i : Nat} (hL : L ≤ 260) (hk : k ≤ 200) (st : pg_st g k (f_rings, f_high, f_low, a_crashed, a_config, a_members, a_newestCut, a_reports, a_votes, a_myVote, a_promised, a_acceptedRound, a_acceptedValue, a_ownRound, a_phase, a_promisers, a_promiserRound, a_promiserValue, a_learnedRound, a_learnedFrom, a_learnedValue, a_slots)) {K : Nat} (hK : K ≤ 6) (hr : f_rings = nI K) (hn3 : 3 ≤ nn) (hn8 : nn ≤ 8) (hi : i < 1000)
    (HC : ∀ u', pg_next g k (f_rings, f_high, f_low, a_crashed, a_config, a_members, a_newestCut, a_reports, a_votes, a_myVote, a_promised, a_acceptedRound, a_acceptedValue, a_ownRound, a_phase, a_promisers, a_promiserRound, a_promiserValue, a_learnedRound, a_learnedFrom, a_learnedValue, a_slots) u' → (match u' with | (f_rings2, f_high2, f_low2, a_crashed2, a_config2, a_members2, a_newestCut2, a_reports2, a_votes2, a_myVote2, a_promised2, a_acceptedRound2, a_acceptedValue2, a_ownRound2, a_phase2, a_promisers2, a_promiserRound2, a_promiserValue2, a_learnedRound2, a_learnedFrom2, a_learnedValue2, a_slots2) => ∃ fu, wL_law_375 post L xs J91 (nI nn) x3 x4 x6 x8 x10 x12 x14 kn ov x18 (nI i) kc ks f_rings2 f_high2 f_low2 a_crashed2 a_config2 a_members2 a_newestCut2 a_reports2 a_votes2 a_myVote2 a_promised2 a_acceptedRound2 a_acceptedValue2 a_ownRound2 a_phase2 a_promisers2 a_promiserRound2 a_promiserValue2 a_learnedRound2 a_learnedFrom2 a_learnedValue2 a_slots2 fu 0)) :
    wL_law_104 post L xs J91 (nI nn) x3 x4 x6 x8 x10 x12 x14 kn ov x18 (nI i) kc ks f_rings f_high f_low a_crashed a_config a_members a_newestCut a_reports a_votes a_myVote a_promised a_acceptedRound a_acceptedValue a_ownRound a_phase a_promisers a_promiserRound a_promiserValue a_learnedRound a_learnedFrom a_learnedValue a_slots := by
  have H0 := HC (f_rings, f_high, f_low, a_crashed, a_config, a_members, a_newestCut, a_reports, a_votes, a_myVote, a_promised, a_acceptedRound, a_acceptedValue, a_ownRound, a_phase, a_promisers, a_promiserRound, a_promiserValue, a_learnedRound, a_learnedFrom, a_learnedValue, a_slots) (st_same st)
  unfold wL_law_104
  rw [nI_1 i, cd_a2 i, cd_a2 nn]
  refine br_c (fun _ => H0) (fun _ => ?_)
  refine lf_cell hL (by omega) (fun _ => lf_pos (M := 16) (by omega) (by omega) (fun op hop => lf_cell hL (by omega) (fun _ => lf_cell hL (by omega) (fun _ => ?_))))
  refine br_c (fun _ => br_c (fun _ => br_c (fun _ => ?_) (fun _ => ?_)) (fun _ => ?_)) (fun _ => ?_)
  · refine lf_pos (M := 2) (by omega) (by omega) (fun _ _ => br_c (fun _ => ?_) (fun _ => H0))
    exact lf_pos (M := 16) (by omega) (by omega) (fun t ht => sw_crash st ht (fun _ u' N => HC u' N))
  · exact lf_pos (by omega) (by omega) (fun t ht => sw_fb st hk (by omega) (fun _ u' N => HC u' N))
  · exact lf_pos (by omega) (by omega) (fun t ht => lf_pos (by omega) (by omega) (fun t2 ht2 => sw_obs st hK hr (by omega) (by omega) (fun _ u' N => HC u' N)))
  · exact lf_pos (M := 32) (by omega) (by omega) (fun t ht => lf_pos (M := 16) (by omega) (by omega) (fun t2 ht2 => ⟨33, ld_174 hk st ht ht2 HC 32 0 rfl⟩))
end PG18
end
section
section PG19
variable {f_rings f_high f_low : Int32} {a_crashed a_config a_members a_newestCut a_reports a_votes a_myVote a_promised a_acceptedRound a_acceptedValue a_ownRound a_phase a_promisers a_promiserRound a_promiserValue a_learnedRound a_learnedFrom a_learnedValue a_slots : Nat → Int32}
variable {post : Int32 → Prop} {L : Nat} {xs : Nat → Int32} {x3 x4 : Int32} {kc ks : Nat}
theorem lf_loop {nn : Nat} (hL : L ≤ 260) (hpost : post 1) (hn3 : 3 ≤ nn) (hn8 : nn ≤ 8) : ∀ d j, 1 ≤ j → j + d = 87 → ∀ (g : pg_G) (k A B p0 p1 p2 : Nat) (kn ov had : Int32) (u : St2), k ≤ j → lq_I True g k x3 x4 A B p0 p1 p2 kn ov had u →
    (match u with | (f_rings, f_high, f_low, a_crashed, a_config, a_members, a_newestCut, a_reports, a_votes, a_myVote, a_promised, a_acceptedRound, a_acceptedValue, a_ownRound, a_phase, a_promisers, a_promiserRound, a_promiserValue, a_learnedRound, a_learnedFrom, a_learnedValue, a_slots) => wL_law_91 post L xs (nI nn) x3 x4 kc ks (d + 1) (lN A) (lN B) (lN p0) (lN p1) (lN p2) kn ov had (nI (1 + 3 * j)) f_rings f_high f_low a_crashed a_config a_members a_newestCut a_reports a_votes a_myVote a_promised a_acceptedRound a_acceptedValue a_ownRound a_phase a_promisers a_promiserRound a_promiserValue a_learnedRound a_learnedFrom a_learnedValue a_slots) := by
  intro d
  induction d with
  | zero =>
    intro j h1 hj g k A B p0 p1 p2 kn ov had u hk I
    obtain ⟨f_rings, f_high, f_low, a_crashed, a_config, a_members, a_newestCut, a_reports, a_votes, a_myVote, a_promised, a_acceptedRound, a_acceptedValue, a_ownRound, a_phase, a_promisers, a_promiserRound, a_promiserValue, a_learnedRound, a_learnedFrom, a_learnedValue, a_slots⟩ := u
    have n1 : ¬ nI (1 + 3 * j) = 1 := fun z => by
      have := (nI_eq (b := 1) (by omega) (by decide)).mp z
      omega
    exact br_f n1 (br_t (nI_le (by omega) (by omega)) hpost)
  | succ d ih =>
    intro j h1 hj g k A B p0 p1 p2 kn ov had u hk I
    have ih := ih (j + 1) (by omega) (by omega)
    obtain ⟨f_rings, f_high, f_low, a_crashed, a_config, a_members, a_newestCut, a_reports, a_votes, a_myVote, a_promised, a_acceptedRound, a_acceptedValue, a_ownRound, a_phase, a_promisers, a_promiserRound, a_promiserValue, a_learnedRound, a_learnedFrom, a_learnedValue, a_slots⟩ := u
    have n1 : ¬ nI (1 + 3 * j) = 1 := fun z => by
      have := (nI_eq (b := 1) (by omega) (by decide)).mp z
      omega
    refine br_f n1 ?_
    by_cases c : L ≤ 1 + 3 * j
    · exact br_t (nI_le c (by omega)) hpost
    refine br_f (nI_ge (by omega) (by omega)) ?_
    have I0 := I
    obtain ⟨st, eh, el, ⟨K, hK6, eK⟩, _⟩ := I
    refine le_104 hL (by omega) st hK6 eK hn3 hn8 (by omega) (fun u' N => ?_)
    obtain ⟨f_rings2, f_high2, f_low2, a_crashed2, a_config2, a_members2, a_newestCut2, a_reports2, a_votes2, a_myVote2, a_promised2, a_acceptedRound2, a_acceptedValue2, a_ownRound2, a_phase2, a_promisers2, a_promiserRound2, a_promiserValue2, a_learnedRound2, a_learnedFrom2, a_learnedValue2, a_slots2⟩ := u'
    refine lc_check (by omega) I0 N (Or.inl trivial) (fun A' B' p0' p1' p2' kn' ov' had' g' I' => ?_)
    have H := ih g' (k + 1) A' B' p0' p1' p2' kn' ov' had' (f_rings2, f_high2, f_low2, a_crashed2, a_config2, a_members2, a_newestCut2, a_reports2, a_votes2, a_myVote2, a_promised2, a_acceptedRound2, a_acceptedValue2, a_ownRound2, a_phase2, a_promisers2, a_promiserRound2, a_promiserValue2, a_learnedRound2, a_learnedFrom2, a_learnedValue2, a_slots2) (by omega) I'
    rw [cd_a3, show 1 + 3 * j + 3 = 1 + 3 * (j + 1) from by omega]
    exact H
theorem lf_first {nn : Nat} (hL : L ≤ 260) (hpost : post 1) (hn3 : 3 ≤ nn) (hn8 : nn ≤ 8) {f r : Int32} {K : Nat} (hK : K ≤ 6) (hr : r = nI K) :
    (match cx_0 r x3 x4 f 16 with | (f_rings, f_high, f_low, a_crashed, a_config, a_members, a_newestCut, a_reports, a_votes, a_myVote, a_promised, a_acceptedRound, a_acceptedValue, a_ownRound, a_phase, a_promisers, a_promiserRound, a_promiserValue, a_learnedRound, a_learnedFrom, a_learnedValue, a_slots) => ∃ fu, wL_law_91 post L xs (nI nn) x3 x4 kc ks fu 0 0 0 0 0 0 0 0 1 f_rings f_high f_low a_crashed a_config a_members a_newestCut a_reports a_votes a_myVote a_promised a_acceptedRound a_acceptedValue a_ownRound a_phase a_promisers a_promiserRound a_promiserValue a_learnedRound a_learnedFrom a_learnedValue a_slots) := by
  have st0 : pg_st (pg_0 f) 0 (cx_0 r x3 x4 f 16) := pg_st0
  have I0 : lq_I False (pg_0 f) 0 x3 x4 0 0 0 0 0 0 0 0 (cx_0 r x3 x4 f 16) := by
    refine ⟨st0, rfl, rfl, ⟨K, hK, hr⟩, ⟨by decide, by decide, by decide, by decide, by decide, fun c _ => ?_, fun c _ => ⟨fun z => absurd z.1 id, fun _ => ?_⟩, fun c _ => Or.inr (fun x hx => absurd hx.1 id)⟩, fun q hq => ?_, Or.inr ⟨rfl, fun _ _ _ => rfl⟩⟩
    · rw [b_0]
      exact ⟨fun z => absurd z (by decide), fun z => absurd z.1 id⟩
    · unfold lq_ag
      split <;> exact pf_0 _ _
    · rw [b_0, cd_rowI hq]
      exact ⟨fun z => absurd z (by decide), fun z => absurd rfl z⟩
  unfold cx_0 at st0 I0 ⊢
  dsimp only
  refine ⟨88, ?_⟩
  refine br_t rfl ?_
  refine br_t (by decide) ?_
  refine lc_check (A := 0) (B := 0) (p0 := 0) (p1 := 0) (p2 := 0) (x19 := nI 1) (by omega) I0 (st_same st0) (Or.inr (fun _ _ => rfl)) (fun A' B' p0' p1' p2' kn' ov' had' g' I' => ?_)
  exact lf_loop hL hpost hn3 hn8 86 1 (by omega) (by omega) g' 1 A' B' p0' p1' p2' kn' ov' had' _ (by omega) I'
end PG19
end
section
section PG20
theorem i_vc (xs : Nat → Int32) (L : Nat) (hL : L ≤ 260) : wpL_law (fun r => r = 1) L xs := by
  unfold wpL_law
  refine lf_cell (i := 0) hL (by omega) (fun _ => lf_pos (M := 6) (by omega) (by omega) (fun t1 h1 => nm_r (nI_add 3 t1) ?_))
  refine lf_cell (i := 1) hL (by omega) (fun _ => lf_pos (M := 5) (by omega) (by omega) (fun t2 h2 => nm_r (nI_add 2 t2) ?_))
  refine lf_cell (i := 2) hL (by omega) (fun _ => lf_pos (by omega) (by omega) (fun t3 h3 => nm_r (nI_add 1 t3) ?_))
  refine lf_cell (i := 3) hL (by omega) (fun _ => lf_pos (by omega) (by omega) (fun t4 h4 => nm_r (nI_add 1 t4) ?_))
  refine ⟨19, 1472, by omega, by omega, ?_⟩
  refine xw_init (nI_le (a := 3) (by omega) (by omega)) (nI_le (b := 16) (by omega) (by omega)) (nI_le (a := 2) (by omega) (by omega)) (nI_le (b := 6) (by omega) (by omega)) (nI_le (a := 1) (by omega) (by omega)) (nI_le (by omega) (by omega)) (nI_le (a := 1) (by omega) (by omega)) (nI_le (by omega) (by omega)) ?_
  exact lf_first (post := fun r => r = 1) (L := L) (xs := xs) (x3 := nI (1 + t3)) (x4 := nI (1 + t4)) (kc := 1 + 19) (ks := 22 + 1472) (f := (1 <<< (nI (3 + t1) &&& 31)) - 1) (r := nI (2 + t2)) (nn := 3 + t1) hL rfl (by omega) (by omega) (K := 2 + t2) (by omega) rfl
end PG20
end
