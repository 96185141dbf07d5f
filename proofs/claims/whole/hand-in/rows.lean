section
section CD1
theorem pk_us {f : Nat → Int32} {k : Nat} {x : Int32} : upd f k x k = x := if_pos rfl
theorem pk_un {f : Nat → Int32} {k j : Nat} {x : Int32} (h : j ≠ k) : upd f k x j = f j := if_neg h
theorem pk_sub {a b : Nat} (h : b ≤ a) : nI a - nI b = nI (a - b) := by
  obtain ⟨c, rfl⟩ : ∃ c, a = c + b := ⟨a - b, by omega⟩
  rw [← nI_add, Int32.add_sub_cancel, Nat.add_sub_cancel]
theorem pk_mul (a b : Nat) : nI a * nI b = nI (a * b) := (Int32.ofNat_mul a b).symm
theorem pk_ix (x : Int32) {n : Nat} (hn : n < 2 ^ 31) : x < 0 ∨ nI n ≤ x ∨ ∃ j : Nat, j < n ∧ x = nI j := by
  by_cases h : x < 0
  · exact Or.inl h
  · obtain ⟨j, hj, rfl⟩ := nI_of h
    by_cases h2 : j < n
    · exact Or.inr (Or.inr ⟨j, h2, rfl⟩)
    · exact Or.inr (Or.inl (nI_le (by omega) hj))
theorem pk_le {x y : Int32} {A B : Prop} (a b : Nat) (f : a ≤ b → A) (g : b < a → B) (hx : x = nI a := by rfl) (hy : y = nI b := by rfl) (ha : a < 2 ^ 31 := by omega) (hb : b < 2 ^ 31 := by omega) : (x ≤ y → A) ∧ (¬ x ≤ y → B) := by
  subst hx hy
  rw [nI_leI ha hb]
  exact ⟨f, fun z => g (by omega)⟩
theorem pk_lt {x y : Int32} {A B : Prop} (a b : Nat) (f : a < b → A) (g : b ≤ a → B) (hx : x = nI a := by rfl) (hy : y = nI b := by rfl) (ha : a < 2 ^ 31 := by omega) (hb : b < 2 ^ 31 := by omega) : (x < y → A) ∧ (¬ x < y → B) := by
  subst hx hy
  rw [nI_ltI ha hb]
  exact ⟨f, fun z => g (by omega)⟩
theorem pk_eq {x y : Int32} {A B : Prop} (a b : Nat) (f : a = b → A) (g : a ≠ b → B) (hx : x = nI a := by rfl) (hy : y = nI b := by rfl) (ha : a < 2 ^ 31 := by omega) (hb : b < 2 ^ 31 := by omega) : (x = y → A) ∧ (¬ x = y → B) := by
  subst hx hy
  rw [nI_eq ha hb]
  exact ⟨f, g⟩
theorem pk_in {x : Int32} (n N : Nat) (h : n < N) (hx : x = nI n := by rfl) (hN : N < 2 ^ 31 := by omega) : vp_in x N := by
  subst hx
  exact vp_in_nI h hN
theorem pk_cl {x : Int32} (n : Nat) (hx : x = nI n := by rfl) (h : n < 2 ^ 31 := by omega) : x.toNatClampNeg = n := by
  subst hx
  exact nI_clamp h
def bt (x : Int32) (i : Nat) : Bool := x.toBitVec.getLsbD i
theorem b_ext {x y : Int32} (h : ∀ i, i < 32 → bt x i = bt y i) : x = y := Int32.toBitVec_inj.mp (BitVec.eq_of_getLsbD_eq (fun i hi => h i hi))
theorem b_or (x y : Int32) (i : Nat) : bt (x ||| y) i = (bt x i || bt y i) := by unfold bt; rw [Int32.toBitVec_or, BitVec.getLsbD_or]
theorem b_and (x y : Int32) (i : Nat) : bt (x &&& y) i = (bt x i && bt y i) := by unfold bt; rw [Int32.toBitVec_and, BitVec.getLsbD_and]
theorem b_xor (x y : Int32) (i : Nat) : bt (x ^^^ y) i = (bt x i ^^ bt y i) := by unfold bt; rw [Int32.toBitVec_xor, BitVec.getLsbD_xor]
theorem b_big {x : Int32} {i : Nat} (h : 32 ≤ i) : bt x i = false := BitVec.getLsbD_of_ge _ _ h
theorem b_65535 (i : Nat) : bt 65535 i = decide (i < 16) := by
  rcases Nat.lt_or_ge i 32 with h | h
  · exact (by decide +kernel : ∀ i, i < 32 → bt 65535 i = decide (i < 16)) i h
  · rw [b_big h, decide_eq_false (by omega)]
theorem b_m1 : ∀ i, i < 32 → bt (-1) i = true := by decide +kernel
theorem b_0 (i : Nat) : bt 0 i = false := BitVec.getLsbD_zero
theorem s_l : ∀ n, n < 32 → ((nI n &&& 31).toBitVec.smod 32).toNat = n := by decide +kernel
theorem b_shl (n : Nat) (hn : n < 32) (x : Int32) {i : Nat} (hi : i < 32) : bt (x <<< (nI n &&& 31)) i = (decide (n ≤ i) && bt x (i - n)) := by
  unfold bt
  rw [Int32.toBitVec_shiftLeft]
  show (x.toBitVec <<< ((nI n &&& 31).toBitVec.smod 32).toNat).getLsbD i = _
  rw [s_l n hn, BitVec.getLsbD_shiftLeft]
  rcases Nat.lt_or_ge i n with h | h
  · simp [h, Nat.not_le.mpr h]
  · simp [hi, h, Nat.not_lt.mpr h]
theorem b_sshr (n : Nat) (hn : n < 32) (x : Int32) {i : Nat} (hi : i < 32) : bt (x >>> (nI n &&& 31)) i = if n + i < 32 then bt x (n + i) else bt x 31 := by
  unfold bt
  rw [Int32.toBitVec_shiftRight]
  show (x.toBitVec.sshiftRight ((nI n &&& 31).toBitVec.smod 32).toNat).getLsbD i = _
  rw [s_l n hn, BitVec.getLsbD_sshiftRight, BitVec.msb_eq_getLsbD_last]
  simp [hi]
theorem cd_b1 (j : Nat) : bt 1 j = decide (j = 0) := by
  rcases Nat.lt_or_ge j 32 with h | h
  · exact (by decide +kernel : ∀ i, i < 32 → bt 1 i = decide (i = 0)) j h
  · rw [b_big h, decide_eq_false (by omega)]
theorem cd_a1z (x : Int32) : x &&& 1 = 0 ↔ bt x 0 = false := by
  constructor
  · intro h
    have e : bt (x &&& 1) 0 = bt x 0 := by rw [b_and, cd_b1]; simp
    rw [h, b_0] at e
    exact e.symm
  · intro h
    apply b_ext
    intro i _
    rw [b_and, cd_b1, b_0]
    by_cases e : i = 0
    · subst e; rw [h]; rfl
    · rw [decide_eq_false e, Bool.and_false]
theorem cd_a1o (x : Int32) (h : ¬ x &&& 1 = 0) : x &&& 1 = 1 := by
  have h1 : bt x 0 = true := by
    cases e : bt x 0
    · exact absurd ((cd_a1z x).mpr e) h
    · rfl
  apply b_ext
  intro i _
  rw [b_and, cd_b1]
  by_cases e : i = 0
  · subst e; rw [h1]; rfl
  · rw [decide_eq_false e, Bool.and_false]
theorem cd_has {x : Int32} {i : Nat} (hi : i < 32) : (x >>> (nI i &&& 31)) &&& 1 = 0 ↔ bt x i = false := by
  rw [cd_a1z, b_sshr i hi x (by omega), if_pos (by omega)]
  exact Iff.rfl
theorem cd_hasn {x : Int32} {i : Nat} (hi : i < 32) : ¬ (x >>> (nI i &&& 31)) &&& 1 = 0 ↔ bt x i = true := by
  rw [cd_has hi]
  cases bt x i <;> simp
theorem cd_has1 {x : Int32} {i : Nat} (hi : i < 32) (h : bt x i = true) : (x >>> (nI i &&& 31)) &&& 1 = 1 := cd_a1o _ ((cd_hasn hi).mpr h)
theorem cd_has0 {x : Int32} {i : Nat} (hi : i < 32) (h : bt x i = false) : (x >>> (nI i &&& 31)) &&& 1 = 0 := (cd_has hi).mpr h
theorem cd_shl1 (q : Nat) (hq : q < 32) {i : Nat} (hi : i < 32) : bt (1 <<< (nI q &&& 31)) i = decide (i = q) := by
  rw [b_shl q hq 1 hi, cd_b1]
  by_cases e : i = q
  · subst e; simp
  · rw [decide_eq_false e]
    by_cases h : q ≤ i
    · rw [decide_eq_false (by omega : ¬ i - q = 0), Bool.and_false]
    · rw [decide_eq_false h, Bool.false_and]
theorem cd_mr (x : Int32) : x - x / 17 * 17 < 17 := by
  rw [irem_eq_mod, Int32.lt_iff_toInt_lt, Int32.toInt_mod]
  have h17 : (17 : Int32).toInt = 17 := by decide
  rw [h17]
  exact Int.tmod_lt_of_pos _ (by omega)
theorem cd_bn {x : Bool} (h : ¬ x = true) : x = false := by cases x <;> simp_all
/-! the number of bits below i -/
def cd_cn (x : Int32) : Nat → Nat
  | 0 => 0
  | i + 1 => cd_cn x i + (if bt x i = true then 1 else 0)
theorem cd_cnS (x : Int32) (i : Nat) : cd_cn x (i + 1) = cd_cn x i + (if bt x i = true then 1 else 0) := rfl
theorem cd_cn_le (x : Int32) : ∀ i, cd_cn x i ≤ i := by
  intro i
  induction i with
  | zero => exact Nat.le_refl 0
  | succ i ih =>
    show cd_cn x i + (if bt x i = true then 1 else 0) ≤ i + 1
    split <;> omega
def cd_ct (x : Int32) : Int32 := nI (cd_cn x 16)
/-! a row of n cells from b on, all v -/
def cd_fill (a : Nat → Int32) (b : Nat) (v : Int32) (n : Nat) : Nat → Int32 := fun j => if b ≤ j ∧ j < b + n then v else a j
theorem cd_fill0 {a : Nat → Int32} {b : Nat} {v : Int32} : cd_fill a b v 0 = a := by
  funext j
  exact if_neg (by omega)
theorem cd_fillS {a : Nat → Int32} {b n : Nat} {v : Int32} : upd (cd_fill a b v n) (b + n) v = cd_fill a b v (n + 1) := by
  funext j
  show (if j = b + n then v else if b ≤ j ∧ j < b + n then v else a j) = (if b ≤ j ∧ j < b + (n + 1) then v else a j)
  by_cases h : j = b + n
  · rw [if_pos h, if_pos (by omega)]
  · rw [if_neg h]
    by_cases h2 : b ≤ j ∧ j < b + n
    · rw [if_pos h2, if_pos (by omega)]
    · rw [if_neg h2, if_neg (by omega)]
theorem cd_fillI {a : Nat → Int32} {b n j : Nat} {v : Int32} (h : b ≤ j) (h2 : j < b + n) : cd_fill a b v n j = v := if_pos ⟨h, h2⟩
theorem cd_fillO {a : Nat → Int32} {b n j : Nat} {v : Int32} (h : ¬ (b ≤ j ∧ j < b + n)) : cd_fill a b v n j = a j := if_neg h
/-! indices -/
theorem cd_i16 (p q : Nat) : nI p * 16 + nI q = nI (p * 16 + q) := by rw [show (16 : Int32) = nI 16 from rfl, pk_mul, nI_add]
theorem cd_i7 (p : Nat) : nI p * 7 = nI (p * 7) := by rw [show (7 : Int32) = nI 7 from rfl, pk_mul]
theorem cd_i7k (p k : Nat) : nI p * 7 + nI k = nI (p * 7 + k) := by rw [cd_i7, nI_add]
end CD1
end
section
section CD2
/-! the class as functions -/
def cd_key (r x : Int32) : Int32 := (x + 1) * (2 * r + 3) - (x + 1) * (2 * r + 3) / 17 * 17
def cd_dst (r s y : Int32) : Int32 := (cd_key r y - cd_key r s + 17) - (cd_key r y - cd_key r s + 17) / 17 * 17
/-- the nearest on a ring and its distance, y below i, b the first bound -/
def cd_nr (m s r b : Int32) : Nat → Int32 × Int32
  | 0 => (-1, b)
  | y + 1 => if ¬ nI y = s ∧ bt m y = true ∧ cd_dst r s (nI y) < (cd_nr m s r b y).2 then (nI y, cd_dst r s (nI y)) else cd_nr m s r b y
def cd_obs (m s r : Int32) : Int32 := (cd_nr m s r 17 16).1
def cd_wat (m o s : Int32) : Nat → Int32
  | 0 => 0
  | r + 1 => if cd_obs m s (nI r) = o then cd_wat m o s r ||| (1 <<< (nI r &&& 31)) else cd_wat m o s r
/-- the lowest free slot among d from j on -/
def cd_fr (s : Nat → Int32) : Nat → Nat → Option Nat
  | 0, _ => none
  | d + 1, j => if s (j * 7 + 6) = 0 then some j else cd_fr s d (j + 1)
def cd_oi : Option Nat → Int32
  | none => -1
  | some i => nI i
def cd_put (s : Nat → Int32) (b : Nat) (kind p c x y z d : Int32) : Nat → Int32 :=
  upd (upd (upd (upd (upd (upd (upd s b kind) (b + 1) p) (b + 2) c) (b + 3) x) (b + 4) y) (b + 5) z) (b + 6) d
def cd_sd (s : Nat → Int32) (p c kind x y z d : Int32) : Nat → Int32 :=
  if d &&& 65535 = 0 then s else match cd_fr s 32 0 with
    | none => s
    | some i => cd_put s (i * 7) kind p c x y z (d &&& 65535)
def cd_not (p : Nat) : Int32 := (1 <<< (nI p &&& 31)) ^^^ (-1)
def cd_off (s : Nat → Int32) (i p : Nat) : Nat → Int32 :=
  if s (i * 7 + 6) &&& cd_not p = 0 then cd_fill (upd s (i * 7 + 6) (s (i * 7 + 6) &&& cd_not p)) (i * 7) 0 7 else upd s (i * 7 + 6) (s (i * 7 + 6) &&& cd_not p)
def cx_send (u : SX) (p : Nat) (kind x y z d : Int32) : SX := match u with
  | (f_rings, f_high, f_low, a_crashed, a_config, a_members, a_newestCut, a_reports, a_votes, a_myVote, a_promised, a_acceptedRound, a_acceptedValue, a_ownRound, a_phase, a_promisers, a_promiserRound, a_promiserValue, a_learnedRound, a_learnedFrom, a_learnedValue, a_slots) => (f_rings, f_high, f_low, a_crashed, a_config, a_members, a_newestCut, a_reports, a_votes, a_myVote, a_promised, a_acceptedRound, a_acceptedValue, a_ownRound, a_phase, a_promisers, a_promiserRound, a_promiserValue, a_learnedRound, a_learnedFrom, a_learnedValue, cd_sd a_slots (nI p) (a_config p) kind x y z d)
def cx_inst (u : SX) (p : Nat) (n s c : Int32) : SX := match u with
  | (f_rings, f_high, f_low, a_crashed, a_config, a_members, a_newestCut, a_reports, a_votes, a_myVote, a_promised, a_acceptedRound, a_acceptedValue, a_ownRound, a_phase, a_promisers, a_promiserRound, a_promiserValue, a_learnedRound, a_learnedFrom, a_learnedValue, a_slots) => (f_rings, f_high, f_low, a_crashed, upd a_config p n, upd a_members p s, upd a_newestCut p c, cd_fill a_reports (p * 16) 0 16, cd_fill a_votes (p * 16) (-1) 16, upd a_myVote p (-1), upd a_promised p 0, upd a_acceptedRound p (-1), upd a_acceptedValue p 0, upd a_ownRound p 0, upd a_phase p 0, upd a_promisers p 0, a_promiserRound, a_promiserValue, upd a_learnedRound p 0, upd a_learnedFrom p 0, upd a_learnedValue p 0, a_slots)
def cx_dec (u : SX) (p : Nat) (cut : Int32) : SX := match u with
  | (f_rings, f_high, f_low, a_crashed, a_config, a_members, a_newestCut, a_reports, a_votes, a_myVote, a_promised, a_acceptedRound, a_acceptedValue, a_ownRound, a_phase, a_promisers, a_promiserRound, a_promiserValue, a_learnedRound, a_learnedFrom, a_learnedValue, a_slots) => cx_send (cx_inst (f_rings, f_high, f_low, a_crashed, a_config, a_members, a_newestCut, a_reports, a_votes, a_myVote, a_promised, a_acceptedRound, a_acceptedValue, a_ownRound, a_phase, a_promisers, a_promiserRound, a_promiserValue, a_learnedRound, a_learnedFrom, a_learnedValue, a_slots) p (a_config p + 1) (a_members p ^^^ cut) cut) p 7 (a_members p ^^^ cut) cut 0 (cut &&& cd_not p)
/-- the stable subjects below s, none where one is unstable -/
def cd_st (rep : Nat → Int32) (b : Nat) (h l : Int32) : Nat → Option Int32
  | 0 => some 0
  | s + 1 => match cd_st rep b h l s with
    | none => none
    | some m => if h ≤ cd_ct (rep (b + s)) then some (m ||| (1 <<< (nI s &&& 31))) else if l ≤ cd_ct (rep (b + s)) then none else some m
def cx_pis (u : SX) (p : Nat) : SX := match u with
  | (f_rings, f_high, f_low, a_crashed, a_config, a_members, a_newestCut, a_reports, a_votes, a_myVote, a_promised, a_acceptedRound, a_acceptedValue, a_ownRound, a_phase, a_promisers, a_promiserRound, a_promiserValue, a_learnedRound, a_learnedFrom, a_learnedValue, a_slots) => match cd_st a_reports (p * 16) f_high f_low 16 with
    | none => (f_rings, f_high, f_low, a_crashed, a_config, a_members, a_newestCut, a_reports, a_votes, a_myVote, a_promised, a_acceptedRound, a_acceptedValue, a_ownRound, a_phase, a_promisers, a_promiserRound, a_promiserValue, a_learnedRound, a_learnedFrom, a_learnedValue, a_slots)
    | some m => if m = 0 then (f_rings, f_high, f_low, a_crashed, a_config, a_members, a_newestCut, a_reports, a_votes, a_myVote, a_promised, a_acceptedRound, a_acceptedValue, a_ownRound, a_phase, a_promisers, a_promiserRound, a_promiserValue, a_learnedRound, a_learnedFrom, a_learnedValue, a_slots) else cx_send (f_rings, f_high, f_low, a_crashed, a_config, a_members, a_newestCut, a_reports, a_votes, upd a_myVote p m, a_promised, upd a_acceptedRound p 0, upd a_acceptedValue p m, a_ownRound, a_phase, a_promisers, a_promiserRound, a_promiserValue, a_learnedRound, a_learnedFrom, a_learnedValue, a_slots) p 2 m 0 0 (a_members p)
def cx_alert (u : SX) (p s : Nat) (y : Int32) : SX := match u with
  | (f_rings, f_high, f_low, a_crashed, a_config, a_members, a_newestCut, a_reports, a_votes, a_myVote, a_promised, a_acceptedRound, a_acceptedValue, a_ownRound, a_phase, a_promisers, a_promiserRound, a_promiserValue, a_learnedRound, a_learnedFrom, a_learnedValue, a_slots) => if a_myVote p = -1 ∧ a_promised p = 0 then cx_pis (f_rings, f_high, f_low, a_crashed, a_config, a_members, a_newestCut, upd a_reports (p * 16 + s) (a_reports (p * 16 + s) ||| y), a_votes, a_myVote, a_promised, a_acceptedRound, a_acceptedValue, a_ownRound, a_phase, a_promisers, a_promiserRound, a_promiserValue, a_learnedRound, a_learnedFrom, a_learnedValue, a_slots) p else (f_rings, f_high, f_low, a_crashed, a_config, a_members, a_newestCut, upd a_reports (p * 16 + s) (a_reports (p * 16 + s) ||| y), a_votes, a_myVote, a_promised, a_acceptedRound, a_acceptedValue, a_ownRound, a_phase, a_promisers, a_promiserRound, a_promiserValue, a_learnedRound, a_learnedFrom, a_learnedValue, a_slots)
/-- how many of the cells b .. b + i - 1 hold x -/
def cd_sm (a : Nat → Int32) (b : Nat) (x : Int32) : Nat → Nat
  | 0 => 0
  | i + 1 => cd_sm a b x i + (if a (b + i) = x then 1 else 0)
theorem cd_smS (a : Nat → Int32) (b : Nat) (x : Int32) (i : Nat) : cd_sm a b x (i + 1) = cd_sm a b x i + (if a (b + i) = x then 1 else 0) := rfl
def cd_fq (m : Int32) : Int32 := (3 * m + 3) / 4
def cd_cq (m : Int32) : Int32 := m / 2 + 1
def cx_vote (u : SX) (p q : Nat) (x : Int32) : SX := match u with
  | (f_rings, f_high, f_low, a_crashed, a_config, a_members, a_newestCut, a_reports, a_votes, a_myVote, a_promised, a_acceptedRound, a_acceptedValue, a_ownRound, a_phase, a_promisers, a_promiserRound, a_promiserValue, a_learnedRound, a_learnedFrom, a_learnedValue, a_slots) => if a_votes (p * 16 + q) = -1 then (if cd_fq (cd_ct (a_members p)) ≤ nI (cd_sm (upd a_votes (p * 16 + q) x) (p * 16) x 16) then cx_dec (f_rings, f_high, f_low, a_crashed, a_config, a_members, a_newestCut, a_reports, upd a_votes (p * 16 + q) x, a_myVote, a_promised, a_acceptedRound, a_acceptedValue, a_ownRound, a_phase, a_promisers, a_promiserRound, a_promiserValue, a_learnedRound, a_learnedFrom, a_learnedValue, a_slots) p x else (f_rings, f_high, f_low, a_crashed, a_config, a_members, a_newestCut, a_reports, upd a_votes (p * 16 + q) x, a_myVote, a_promised, a_acceptedRound, a_acceptedValue, a_ownRound, a_phase, a_promisers, a_promiserRound, a_promiserValue, a_learnedRound, a_learnedFrom, a_learnedValue, a_slots)) else (f_rings, f_high, f_low, a_crashed, a_config, a_members, a_newestCut, a_reports, a_votes, a_myVote, a_promised, a_acceptedRound, a_acceptedValue, a_ownRound, a_phase, a_promisers, a_promiserRound, a_promiserValue, a_learnedRound, a_learnedFrom, a_learnedValue, a_slots)
def cx_prep (u : SX) (p q : Nat) (x : Int32) : SX := match u with
  | (f_rings, f_high, f_low, a_crashed, a_config, a_members, a_newestCut, a_reports, a_votes, a_myVote, a_promised, a_acceptedRound, a_acceptedValue, a_ownRound, a_phase, a_promisers, a_promiserRound, a_promiserValue, a_learnedRound, a_learnedFrom, a_learnedValue, a_slots) => if a_promised p < x then cx_send (f_rings, f_high, f_low, a_crashed, a_config, a_members, a_newestCut, a_reports, a_votes, a_myVote, upd a_promised p x, a_acceptedRound, a_acceptedValue, a_ownRound, a_phase, a_promisers, a_promiserRound, a_promiserValue, a_learnedRound, a_learnedFrom, a_learnedValue, a_slots) p 4 x (a_acceptedRound p) (a_acceptedValue p) (1 <<< (nI q &&& 31)) else (f_rings, f_high, f_low, a_crashed, a_config, a_members, a_newestCut, a_reports, a_votes, a_myVote, a_promised, a_acceptedRound, a_acceptedValue, a_ownRound, a_phase, a_promisers, a_promiserRound, a_promiserValue, a_learnedRound, a_learnedFrom, a_learnedValue, a_slots)
/-- the newest classic promiser among q below i, and its round -/
def cd_nc (pm : Int32) (pr : Nat → Int32) (b : Nat) : Nat → Option Nat × Int32
  | 0 => (none, 15)
  | q + 1 => if bt pm q = true ∧ (cd_nc pm pr b q).2 < pr (b + q) then (some q, pr (b + q)) else cd_nc pm pr b q
def cd_fp (pm : Int32) (pr : Nat → Int32) (b : Nat) : Nat → Int32
  | 0 => 0
  | q + 1 => if bt pm q = true ∧ pr (b + q) = 0 then cd_fp pm pr b q ||| (1 <<< (nI q &&& 31)) else cd_fp pm pr b q
def cd_sv (vs : Int32) (pv : Nat → Int32) (b : Nat) (w : Int32) : Nat → Nat
  | 0 => 0
  | i + 1 => cd_sv vs pv b w i + (if bt vs i = true ∧ pv (b + i) = w then 1 else 0)
/-- the first of d from j on that are voters with at least en of one value -/
def cd_pd (vs : Int32) (pv : Nat → Int32) (b : Nat) (en : Int32) : Nat → Nat → Option Nat
  | 0, _ => none
  | d + 1, j => if bt vs j = true ∧ en ≤ nI (cd_sv vs pv b (pv (b + j)) 16) then some j else cd_pd vs pv b en d (j + 1)
def cd_lo (vs : Int32) : Nat → Nat → Option Nat
  | 0, _ => none
  | d + 1, j => if bt vs j = true then some j else cd_lo vs d (j + 1)
def cd_en (m : Int32) : Int32 := cd_fq m + cd_cq m - m
def cd_ch (pm m : Int32) (pr pv : Nat → Int32) (b : Nat) : Option Nat := match (cd_nc pm pr b 16).1 with
  | some q => some q
  | none => match cd_pd (cd_fp pm pr b 16) pv b (cd_en (cd_ct m)) 16 0 with
    | some q => some q
    | none => cd_lo (cd_fp pm pr b 16) 16 0
def cx_choose (u : SX) (p : Nat) : SX := match u with
  | (f_rings, f_high, f_low, a_crashed, a_config, a_members, a_newestCut, a_reports, a_votes, a_myVote, a_promised, a_acceptedRound, a_acceptedValue, a_ownRound, a_phase, a_promisers, a_promiserRound, a_promiserValue, a_learnedRound, a_learnedFrom, a_learnedValue, a_slots) => match cd_ch (a_promisers p) (a_members p) a_promiserRound a_promiserValue (p * 16) with
    | some q => cx_send (f_rings, f_high, f_low, a_crashed, a_config, a_members, a_newestCut, a_reports, a_votes, a_myVote, a_promised, a_acceptedRound, a_acceptedValue, a_ownRound, upd a_phase p 2, a_promisers, a_promiserRound, a_promiserValue, a_learnedRound, a_learnedFrom, a_learnedValue, a_slots) p 5 (a_ownRound p) (a_promiserValue (p * 16 + q)) 0 (a_members p)
    | none => if a_myVote p = -1 then (f_rings, f_high, f_low, a_crashed, a_config, a_members, a_newestCut, a_reports, a_votes, a_myVote, a_promised, a_acceptedRound, a_acceptedValue, a_ownRound, upd a_phase p 0, a_promisers, a_promiserRound, a_promiserValue, a_learnedRound, a_learnedFrom, a_learnedValue, a_slots) else cx_send (f_rings, f_high, f_low, a_crashed, a_config, a_members, a_newestCut, a_reports, a_votes, a_myVote, a_promised, a_acceptedRound, a_acceptedValue, a_ownRound, upd a_phase p 2, a_promisers, a_promiserRound, a_promiserValue, a_learnedRound, a_learnedFrom, a_learnedValue, a_slots) p 5 (a_ownRound p) (a_myVote p) 0 (a_members p)
def cx_prom (u : SX) (p q : Nat) (x y z : Int32) : SX := match u with
  | (f_rings, f_high, f_low, a_crashed, a_config, a_members, a_newestCut, a_reports, a_votes, a_myVote, a_promised, a_acceptedRound, a_acceptedValue, a_ownRound, a_phase, a_promisers, a_promiserRound, a_promiserValue, a_learnedRound, a_learnedFrom, a_learnedValue, a_slots) => if a_phase p = 1 ∧ x = a_ownRound p ∧ bt (a_promisers p) q = false then (if cd_ct (a_promisers p ||| (1 <<< (nI q &&& 31))) = cd_cq (cd_ct (a_members p)) then cx_choose (f_rings, f_high, f_low, a_crashed, a_config, a_members, a_newestCut, a_reports, a_votes, a_myVote, a_promised, a_acceptedRound, a_acceptedValue, a_ownRound, a_phase, upd a_promisers p (a_promisers p ||| (1 <<< (nI q &&& 31))), upd a_promiserRound (p * 16 + q) y, upd a_promiserValue (p * 16 + q) z, a_learnedRound, a_learnedFrom, a_learnedValue, a_slots) p else (f_rings, f_high, f_low, a_crashed, a_config, a_members, a_newestCut, a_reports, a_votes, a_myVote, a_promised, a_acceptedRound, a_acceptedValue, a_ownRound, a_phase, upd a_promisers p (a_promisers p ||| (1 <<< (nI q &&& 31))), upd a_promiserRound (p * 16 + q) y, upd a_promiserValue (p * 16 + q) z, a_learnedRound, a_learnedFrom, a_learnedValue, a_slots)) else (f_rings, f_high, f_low, a_crashed, a_config, a_members, a_newestCut, a_reports, a_votes, a_myVote, a_promised, a_acceptedRound, a_acceptedValue, a_ownRound, a_phase, a_promisers, a_promiserRound, a_promiserValue, a_learnedRound, a_learnedFrom, a_learnedValue, a_slots)
def cx_acc (u : SX) (p : Nat) (x y : Int32) : SX := match u with
  | (f_rings, f_high, f_low, a_crashed, a_config, a_members, a_newestCut, a_reports, a_votes, a_myVote, a_promised, a_acceptedRound, a_acceptedValue, a_ownRound, a_phase, a_promisers, a_promiserRound, a_promiserValue, a_learnedRound, a_learnedFrom, a_learnedValue, a_slots) => if a_promised p ≤ x then cx_send (f_rings, f_high, f_low, a_crashed, a_config, a_members, a_newestCut, a_reports, a_votes, a_myVote, upd a_promised p x, upd a_acceptedRound p x, upd a_acceptedValue p y, a_ownRound, a_phase, a_promisers, a_promiserRound, a_promiserValue, a_learnedRound, a_learnedFrom, a_learnedValue, a_slots) p 6 x y 0 (a_members p) else (f_rings, f_high, f_low, a_crashed, a_config, a_members, a_newestCut, a_reports, a_votes, a_myVote, a_promised, a_acceptedRound, a_acceptedValue, a_ownRound, a_phase, a_promisers, a_promiserRound, a_promiserValue, a_learnedRound, a_learnedFrom, a_learnedValue, a_slots)
def cx_lrn (u : SX) (p q : Nat) : SX := match u with
  | (f_rings, f_high, f_low, a_crashed, a_config, a_members, a_newestCut, a_reports, a_votes, a_myVote, a_promised, a_acceptedRound, a_acceptedValue, a_ownRound, a_phase, a_promisers, a_promiserRound, a_promiserValue, a_learnedRound, a_learnedFrom, a_learnedValue, a_slots) => if cd_cq (cd_ct (a_members p)) ≤ cd_ct (a_learnedFrom p ||| (1 <<< (nI q &&& 31))) then cx_dec (f_rings, f_high, f_low, a_crashed, a_config, a_members, a_newestCut, a_reports, a_votes, a_myVote, a_promised, a_acceptedRound, a_acceptedValue, a_ownRound, a_phase, a_promisers, a_promiserRound, a_promiserValue, a_learnedRound, upd a_learnedFrom p (a_learnedFrom p ||| (1 <<< (nI q &&& 31))), a_learnedValue, a_slots) p (a_learnedValue p) else (f_rings, f_high, f_low, a_crashed, a_config, a_members, a_newestCut, a_reports, a_votes, a_myVote, a_promised, a_acceptedRound, a_acceptedValue, a_ownRound, a_phase, a_promisers, a_promiserRound, a_promiserValue, a_learnedRound, upd a_learnedFrom p (a_learnedFrom p ||| (1 <<< (nI q &&& 31))), a_learnedValue, a_slots)
def cx_acd (u : SX) (p q : Nat) (x y : Int32) : SX := match u with
  | (f_rings, f_high, f_low, a_crashed, a_config, a_members, a_newestCut, a_reports, a_votes, a_myVote, a_promised, a_acceptedRound, a_acceptedValue, a_ownRound, a_phase, a_promisers, a_promiserRound, a_promiserValue, a_learnedRound, a_learnedFrom, a_learnedValue, a_slots) => if x < a_learnedRound p then (f_rings, f_high, f_low, a_crashed, a_config, a_members, a_newestCut, a_reports, a_votes, a_myVote, a_promised, a_acceptedRound, a_acceptedValue, a_ownRound, a_phase, a_promisers, a_promiserRound, a_promiserValue, a_learnedRound, a_learnedFrom, a_learnedValue, a_slots) else if a_learnedRound p < x then cx_lrn (f_rings, f_high, f_low, a_crashed, a_config, a_members, a_newestCut, a_reports, a_votes, a_myVote, a_promised, a_acceptedRound, a_acceptedValue, a_ownRound, a_phase, a_promisers, a_promiserRound, a_promiserValue, upd a_learnedRound p x, upd a_learnedFrom p 0, upd a_learnedValue p y, a_slots) p q else cx_lrn (f_rings, f_high, f_low, a_crashed, a_config, a_members, a_newestCut, a_reports, a_votes, a_myVote, a_promised, a_acceptedRound, a_acceptedValue, a_ownRound, a_phase, a_promisers, a_promiserRound, a_promiserValue, a_learnedRound, a_learnedFrom, a_learnedValue, a_slots) p q
def cx_mem (u : SX) (p q : Nat) (kind c x y z : Int32) : SX := match u with
  | (f_rings, f_high, f_low, a_crashed, a_config, a_members, a_newestCut, a_reports, a_votes, a_myVote, a_promised, a_acceptedRound, a_acceptedValue, a_ownRound, a_phase, a_promisers, a_promiserRound, a_promiserValue, a_learnedRound, a_learnedFrom, a_learnedValue, a_slots) => if c < a_config p then (if q = p then (f_rings, f_high, f_low, a_crashed, a_config, a_members, a_newestCut, a_reports, a_votes, a_myVote, a_promised, a_acceptedRound, a_acceptedValue, a_ownRound, a_phase, a_promisers, a_promiserRound, a_promiserValue, a_learnedRound, a_learnedFrom, a_learnedValue, a_slots) else cx_send (f_rings, f_high, f_low, a_crashed, a_config, a_members, a_newestCut, a_reports, a_votes, a_myVote, a_promised, a_acceptedRound, a_acceptedValue, a_ownRound, a_phase, a_promisers, a_promiserRound, a_promiserValue, a_learnedRound, a_learnedFrom, a_learnedValue, a_slots) p 7 (a_members p) (a_newestCut p) 0 (1 <<< (nI q &&& 31)))
    else if a_config p < c then (f_rings, f_high, f_low, a_crashed, a_config, a_members, a_newestCut, a_reports, a_votes, a_myVote, a_promised, a_acceptedRound, a_acceptedValue, a_ownRound, a_phase, a_promisers, a_promiserRound, a_promiserValue, a_learnedRound, a_learnedFrom, a_learnedValue, a_slots)
    else if kind = 1 then cx_alert (f_rings, f_high, f_low, a_crashed, a_config, a_members, a_newestCut, a_reports, a_votes, a_myVote, a_promised, a_acceptedRound, a_acceptedValue, a_ownRound, a_phase, a_promisers, a_promiserRound, a_promiserValue, a_learnedRound, a_learnedFrom, a_learnedValue, a_slots) p x.toNatClampNeg y
    else if kind = 2 then cx_vote (f_rings, f_high, f_low, a_crashed, a_config, a_members, a_newestCut, a_reports, a_votes, a_myVote, a_promised, a_acceptedRound, a_acceptedValue, a_ownRound, a_phase, a_promisers, a_promiserRound, a_promiserValue, a_learnedRound, a_learnedFrom, a_learnedValue, a_slots) p q x
    else if kind = 3 then cx_prep (f_rings, f_high, f_low, a_crashed, a_config, a_members, a_newestCut, a_reports, a_votes, a_myVote, a_promised, a_acceptedRound, a_acceptedValue, a_ownRound, a_phase, a_promisers, a_promiserRound, a_promiserValue, a_learnedRound, a_learnedFrom, a_learnedValue, a_slots) p q x
    else if kind = 4 then cx_prom (f_rings, f_high, f_low, a_crashed, a_config, a_members, a_newestCut, a_reports, a_votes, a_myVote, a_promised, a_acceptedRound, a_acceptedValue, a_ownRound, a_phase, a_promisers, a_promiserRound, a_promiserValue, a_learnedRound, a_learnedFrom, a_learnedValue, a_slots) p q x y z
    else if kind = 5 then cx_acc (f_rings, f_high, f_low, a_crashed, a_config, a_members, a_newestCut, a_reports, a_votes, a_myVote, a_promised, a_acceptedRound, a_acceptedValue, a_ownRound, a_phase, a_promisers, a_promiserRound, a_promiserValue, a_learnedRound, a_learnedFrom, a_learnedValue, a_slots) p x y
    else if kind = 6 then cx_acd (f_rings, f_high, f_low, a_crashed, a_config, a_members, a_newestCut, a_reports, a_votes, a_myVote, a_promised, a_acceptedRound, a_acceptedValue, a_ownRound, a_phase, a_promisers, a_promiserRound, a_promiserValue, a_learnedRound, a_learnedFrom, a_learnedValue, a_slots) p q x y
    else (f_rings, f_high, f_low, a_crashed, a_config, a_members, a_newestCut, a_reports, a_votes, a_myVote, a_promised, a_acceptedRound, a_acceptedValue, a_ownRound, a_phase, a_promisers, a_promiserRound, a_promiserValue, a_learnedRound, a_learnedFrom, a_learnedValue, a_slots)
def cx_recv (u : SX) (p q : Nat) (kind c x y z : Int32) : SX := match u with
  | (f_rings, f_high, f_low, a_crashed, a_config, a_members, a_newestCut, a_reports, a_votes, a_myVote, a_promised, a_acceptedRound, a_acceptedValue, a_ownRound, a_phase, a_promisers, a_promiserRound, a_promiserValue, a_learnedRound, a_learnedFrom, a_learnedValue, a_slots) => if a_crashed p = 0 then (if kind = 7 then (if a_config p < c then cx_inst (f_rings, f_high, f_low, a_crashed, a_config, a_members, a_newestCut, a_reports, a_votes, a_myVote, a_promised, a_acceptedRound, a_acceptedValue, a_ownRound, a_phase, a_promisers, a_promiserRound, a_promiserValue, a_learnedRound, a_learnedFrom, a_learnedValue, a_slots) p c x y else (f_rings, f_high, f_low, a_crashed, a_config, a_members, a_newestCut, a_reports, a_votes, a_myVote, a_promised, a_acceptedRound, a_acceptedValue, a_ownRound, a_phase, a_promisers, a_promiserRound, a_promiserValue, a_learnedRound, a_learnedFrom, a_learnedValue, a_slots)) else if bt (a_members p) p = true then cx_mem (f_rings, f_high, f_low, a_crashed, a_config, a_members, a_newestCut, a_reports, a_votes, a_myVote, a_promised, a_acceptedRound, a_acceptedValue, a_ownRound, a_phase, a_promisers, a_promiserRound, a_promiserValue, a_learnedRound, a_learnedFrom, a_learnedValue, a_slots) p q kind c x y z else (f_rings, f_high, f_low, a_crashed, a_config, a_members, a_newestCut, a_reports, a_votes, a_myVote, a_promised, a_acceptedRound, a_acceptedValue, a_ownRound, a_phase, a_promisers, a_promiserRound, a_promiserValue, a_learnedRound, a_learnedFrom, a_learnedValue, a_slots)) else (f_rings, f_high, f_low, a_crashed, a_config, a_members, a_newestCut, a_reports, a_votes, a_myVote, a_promised, a_acceptedRound, a_acceptedValue, a_ownRound, a_phase, a_promisers, a_promiserRound, a_promiserValue, a_learnedRound, a_learnedFrom, a_learnedValue, a_slots)
def cx_off (u : SX) (i p : Nat) : SX := match u with
  | (f_rings, f_high, f_low, a_crashed, a_config, a_members, a_newestCut, a_reports, a_votes, a_myVote, a_promised, a_acceptedRound, a_acceptedValue, a_ownRound, a_phase, a_promisers, a_promiserRound, a_promiserValue, a_learnedRound, a_learnedFrom, a_learnedValue, a_slots) => (f_rings, f_high, f_low, a_crashed, a_config, a_members, a_newestCut, a_reports, a_votes, a_myVote, a_promised, a_acceptedRound, a_acceptedValue, a_ownRound, a_phase, a_promisers, a_promiserRound, a_promiserValue, a_learnedRound, a_learnedFrom, a_learnedValue, cd_off a_slots i p)
def cx_del (u : SX) (i p : Nat) : SX := match u with
  | (f_rings, f_high, f_low, a_crashed, a_config, a_members, a_newestCut, a_reports, a_votes, a_myVote, a_promised, a_acceptedRound, a_acceptedValue, a_ownRound, a_phase, a_promisers, a_promiserRound, a_promiserValue, a_learnedRound, a_learnedFrom, a_learnedValue, a_slots) => cx_recv (cx_off (f_rings, f_high, f_low, a_crashed, a_config, a_members, a_newestCut, a_reports, a_votes, a_myVote, a_promised, a_acceptedRound, a_acceptedValue, a_ownRound, a_phase, a_promisers, a_promiserRound, a_promiserValue, a_learnedRound, a_learnedFrom, a_learnedValue, a_slots) i p) p (a_slots (i * 7 + 1)).toNatClampNeg (a_slots (i * 7)) (a_slots (i * 7 + 2)) (a_slots (i * 7 + 3)) (a_slots (i * 7 + 4)) (a_slots (i * 7 + 5))
def cx_fb (u : SX) (p : Nat) (r : Int32) : SX := match u with
  | (f_rings, f_high, f_low, a_crashed, a_config, a_members, a_newestCut, a_reports, a_votes, a_myVote, a_promised, a_acceptedRound, a_acceptedValue, a_ownRound, a_phase, a_promisers, a_promiserRound, a_promiserValue, a_learnedRound, a_learnedFrom, a_learnedValue, a_slots) => cx_send (f_rings, f_high, f_low, a_crashed, a_config, a_members, a_newestCut, a_reports, a_votes, a_myVote, a_promised, a_acceptedRound, a_acceptedValue, upd a_ownRound p r, upd a_phase p 1, upd a_promisers p 0, a_promiserRound, a_promiserValue, a_learnedRound, a_learnedFrom, a_learnedValue, a_slots) p 3 r 0 0 (a_members p)
def cd_stt (cr mem : Int32) (p : Nat) : Int32 := if cr = 0 then (if bt mem p = true then 1 else 2) else 3
end CD2
end
section
section CD3
/-! the two states: one but for the recorded promises and the slots -/
def cy_Q (pm pr pv pr' pv' : Nat → Int32) : Prop := ∀ p q, p < 16 → q < 16 → bt (pm p) q = true → pr' (p * 16 + q) = pr (p * 16 + q) ∧ pv' (p * 16 + q) = pv (p * 16 + q)
def cy_S (s t : Nat → Int32) : Prop := ∀ i, i < 32 → t (i * 7 + 6) = s (i * 7 + 6) ∧ (s (i * 7 + 6) = 0 → ∀ f, f < 7 → s (i * 7 + f) = 0) ∧ (¬ s (i * 7 + 6) = 0 → (∀ f, f < 7 → t (i * 7 + f) = s (i * 7 + f)) ∧ (∃ q, q < 16 ∧ s (i * 7 + 1) = nI q) ∧ (s (i * 7) = 1 → ∃ x, x < 16 ∧ s (i * 7 + 3) = nI x))
def cy_R (u : SX) (v : SY) : Prop := match u with
  | (f_rings, f_high, f_low, a_crashed, a_config, a_members, a_newestCut, a_reports, a_votes, a_myVote, a_promised, a_acceptedRound, a_acceptedValue, a_ownRound, a_phase, a_promisers, a_promiserRound, a_promiserValue, a_learnedRound, a_learnedFrom, a_learnedValue, a_slots) => ∃ a_pr a_pv a_sm : Nat → Int32, v = (f_rings, f_high, f_low, a_crashed, a_config, a_members, a_newestCut, a_myVote, a_promised, a_acceptedRound, a_acceptedValue, a_ownRound, a_phase, a_promisers, a_learnedRound, a_learnedFrom, a_learnedValue, a_reports, a_votes, a_pr, a_pv, a_sm) ∧ (∃ K, K ≤ 6 ∧ f_rings = nI K) ∧ cy_Q a_promisers a_promiserRound a_promiserValue a_pr a_pv ∧ cy_S a_slots a_sm
theorem cd_putO {s : Nat → Int32} {b j : Nat} {kind p c x y z d : Int32} (h : ¬ (b ≤ j ∧ j < b + 7)) : cd_put s b kind p c x y z d j = s j := by
  unfold cd_put
  rw [pk_un (by omega), pk_un (by omega), pk_un (by omega), pk_un (by omega), pk_un (by omega), pk_un (by omega), pk_un (by omega)]
theorem cd_put6 {s : Nat → Int32} {b : Nat} {kind p c x y z d : Int32} : cd_put s b kind p c x y z d (b + 6) = d := pk_us
theorem cd_put3 {s : Nat → Int32} {b : Nat} {kind p c x y z d : Int32} : cd_put s b kind p c x y z d (b + 3) = x := by
  unfold cd_put
  rw [pk_un (by omega), pk_un (by omega), pk_un (by omega), pk_us]
theorem cd_put1 {s : Nat → Int32} {b : Nat} {kind p c x y z d : Int32} : cd_put s b kind p c x y z d (b + 1) = p := by
  unfold cd_put
  rw [pk_un (by omega), pk_un (by omega), pk_un (by omega), pk_un (by omega), pk_un (by omega), pk_us]
theorem cd_put0 {s : Nat → Int32} {b : Nat} {kind p c x y z d : Int32} : cd_put s b kind p c x y z d b = kind := by
  unfold cd_put
  rw [pk_un (by omega), pk_un (by omega), pk_un (by omega), pk_un (by omega), pk_un (by omega), pk_un (by omega), pk_us]
theorem cd_putE {s t : Nat → Int32} {b : Nat} {kind p c x y z d : Int32} {f : Nat} (hf : f < 7) : cd_put s b kind p c x y z d (b + f) = cd_put t b kind p c x y z d (b + f) := by
  unfold cd_put upd
  by_cases h6 : b + f = b + 6
  · rw [if_pos h6, if_pos h6]
  by_cases h5 : b + f = b + 5
  · rw [if_neg h6, if_neg h6, if_pos h5, if_pos h5]
  by_cases h4 : b + f = b + 4
  · rw [if_neg h6, if_neg h6, if_neg h5, if_neg h5, if_pos h4, if_pos h4]
  by_cases h3 : b + f = b + 3
  · rw [if_neg h6, if_neg h6, if_neg h5, if_neg h5, if_neg h4, if_neg h4, if_pos h3, if_pos h3]
  by_cases h2 : b + f = b + 2
  · rw [if_neg h6, if_neg h6, if_neg h5, if_neg h5, if_neg h4, if_neg h4, if_neg h3, if_neg h3, if_pos h2, if_pos h2]
  by_cases h1 : b + f = b + 1
  · rw [if_neg h6, if_neg h6, if_neg h5, if_neg h5, if_neg h4, if_neg h4, if_neg h3, if_neg h3, if_neg h2, if_neg h2, if_pos h1, if_pos h1]
  have h0 : b + f = b := by omega
  rw [if_neg h6, if_neg h6, if_neg h5, if_neg h5, if_neg h4, if_neg h4, if_neg h3, if_neg h3, if_neg h2, if_neg h2, if_neg h1, if_neg h1, if_pos h0, if_pos h0]
theorem cd_fr_in {s : Nat → Int32} : ∀ {d j i : Nat}, cd_fr s d j = some i → i < j + d ∧ s (i * 7 + 6) = 0 := by
  intro d
  induction d with
  | zero => intro j i h; exact absurd h (by unfold cd_fr; exact fun z => nomatch z)
  | succ d ih =>
    intro j i h
    unfold cd_fr at h
    by_cases z : s (j * 7 + 6) = 0
    · rw [if_pos z] at h
      cases h
      exact ⟨by omega, z⟩
    · rw [if_neg z] at h
      have := ih h
      exact ⟨by omega, this.2⟩
theorem cd_fr_eq {s t : Nat → Int32} : ∀ {d j : Nat}, (∀ i, i < j + d → t (i * 7 + 6) = s (i * 7 + 6)) → cd_fr t d j = cd_fr s d j := by
  intro d
  induction d with
  | zero => intro j _; rfl
  | succ d ih =>
    intro j h
    unfold cd_fr
    rw [h j (by omega), ih (fun i hi => h i (by omega))]
theorem cy_S_send {s t : Nat → Int32} (S : cy_S s t) {p : Nat} (hp : p < 16) {c kind x y z d : Int32} (hx : kind = 1 → ∃ j, j < 16 ∧ x = nI j) : cy_S (cd_sd s (nI p) c kind x y z d) (cd_sd t (nI p) c kind x y z d) := by
  unfold cd_sd
  by_cases hd : d &&& 65535 = 0
  · rw [if_pos hd, if_pos hd]; exact S
  · rw [if_neg hd, if_neg hd, cd_fr_eq (s := s) (t := t) (fun i hi => (S i (by omega)).1)]
    cases e : cd_fr s 32 0 with
    | none => exact S
    | some i =>
      have hi := cd_fr_in e
      dsimp only
      intro j hj
      by_cases hji : j = i
      · subst hji
        refine ⟨by rw [cd_put6, cd_put6], fun z0 => ?_, fun _ => ⟨fun f hf => cd_putE hf, ⟨p, hp, cd_put1⟩, fun k1 => ?_⟩⟩
        · rw [cd_put6] at z0; exact absurd z0 hd
        · rw [cd_put0] at k1
          obtain ⟨j2, h2, e2⟩ := hx k1
          exact ⟨j2, h2, cd_put3.trans e2⟩
      · have o : ∀ (a : Nat → Int32) (f : Nat), f < 7 → cd_put a (i * 7) kind (nI p) c x y z (d &&& 65535) (j * 7 + f) = a (j * 7 + f) := fun a f hf => cd_putO (by omega)
        have o0 : ∀ (a : Nat → Int32), cd_put a (i * 7) kind (nI p) c x y z (d &&& 65535) (j * 7) = a (j * 7) := fun a => cd_putO (by omega)
        obtain ⟨h1, h2, h3⟩ := S j hj
        refine ⟨by rw [o _ 6 (by omega), o _ 6 (by omega)]; exact h1, fun z0 f hf => ?_, fun n0 => ?_⟩
        · rw [o _ 6 (by omega)] at z0
          rw [o _ f hf]; exact h2 z0 f hf
        · rw [o _ 6 (by omega)] at n0
          obtain ⟨a, b, cc⟩ := h3 n0
          refine ⟨fun f hf => by rw [o _ f hf, o _ f hf]; exact a f hf, ?_, fun k1 => ?_⟩
          · rw [o _ 1 (by omega)]; exact b
          · rw [o0] at k1
            rw [o _ 3 (by omega)]; exact cc k1
theorem cy_S_off {s t : Nat → Int32} (S : cy_S s t) {i p : Nat} (hi : i < 32) : cy_S (cd_off s i p) (upd t (i * 7 + 6) (t (i * 7 + 6) &&& cd_not p)) := by
  intro j hj
  obtain ⟨h1, h2, h3⟩ := S j hj
  by_cases hji : j = i
  · subst hji
    unfold cd_off
    by_cases z : s (j * 7 + 6) &&& cd_not p = 0
    · rw [if_pos z]
      refine ⟨?_, fun _ f hf => cd_fillI (by omega) (by omega), fun n => absurd (cd_fillI (by omega) (by omega)) n⟩
      rw [pk_us, cd_fillI (by omega) (by omega), h1, z]
    · rw [if_neg z, pk_us, pk_us, h1]
      have n0 : ¬ s (j * 7 + 6) = 0 := by
        intro e
        rw [e] at z
        exact z (Int32.zero_and)
      obtain ⟨a, b, c⟩ := h3 n0
      refine ⟨rfl, fun e => absurd e z, fun _ => ⟨fun f hf => ?_, ?_, fun k1 => ?_⟩⟩
      · by_cases h6 : f = 6
        · subst h6; rw [pk_us, pk_us]
        · rw [pk_un (by omega), pk_un (by omega)]; exact a f hf
      · rw [pk_un (by omega)]; exact b
      · rw [pk_un (by omega)] at k1
        rw [pk_un (by omega)]; exact c k1
  · have o : ∀ f, f < 7 → cd_off s i p (j * 7 + f) = s (j * 7 + f) := by
      intro f hf
      unfold cd_off
      by_cases z : s (i * 7 + 6) &&& cd_not p = 0
      · rw [if_pos z, cd_fillO (by omega), pk_un (by omega)]
      · rw [if_neg z, pk_un (by omega)]
    have o0 : cd_off s i p (j * 7) = s (j * 7) := o 0 (by omega)
    refine ⟨by rw [o 6 (by omega), pk_un (by omega)]; exact h1, fun z0 f hf => ?_, fun n0 => ?_⟩
    · rw [o 6 (by omega)] at z0
      rw [o f hf]; exact h2 z0 f hf
    · rw [o 6 (by omega)] at n0
      obtain ⟨a, b, cc⟩ := h3 n0
      refine ⟨fun f hf => by rw [o f hf, pk_un (by omega)]; exact a f hf, ?_, fun k1 => ?_⟩
      · rw [o 1 (by omega)]; exact b
      · rw [o0] at k1
        rw [o 3 (by omega)]; exact cc k1
/-! the nearest on a ring, whatever the first bound -/
theorem cd_nr_eq (m s r : Int32) : ∀ y, cd_nr m s r 99 y = cd_nr m s r 17 y ∨ (cd_nr m s r 99 y = (-1, 99) ∧ cd_nr m s r 17 y = (-1, 17)) := by
  intro y
  induction y with
  | zero => exact Or.inr ⟨rfl, rfl⟩
  | succ y ih =>
    have h17 : cd_dst r s (nI y) < 17 := cd_mr _
    have h99 : cd_dst r s (nI y) < 99 := Int32.lt_trans h17 (by decide)
    unfold cd_nr
    rcases ih with e | ⟨e1, e2⟩
    · rw [e]; exact Or.inl rfl
    · rw [e1, e2]
      by_cases c : ¬ nI y = s ∧ bt m y = true
      · left
        rw [if_pos ⟨c.1, c.2, h99⟩, if_pos ⟨c.1, c.2, h17⟩]
      · right
        rw [if_neg (fun z => c ⟨z.1, z.2.1⟩), if_neg (fun z => c ⟨z.1, z.2.1⟩)]
        exact ⟨rfl, rfl⟩
theorem cd_nr_obs (m s r : Int32) : (cd_nr m s r 99 16).1 = cd_obs m s r := by
  unfold cd_obs
  rcases cd_nr_eq m s r 16 with e | ⟨e1, e2⟩
  · rw [e]
  · rw [e1, e2]
end CD3
end
section
section CD4
variable {f_rings f_high f_low : Int32} {a_crashed a_config a_members a_newestCut a_reports a_votes a_myVote a_promised a_acceptedRound a_acceptedValue a_ownRound a_phase a_promisers a_promiserRound a_promiserValue a_learnedRound a_learnedFrom a_learnedValue a_slots : Nat → Int32}
theorem cx_eta {post : SX → Prop} {u : SX} (h : post u) : (match u with | (f_rings, f_high, f_low, a_crashed, a_config, a_members, a_newestCut, a_reports, a_votes, a_myVote, a_promised, a_acceptedRound, a_acceptedValue, a_ownRound, a_phase, a_promisers, a_promiserRound, a_promiserValue, a_learnedRound, a_learnedFrom, a_learnedValue, a_slots) => post (f_rings, f_high, f_low, a_crashed, a_config, a_members, a_newestCut, a_reports, a_votes, a_myVote, a_promised, a_acceptedRound, a_acceptedValue, a_ownRound, a_phase, a_promisers, a_promiserRound, a_promiserValue, a_learnedRound, a_learnedFrom, a_learnedValue, a_slots)) := h
theorem cd_a0 (n : Nat) : nI n + 0 = nI n := Int32.add_zero _
theorem cd_a1 (n : Nat) : nI n + 1 = nI (n + 1) := nI_add n 1
theorem cd_a2 (n : Nat) : nI n + 2 = nI (n + 2) := nI_add n 2
theorem cd_a3 (n : Nat) : nI n + 3 = nI (n + 3) := nI_add n 3
theorem cd_a4 (n : Nat) : nI n + 4 = nI (n + 4) := nI_add n 4
theorem cd_a5 (n : Nat) : nI n + 5 = nI (n + 5) := nI_add n 5
theorem cd_a6 (n : Nat) : nI n + 6 = nI (n + 6) := nI_add n 6
theorem cd_cl {p : Nat} (hp : p < 16) : (nI p).toNatClampNeg = p := nI_clamp (by omega)
theorem cd_vi {p : Nat} (hp : p < 16) : vp_in (nI p) 16 := vp_in_nI hp (by decide)
theorem cd_cl16 {p q : Nat} (hp : p < 16) (hq : q < 16) : (nI p * 16 + nI q).toNatClampNeg = p * 16 + q := by rw [cd_i16]; exact nI_clamp (by omega)
theorem cd_vi16 {p q : Nat} (hp : p < 16) (hq : q < 16) : vp_in (nI p * 16 + nI q) 256 := by rw [cd_i16]; exact vp_in_nI (by omega) (by decide)
theorem cd_ge16 {i : Nat} (h : i < 16) : ¬ (16 : Int32) ≤ nI i := nI_ge (b := 16) h (by decide)
theorem cd_at16 {i : Nat} (h : i = 16) : (16 : Int32) ≤ nI i := by subst h; decide
theorem cd_ne1 {i : Nat} (h : i < 2 ^ 31) : ¬ nI i = -1 := by
  intro e
  have := nI_pos (n := i) h
  rw [e] at this
  exact this (by decide)
theorem cd_px (x : Int32) : x < 0 ∨ (¬ x < 0 ∧ (16 : Int32) ≤ x ∧ (15 : Int32) < x ∧ ¬ x ≤ 15) ∨ ∃ j, j < 16 ∧ x = nI j := by
  rcases pk_ix x (n := 16) (by decide) with h | h | h
  · exact Or.inl h
  · have h : (16 : Int32) ≤ x := h
    have h15 : (15 : Int32) < x := Int32.lt_of_lt_of_le (by decide) h
    exact Or.inr (Or.inl ⟨fun z => absurd (Int32.lt_of_le_of_lt h z) (by decide), h, h15, Int32.not_le.mpr h15⟩)
  · exact Or.inr (Or.inr h)
theorem cd_sx (x : Int32) : x < 0 ∨ (¬ x < 0 ∧ (32 : Int32) ≤ x) ∨ ∃ j, j < 32 ∧ x = nI j := by
  rcases pk_ix x (n := 32) (by decide) with h | h | h
  · exact Or.inl h
  · have h : (32 : Int32) ≤ x := h
    exact Or.inr (Or.inl ⟨fun z => absurd (Int32.lt_of_le_of_lt h z) (by decide), h⟩)
  · exact Or.inr (Or.inr h)
theorem cd_j0 {j : Nat} (h : j < 16) : ¬ nI j < 0 := nI_pos (by omega)
theorem cd_j15 {j : Nat} (h : j < 16) : ¬ (15 : Int32) < nI j := nI_nlt (a := 15) (b := j) (by omega) (by decide)
theorem cd_l15 {j : Nat} (h : j < 16) : nI j ≤ (15 : Int32) := nI_le (b := 15) (by omega) (by decide)
theorem xw_isP {post : Int32 → Prop} {j : Nat} (hj : j < 16) (h : post 1) : wpX_isProcess post (nI j) := br_f (cd_j0 hj) (br_f (cd_ge16 hj) h)
theorem xw_has {post : Int32 → Prop} {x : Int32} {i : Nat} (hi : i < 32) (h0 : bt x i = false → post 0) (h1 : bt x i = true → post 1) : wpX_has post x (nI i) := br_c (fun e => h0 ((cd_has hi).mp e)) (fun e => h1 ((cd_hasn hi).mp e))
theorem xw_key {post : Int32 → Prop} {r x : Int32} (h : post (cd_key r x)) : wpX_key post r x := ⟨by decide, h⟩
theorem xw_nearL {post : Int32 → Prop} {m s r : Int32} (h : post (cd_obs m s r)) : ∀ d y, y + d = 16 → wX_nearestOnRing_16 post m s r (cd_key r s) (d + 1) (cd_nr m s r 17 y).1 (cd_nr m s r 17 y).2 (nI y) := by
  intro d
  induction d with
  | zero =>
    intro y hy
    have e : y = 16 := by omega
    subst e
    exact br_t (cd_at16 rfl) h
  | succ d ih =>
    intro y hy
    have ih := ih (y + 1) (by omega)
    refine br_f (cd_ge16 (by omega)) (xw_key ⟨by decide, nm_r (e' := cd_dst r s (nI y)) rfl ?_⟩)
    by_cases hs : nI y = s
    · have e : cd_nr m s r 17 (y + 1) = cd_nr m s r 17 y := if_neg (fun z => z.1 hs)
      rw [e] at ih
      exact br_t hs (nm_r (nI_1 y) ih)
    · refine br_f hs (xw_has (by omega) (fun hb => ?_) (fun hb => ?_))
      · have e : cd_nr m s r 17 (y + 1) = cd_nr m s r 17 y := if_neg (fun z => by rw [hb] at z; exact absurd z.2.1 (by decide))
        rw [e] at ih
        exact br_t rfl (nm_r (nI_1 y) ih)
      · refine br_f (by decide) ?_
        by_cases hd : (cd_nr m s r 17 y).2 ≤ cd_dst r s (nI y)
        · have e : cd_nr m s r 17 (y + 1) = cd_nr m s r 17 y := if_neg (fun z => Int32.not_lt.mpr hd z.2.2)
          rw [e] at ih
          exact br_t hd (nm_r (nI_1 y) ih)
        · have e : cd_nr m s r 17 (y + 1) = (nI y, cd_dst r s (nI y)) := if_pos ⟨hs, hb, Int32.not_le.mp hd⟩
          rw [e] at ih
          exact br_f hd (nm_r (nI_1 y) ih)
theorem xw_near {post : Int32 → Prop} {m s r : Int32} (h : post (cd_obs m s r)) : wpX_nearestOnRing post m s r := by
  unfold wpX_nearestOnRing
  refine xw_key ⟨17, ?_⟩
  exact xw_nearL h 16 0 rfl
theorem xw_watL {post : Int32 → Prop} {o K : Nat} (ho : o < 16) (hK : K ≤ 6) {s : Int32} (h : post (cd_wat (a_members o) (nI o) s K)) : ∀ d r, r + d = K → wX_ringsWatched_5 post (nI o) s (nI K) f_high f_low a_crashed a_config a_members a_newestCut a_reports a_votes a_myVote a_promised a_acceptedRound a_acceptedValue a_ownRound a_phase a_promisers a_promiserRound a_promiserValue a_learnedRound a_learnedFrom a_learnedValue a_slots (d + 1) (cd_wat (a_members o) (nI o) s r) (nI r) := by
  intro d
  induction d with
  | zero =>
    intro r hr
    have e : r = K := by omega
    subst e
    exact br_t (nI_le (Nat.le_refl r) (by omega)) h
  | succ d ih =>
    intro r hr
    have ih := ih (r + 1) (by omega)
    refine br_f (nI_ge (by omega) (by omega)) ⟨cd_vi ho, xw_near ?_⟩
    rw [cd_cl ho]
    by_cases c : cd_obs (a_members o) s (nI r) = nI o
    · have e : cd_wat (a_members o) (nI o) s (r + 1) = cd_wat (a_members o) (nI o) s r ||| (1 <<< (nI r &&& 31)) := if_pos c
      rw [e] at ih
      exact br_t c (nm_e (nm_r (nI_1 r) ih))
    · have e : cd_wat (a_members o) (nI o) s (r + 1) = cd_wat (a_members o) (nI o) s r := if_neg c
      rw [e] at ih
      exact br_f c (nm_r (nI_1 r) ih)
theorem xw_wat {post : Int32 → Prop} {o K : Nat} (ho : o < 16) (hK : K ≤ 6) (hr : f_rings = nI K) {s : Int32} (h : post (cd_wat (a_members o) (nI o) s K)) : wpX_ringsWatched post (f_rings, f_high, f_low, a_crashed, a_config, a_members, a_newestCut, a_reports, a_votes, a_myVote, a_promised, a_acceptedRound, a_acceptedValue, a_ownRound, a_phase, a_promisers, a_promiserRound, a_promiserValue, a_learnedRound, a_learnedFrom, a_learnedValue, a_slots) (nI o) s := by
  subst hr
  exact ⟨K + 1, xw_watL ho hK h K 0 (by omega)⟩
theorem cd_v7 {j k : Nat} (hj : j < 32) (hk : k < 7) : vp_in (nI (j * 7 + k)) 224 := vp_in_nI (by omega) (by decide)
theorem cd_c7 {j k : Nat} (hj : j < 32) (hk : k < 7) : (nI (j * 7 + k)).toNatClampNeg = j * 7 + k := nI_clamp (by omega)
theorem cd_i76 (j : Nat) : nI j * 7 + 6 = nI (j * 7 + 6) := by rw [cd_i7, cd_a6]
theorem xw_freeL {post : Int32 → Prop} : ∀ d j, j + d = 32 → post (cd_oi (cd_fr a_slots d j)) → wX_lowestFreeSlot_2 post f_rings f_high f_low a_crashed a_config a_members a_newestCut a_reports a_votes a_myVote a_promised a_acceptedRound a_acceptedValue a_ownRound a_phase a_promisers a_promiserRound a_promiserValue a_learnedRound a_learnedFrom a_learnedValue a_slots (d + 1) (nI j) := by
  intro d
  induction d with
  | zero =>
    intro j hj h
    have e : j = 32 := by omega
    subst e
    exact br_t (by decide) h
  | succ d ih =>
    intro j hj h
    have ih := ih (j + 1) (by omega)
    refine br_f (nI_ge (b := 32) (by omega) (by decide)) ?_
    rw [cd_i76, cd_c7 (by omega) (by omega)]
    refine ⟨cd_v7 (by omega) (by omega), ?_⟩
    unfold cd_fr at h
    by_cases z : a_slots (j * 7 + 6) = 0
    · rw [if_pos z] at h
      exact br_t z h
    · rw [if_neg z] at h
      exact br_f z (nm_r (nI_1 j) (ih h))
theorem xw_free {post : Int32 → Prop} (h : post (cd_oi (cd_fr a_slots 32 0))) : wpX_lowestFreeSlot post (f_rings, f_high, f_low, a_crashed, a_config, a_members, a_newestCut, a_reports, a_votes, a_myVote, a_promised, a_acceptedRound, a_acceptedValue, a_ownRound, a_phase, a_promisers, a_promiserRound, a_promiserValue, a_learnedRound, a_learnedFrom, a_learnedValue, a_slots) := ⟨33, xw_freeL 32 0 rfl h⟩
theorem xw_send {post : SX → Prop} {p : Nat} (hp : p < 16) {kind x y z d : Int32} (h : post (cx_send (f_rings, f_high, f_low, a_crashed, a_config, a_members, a_newestCut, a_reports, a_votes, a_myVote, a_promised, a_acceptedRound, a_acceptedValue, a_ownRound, a_phase, a_promisers, a_promiserRound, a_promiserValue, a_learnedRound, a_learnedFrom, a_learnedValue, a_slots) p kind x y z d)) : wpX_send post (f_rings, f_high, f_low, a_crashed, a_config, a_members, a_newestCut, a_reports, a_votes, a_myVote, a_promised, a_acceptedRound, a_acceptedValue, a_ownRound, a_phase, a_promisers, a_promiserRound, a_promiserValue, a_learnedRound, a_learnedFrom, a_learnedValue, a_slots) (nI p) kind x y z d := by
  unfold wpX_send
  refine xw_free ?_
  unfold cx_send cd_sd at h
  dsimp only at h
  by_cases hd : d &&& 65535 = 0
  · rw [if_pos hd] at h
    exact br_t hd h
  · rw [if_neg hd] at h
    refine br_f hd ?_
    cases e : cd_fr a_slots 32 0 with
    | none =>
      rw [e] at h
      exact br_t rfl h
    | some i =>
      rw [e] at h
      have hi := (cd_fr_in e).1
      refine br_f (cd_ne1 (by omega)) (nm_r (cd_i7 i) ?_)
      rw [cd_a0, cd_a1, cd_a2, cd_a3, cd_a4, cd_a5, cd_a6, cd_cl hp]
      rw [cd_c7 (k := 1) (by omega) (by omega), cd_c7 (k := 2) (by omega) (by omega), cd_c7 (k := 3) (by omega) (by omega), cd_c7 (k := 4) (by omega) (by omega), cd_c7 (k := 5) (by omega) (by omega), cd_c7 (k := 6) (by omega) (by omega), show (nI (i * 7)).toNatClampNeg = i * 7 from nI_clamp (by omega)]
      exact ⟨vp_in_nI (by omega) (by decide), nm_e ⟨cd_v7 (by omega) (by omega), nm_e ⟨cd_vi hp, cd_v7 (by omega) (by omega), nm_e ⟨cd_v7 (by omega) (by omega), nm_e ⟨cd_v7 (by omega) (by omega), nm_e ⟨cd_v7 (by omega) (by omega), nm_e ⟨cd_v7 (by omega) (by omega), nm_e h⟩⟩⟩⟩⟩⟩⟩
theorem xw_ctL {post : Int32 → Prop} {x : Int32} (h : post (cd_ct x)) : ∀ d i, i + d = 16 → wX_count_4 post x (d + 1) (nI (cd_cn x i)) (nI i) := by
  intro d
  induction d with
  | zero =>
    intro i hi
    have e : i = 16 := by omega
    subst e
    exact br_t (cd_at16 rfl) h
  | succ d ih =>
    intro i hi
    have ih := ih (i + 1) (by omega)
    refine br_f (cd_ge16 (by omega)) (nm_r (e' := nI (cd_cn x (i + 1))) ?_ (nm_r (nI_1 i) ih))
    rw [cd_cnS]
    cases hb : bt x i
    · rw [cd_has0 (by omega) hb, Int32.add_zero]
      rfl
    · rw [cd_has1 (by omega) hb, nI_1]
      rfl
theorem xw_ct {post : Int32 → Prop} {x : Int32} (h : post (cd_ct x)) : wpX_count post x := ⟨17, xw_ctL h 16 0 rfl⟩
theorem xw_stt {post : Int32 → Prop} {p : Nat} (hp : p < 16) (h : post (cd_stt (a_crashed p) (a_members p) p)) : wpX_status post (f_rings, f_high, f_low, a_crashed, a_config, a_members, a_newestCut, a_reports, a_votes, a_myVote, a_promised, a_acceptedRound, a_acceptedValue, a_ownRound, a_phase, a_promisers, a_promiserRound, a_promiserValue, a_learnedRound, a_learnedFrom, a_learnedValue, a_slots) (nI p) := by
  unfold wpX_status
  refine xw_isP hp (br_f (by decide) ⟨cd_vi hp, ?_⟩)
  rw [cd_cl hp]
  unfold cd_stt at h
  by_cases c : a_crashed p = 0
  · rw [if_pos c] at h
    refine br_t c ⟨cd_vi hp, xw_has (by omega) (fun hb => ?_) (fun hb => ?_)⟩
    · rw [hb, if_neg (by decide)] at h
      exact br_t rfl h
    · rw [hb, if_pos rfl] at h
      exact br_f (by decide) h
  · rw [if_neg c] at h
    exact br_f c h
end CD4
end
section
section CD5
variable {f_rings f_high f_low : Int32} {a_crashed a_config a_members a_newestCut a_reports a_votes a_myVote a_promised a_acceptedRound a_acceptedValue a_ownRound a_phase a_promisers a_promiserRound a_promiserValue a_learnedRound a_learnedFrom a_learnedValue a_slots : Nat → Int32}
theorem xw_instL {post : SX → Prop} {p : Nat} (hp : p < 16) (h : post (f_rings, f_high, f_low, a_crashed, a_config, a_members, a_newestCut, cd_fill a_reports (p * 16) 0 16, cd_fill a_votes (p * 16) (-1) 16, upd a_myVote p (-1), upd a_promised p 0, upd a_acceptedRound p (-1), upd a_acceptedValue p 0, upd a_ownRound p 0, upd a_phase p 0, upd a_promisers p 0, a_promiserRound, a_promiserValue, upd a_learnedRound p 0, upd a_learnedFrom p 0, upd a_learnedValue p 0, a_slots)) :
    ∀ d q, q + d = 16 → wX_install_25 post (nI p) f_rings f_high f_low (d + 1) (nI q) a_crashed a_config a_members a_newestCut (cd_fill a_reports (p * 16) 0 q) (cd_fill a_votes (p * 16) (-1) q) a_myVote a_promised a_acceptedRound a_acceptedValue a_ownRound a_phase a_promisers a_promiserRound a_promiserValue a_learnedRound a_learnedFrom a_learnedValue a_slots := by
  intro d
  induction d with
  | zero =>
    intro q hq
    have e : q = 16 := by omega
    subst e
    refine br_t (cd_at16 rfl) ?_
    rw [cd_cl hp]
    exact ⟨cd_vi hp, nm_e ⟨cd_vi hp, nm_e ⟨cd_vi hp, nm_e ⟨cd_vi hp, nm_e ⟨cd_vi hp, nm_e ⟨cd_vi hp, nm_e ⟨cd_vi hp, nm_e ⟨cd_vi hp, nm_e ⟨cd_vi hp, nm_e ⟨cd_vi hp, nm_e h⟩⟩⟩⟩⟩⟩⟩⟩⟩⟩
  | succ d ih =>
    intro q hq
    have ih := ih (q + 1) (by omega)
    refine br_f (cd_ge16 (by omega)) ?_
    rw [cd_cl16 hp (by omega)]
    exact ⟨cd_vi16 hp (by omega), nm_r cd_fillS ⟨cd_vi16 hp (by omega), nm_r cd_fillS (nm_r (nI_1 q) ih)⟩⟩
theorem xw_inst {post : SX → Prop} {p : Nat} (hp : p < 16) {n s c : Int32} (h : post (cx_inst (f_rings, f_high, f_low, a_crashed, a_config, a_members, a_newestCut, a_reports, a_votes, a_myVote, a_promised, a_acceptedRound, a_acceptedValue, a_ownRound, a_phase, a_promisers, a_promiserRound, a_promiserValue, a_learnedRound, a_learnedFrom, a_learnedValue, a_slots) p n s c)) : wpX_install post (f_rings, f_high, f_low, a_crashed, a_config, a_members, a_newestCut, a_reports, a_votes, a_myVote, a_promised, a_acceptedRound, a_acceptedValue, a_ownRound, a_phase, a_promisers, a_promiserRound, a_promiserValue, a_learnedRound, a_learnedFrom, a_learnedValue, a_slots) (nI p) n s c := by
  unfold wpX_install
  have L := xw_instL (f_rings := f_rings) (f_high := f_high) (f_low := f_low) (a_config := upd a_config p n) (a_members := upd a_members p s) (a_newestCut := upd a_newestCut p c) hp h 16 0 rfl
  rw [cd_fill0, cd_fill0] at L
  dsimp only
  rw [cd_cl hp]
  exact ⟨cd_vi hp, nm_e ⟨cd_vi hp, nm_e ⟨cd_vi hp, nm_e ⟨17, L⟩⟩⟩⟩
theorem xw_dec {post : SX → Prop} {p : Nat} (hp : p < 16) {c : Int32} (h : post (cx_dec (f_rings, f_high, f_low, a_crashed, a_config, a_members, a_newestCut, a_reports, a_votes, a_myVote, a_promised, a_acceptedRound, a_acceptedValue, a_ownRound, a_phase, a_promisers, a_promiserRound, a_promiserValue, a_learnedRound, a_learnedFrom, a_learnedValue, a_slots) p c)) : wpX_decide post (f_rings, f_high, f_low, a_crashed, a_config, a_members, a_newestCut, a_reports, a_votes, a_myVote, a_promised, a_acceptedRound, a_acceptedValue, a_ownRound, a_phase, a_promisers, a_promiserRound, a_promiserValue, a_learnedRound, a_learnedFrom, a_learnedValue, a_slots) (nI p) c := by
  unfold wpX_decide
  dsimp only
  rw [cd_cl hp]
  refine ⟨cd_vi hp, cd_vi hp, xw_inst hp ?_⟩
  refine ⟨cd_vi hp, xw_send hp ?_⟩
  unfold cx_dec at h
  dsimp only [cx_inst] at h ⊢
  rw [pk_us]
  exact h
theorem xw_offL {post : SX → Prop} {i : Nat} (hi : i < 32) (h : post (f_rings, f_high, f_low, a_crashed, a_config, a_members, a_newestCut, a_reports, a_votes, a_myVote, a_promised, a_acceptedRound, a_acceptedValue, a_ownRound, a_phase, a_promisers, a_promiserRound, a_promiserValue, a_learnedRound, a_learnedFrom, a_learnedValue, cd_fill a_slots (i * 7) 0 7)) : ∀ d f, f + d = 7 → wX_takeOff_38 post (nI (i * 7)) f_rings f_high f_low (d + 1) (nI f) a_crashed a_config a_members a_newestCut a_reports a_votes a_myVote a_promised a_acceptedRound a_acceptedValue a_ownRound a_phase a_promisers a_promiserRound a_promiserValue a_learnedRound a_learnedFrom a_learnedValue (cd_fill a_slots (i * 7) 0 f) := by
  intro d
  induction d with
  | zero =>
    intro f hf
    have e : f = 7 := by omega
    subst e
    exact br_t (by decide) h
  | succ d ih =>
    intro f hf
    have ih := ih (f + 1) (by omega)
    refine br_f (nI_ge (b := 7) (by omega) (by decide)) ?_
    rw [nI_add, cd_c7 hi (by omega)]
    exact ⟨cd_v7 hi (by omega), nm_r cd_fillS (nm_r (nI_1 f) ih)⟩
theorem xw_off {post : SX → Prop} {i p : Nat} (hi : i < 32) (h : post (cx_off (f_rings, f_high, f_low, a_crashed, a_config, a_members, a_newestCut, a_reports, a_votes, a_myVote, a_promised, a_acceptedRound, a_acceptedValue, a_ownRound, a_phase, a_promisers, a_promiserRound, a_promiserValue, a_learnedRound, a_learnedFrom, a_learnedValue, a_slots) i p)) : wpX_takeOff post (f_rings, f_high, f_low, a_crashed, a_config, a_members, a_newestCut, a_reports, a_votes, a_myVote, a_promised, a_acceptedRound, a_acceptedValue, a_ownRound, a_phase, a_promisers, a_promiserRound, a_promiserValue, a_learnedRound, a_learnedFrom, a_learnedValue, a_slots) (nI i) (nI p) := by
  unfold wpX_takeOff
  dsimp only
  refine nm_r (cd_i7 i) ?_
  rw [cd_a6, cd_c7 hi (by omega)]
  refine ⟨cd_v7 hi (by omega), cd_v7 hi (by omega), nm_e ⟨cd_v7 hi (by omega), ?_⟩⟩
  rw [pk_us]
  unfold cx_off cd_off at h
  dsimp only at h
  by_cases z : a_slots (i * 7 + 6) &&& cd_not p = 0
  · rw [if_pos z] at h
    have L := xw_offL (f_rings := f_rings) (f_high := f_high) (f_low := f_low) (a_slots := upd a_slots (i * 7 + 6) (a_slots (i * 7 + 6) &&& cd_not p)) hi h 7 0 rfl
    rw [cd_fill0] at L
    exact br_t z ⟨8, L⟩
  · rw [if_neg z] at h
    exact br_f z h
theorem cd_st_none {rep : Nat → Int32} {b : Nat} {h l : Int32} {s : Nat} (e : cd_st rep b h l s = none) : ∀ k, cd_st rep b h l (s + k) = none := by
  intro k
  induction k with
  | zero => exact e
  | succ k ih =>
    show (match cd_st rep b h l (s + k) with
      | none => none
      | some m => if h ≤ cd_ct (rep (b + (s + k))) then some (m ||| (1 <<< (nI (s + k) &&& 31))) else if l ≤ cd_ct (rep (b + (s + k))) then none else some m) = none
    rw [ih]
theorem xw_pisL {post : SX → Prop} {p : Nat} (hp : p < 16) (h : post (cx_pis (f_rings, f_high, f_low, a_crashed, a_config, a_members, a_newestCut, a_reports, a_votes, a_myVote, a_promised, a_acceptedRound, a_acceptedValue, a_ownRound, a_phase, a_promisers, a_promiserRound, a_promiserValue, a_learnedRound, a_learnedFrom, a_learnedValue, a_slots) p)) : ∀ d s m, s + d = 16 → cd_st a_reports (p * 16) f_high f_low s = some m → wX_proposeIfSettled_4 post (nI p) f_rings f_high f_low a_crashed a_config a_members a_newestCut a_reports a_votes a_myVote a_promised a_acceptedRound a_acceptedValue a_ownRound a_phase a_promisers a_promiserRound a_promiserValue a_learnedRound a_learnedFrom a_learnedValue a_slots (d + 1) m (nI s) := by
  intro d
  induction d with
  | zero =>
    intro s m hs e
    have e2 : s = 16 := by omega
    subst e2
    refine br_t (cd_at16 rfl) ?_
    rw [cd_cl hp]
    unfold cx_pis at h
    dsimp only at h
    rw [e] at h
    dsimp only at h
    by_cases z : m = 0
    · rw [if_pos z] at h
      exact br_t z h
    · rw [if_neg z] at h
      exact br_f z ⟨cd_vi hp, nm_e ⟨cd_vi hp, nm_e ⟨cd_vi hp, nm_e ⟨cd_vi hp, xw_send hp h⟩⟩⟩⟩
  | succ d ih =>
    intro s m hs e
    have ih := ih (s + 1)
    have step : cd_st a_reports (p * 16) f_high f_low (s + 1) = (if f_high ≤ cd_ct (a_reports (p * 16 + s)) then some (m ||| (1 <<< (nI s &&& 31))) else if f_low ≤ cd_ct (a_reports (p * 16 + s)) then none else some m) := by
      show (match cd_st a_reports (p * 16) f_high f_low s with
        | none => none
        | some m => if f_high ≤ cd_ct (a_reports (p * 16 + s)) then some (m ||| (1 <<< (nI s &&& 31))) else if f_low ≤ cd_ct (a_reports (p * 16 + s)) then none else some m) = _
      rw [e]
    refine br_f (cd_ge16 (by omega)) ⟨cd_vi16 hp (by omega), xw_ct ?_⟩
    rw [cd_cl16 hp (by omega)]
    by_cases c1 : cd_ct (a_reports (p * 16 + s)) < f_high
    · refine br_t c1 ?_
      rw [if_neg (Int32.not_le.mpr c1)] at step
      by_cases c2 : cd_ct (a_reports (p * 16 + s)) < f_low
      · rw [if_neg (Int32.not_le.mpr c2)] at step
        exact br_t c2 (nm_r (nI_1 s) (ih m (by omega) step))
      · rw [if_pos (Int32.not_lt.mp c2)] at step
        have e16 := cd_st_none step d
        rw [show s + 1 + d = 16 from by omega] at e16
        unfold cx_pis at h
        dsimp only at h
        rw [e16] at h
        exact br_f c2 h
    · rw [if_pos (Int32.not_lt.mp c1)] at step
      exact br_f c1 (nm_e (nm_r (nI_1 s) (ih _ (by omega) step)))
theorem xw_pis {post : SX → Prop} {p : Nat} (hp : p < 16) (h : post (cx_pis (f_rings, f_high, f_low, a_crashed, a_config, a_members, a_newestCut, a_reports, a_votes, a_myVote, a_promised, a_acceptedRound, a_acceptedValue, a_ownRound, a_phase, a_promisers, a_promiserRound, a_promiserValue, a_learnedRound, a_learnedFrom, a_learnedValue, a_slots) p)) : wpX_proposeIfSettled post (f_rings, f_high, f_low, a_crashed, a_config, a_members, a_newestCut, a_reports, a_votes, a_myVote, a_promised, a_acceptedRound, a_acceptedValue, a_ownRound, a_phase, a_promisers, a_promiserRound, a_promiserValue, a_learnedRound, a_learnedFrom, a_learnedValue, a_slots) (nI p) := ⟨17, xw_pisL hp h 16 0 0 rfl rfl⟩
theorem xw_alert {post : SX → Prop} {p s : Nat} (hp : p < 16) (hs : s < 16) {y : Int32} (h : post (cx_alert (f_rings, f_high, f_low, a_crashed, a_config, a_members, a_newestCut, a_reports, a_votes, a_myVote, a_promised, a_acceptedRound, a_acceptedValue, a_ownRound, a_phase, a_promisers, a_promiserRound, a_promiserValue, a_learnedRound, a_learnedFrom, a_learnedValue, a_slots) p s y)) : wpX_onAlert post (f_rings, f_high, f_low, a_crashed, a_config, a_members, a_newestCut, a_reports, a_votes, a_myVote, a_promised, a_acceptedRound, a_acceptedValue, a_ownRound, a_phase, a_promisers, a_promiserRound, a_promiserValue, a_learnedRound, a_learnedFrom, a_learnedValue, a_slots) (nI p) (nI s) y := by
  unfold wpX_onAlert
  dsimp only
  rw [cd_cl hp, cd_cl16 hp hs]
  refine ⟨cd_vi16 hp hs, cd_vi16 hp hs, nm_e ⟨cd_vi hp, ?_⟩⟩
  unfold cx_alert at h
  dsimp only at h
  by_cases c1 : a_myVote p = -1
  · refine br_t c1 ⟨cd_vi hp, ?_⟩
    by_cases c2 : a_promised p = 0
    · rw [if_pos ⟨c1, c2⟩] at h
      exact br_t c2 (xw_pis hp (cx_eta h))
    · rw [if_neg (fun z => c2 z.2)] at h
      exact br_f c2 h
  · rw [if_neg (fun z => c1 z.1)] at h
    exact br_f c1 h
theorem xw_fq {post : Int32 → Prop} {m : Int32} (h : post (cd_fq m)) : wpX_fastQuorum post m := ⟨by decide, h⟩
theorem xw_cq {post : Int32 → Prop} {m : Int32} (h : post (cd_cq m)) : wpX_classicQuorum post m := ⟨by decide, h⟩
theorem xw_voteL {post : SX → Prop} {p : Nat} (hp : p < 16) {x : Int32} (h1 : cd_fq (cd_ct (a_members p)) ≤ nI (cd_sm a_votes (p * 16) x 16) → post (cx_dec (f_rings, f_high, f_low, a_crashed, a_config, a_members, a_newestCut, a_reports, a_votes, a_myVote, a_promised, a_acceptedRound, a_acceptedValue, a_ownRound, a_phase, a_promisers, a_promiserRound, a_promiserValue, a_learnedRound, a_learnedFrom, a_learnedValue, a_slots) p x)) (h2 : ¬ cd_fq (cd_ct (a_members p)) ≤ nI (cd_sm a_votes (p * 16) x 16) → post (f_rings, f_high, f_low, a_crashed, a_config, a_members, a_newestCut, a_reports, a_votes, a_myVote, a_promised, a_acceptedRound, a_acceptedValue, a_ownRound, a_phase, a_promisers, a_promiserRound, a_promiserValue, a_learnedRound, a_learnedFrom, a_learnedValue, a_slots)) :
    ∀ d i, i + d = 16 → wX_onVote_34 post (nI p) x f_rings f_high f_low a_crashed a_config a_members a_newestCut a_reports a_votes a_myVote a_promised a_acceptedRound a_acceptedValue a_ownRound a_phase a_promisers a_promiserRound a_promiserValue a_learnedRound a_learnedFrom a_learnedValue a_slots (d + 1) (nI (cd_sm a_votes (p * 16) x i)) (nI i) := by
  intro d
  induction d with
  | zero =>
    intro i hi
    have e : i = 16 := by omega
    subst e
    refine br_t (cd_at16 rfl) ⟨cd_vi hp, xw_ct (xw_fq ?_)⟩
    rw [cd_cl hp]
    exact br_c (fun z => h2 (Int32.not_le.mpr z)) (fun z => xw_dec hp (cx_eta (h1 (Int32.not_lt.mp z))))
  | succ d ih =>
    intro i hi
    have ih := ih (i + 1) (by omega)
    refine br_f (cd_ge16 (by omega)) ⟨cd_vi16 hp (by omega), ?_⟩
    rw [cd_cl16 hp (by omega)]
    by_cases c : a_votes (p * 16 + i) = x
    · have e : cd_sm a_votes (p * 16) x (i + 1) = cd_sm a_votes (p * 16) x i + 1 := by rw [cd_smS, if_pos c]
      rw [e] at ih
      exact br_t c (nm_r (nI_1 _) (nm_r (nI_1 i) ih))
    · have e : cd_sm a_votes (p * 16) x (i + 1) = cd_sm a_votes (p * 16) x i := by rw [cd_smS, if_neg c]; rfl
      rw [e] at ih
      exact br_f c (nm_r (nI_1 i) ih)
theorem xw_vote {post : SX → Prop} {p q : Nat} (hp : p < 16) (hq : q < 16) {x : Int32} (h : post (cx_vote (f_rings, f_high, f_low, a_crashed, a_config, a_members, a_newestCut, a_reports, a_votes, a_myVote, a_promised, a_acceptedRound, a_acceptedValue, a_ownRound, a_phase, a_promisers, a_promiserRound, a_promiserValue, a_learnedRound, a_learnedFrom, a_learnedValue, a_slots) p q x)) : wpX_onVote post (f_rings, f_high, f_low, a_crashed, a_config, a_members, a_newestCut, a_reports, a_votes, a_myVote, a_promised, a_acceptedRound, a_acceptedValue, a_ownRound, a_phase, a_promisers, a_promiserRound, a_promiserValue, a_learnedRound, a_learnedFrom, a_learnedValue, a_slots) (nI p) (nI q) x := by
  unfold wpX_onVote
  dsimp only
  rw [cd_cl16 hp hq]
  refine ⟨cd_vi16 hp hq, ?_⟩
  unfold cx_vote at h
  dsimp only at h
  by_cases c : a_votes (p * 16 + q) = -1
  · rw [if_pos c] at h
    refine br_t c ⟨cd_vi16 hp hq, nm_e ⟨17, ?_⟩⟩
    refine xw_voteL hp (fun z => ?_) (fun z => ?_) 16 0 rfl
    · rw [if_pos z] at h; exact h
    · rw [if_neg z] at h; exact h
  · rw [if_neg c] at h
    exact br_f c h
theorem xw_prep {post : SX → Prop} {p q : Nat} (hp : p < 16) {x : Int32} (h : post (cx_prep (f_rings, f_high, f_low, a_crashed, a_config, a_members, a_newestCut, a_reports, a_votes, a_myVote, a_promised, a_acceptedRound, a_acceptedValue, a_ownRound, a_phase, a_promisers, a_promiserRound, a_promiserValue, a_learnedRound, a_learnedFrom, a_learnedValue, a_slots) p q x)) : wpX_onPrepare post (f_rings, f_high, f_low, a_crashed, a_config, a_members, a_newestCut, a_reports, a_votes, a_myVote, a_promised, a_acceptedRound, a_acceptedValue, a_ownRound, a_phase, a_promisers, a_promiserRound, a_promiserValue, a_learnedRound, a_learnedFrom, a_learnedValue, a_slots) (nI p) (nI q) x := by
  unfold wpX_onPrepare
  dsimp only
  rw [cd_cl hp]
  refine ⟨cd_vi hp, ?_⟩
  unfold cx_prep at h
  dsimp only at h
  by_cases c : x ≤ a_promised p
  · rw [if_neg (Int32.not_lt.mpr c)] at h
    exact br_t c h
  · rw [if_pos (Int32.not_le.mp c)] at h
    exact br_f c ⟨cd_vi hp, nm_e ⟨cd_vi hp, cd_vi hp, xw_send hp h⟩⟩
end CD5
end
section
section CD6
variable {f_rings f_high f_low : Int32} {a_crashed a_config a_members a_newestCut a_reports a_votes a_myVote a_promised a_acceptedRound a_acceptedValue a_ownRound a_phase a_promisers a_promiserRound a_promiserValue a_learnedRound a_learnedFrom a_learnedValue a_slots : Nat → Int32}
theorem xw_ncL {post : Int32 → Prop} {p : Nat} (hp : p < 16) (h : post (cd_oi (cd_nc (a_promisers p) a_promiserRound (p * 16) 16).1)) : ∀ d q, q + d = 16 → wX_newestClassicPromiser_8 post (nI p) f_rings f_high f_low a_crashed a_config a_members a_newestCut a_reports a_votes a_myVote a_promised a_acceptedRound a_acceptedValue a_ownRound a_phase a_promisers a_promiserRound a_promiserValue a_learnedRound a_learnedFrom a_learnedValue a_slots (d + 1) (cd_oi (cd_nc (a_promisers p) a_promiserRound (p * 16) q).1) (cd_nc (a_promisers p) a_promiserRound (p * 16) q).2 (nI q) := by
  intro d
  induction d with
  | zero =>
    intro q hq
    have e : q = 16 := by omega
    subst e
    exact br_t (cd_at16 rfl) h
  | succ d ih =>
    intro q hq
    have ih := ih (q + 1) (by omega)
    refine br_f (cd_ge16 (by omega)) ⟨cd_vi hp, ?_⟩
    rw [cd_cl hp, cd_cl16 hp (by omega)]
    refine xw_has (by omega) (fun hb => ?_) (fun hb => ?_)
    · have e : cd_nc (a_promisers p) a_promiserRound (p * 16) (q + 1) = cd_nc (a_promisers p) a_promiserRound (p * 16) q := if_neg (fun z => by rw [hb] at z; exact absurd z.1 (by decide))
      rw [e] at ih
      exact br_t rfl (nm_r (nI_1 q) ih)
    · refine br_f (by decide) ⟨cd_vi16 hp (by omega), ?_⟩
      by_cases c : a_promiserRound (p * 16 + q) ≤ (cd_nc (a_promisers p) a_promiserRound (p * 16) q).2
      · have e : cd_nc (a_promisers p) a_promiserRound (p * 16) (q + 1) = cd_nc (a_promisers p) a_promiserRound (p * 16) q := if_neg (fun z => Int32.not_lt.mpr c z.2)
        rw [e] at ih
        exact br_t c (nm_r (nI_1 q) ih)
      · have e : cd_nc (a_promisers p) a_promiserRound (p * 16) (q + 1) = (some q, a_promiserRound (p * 16 + q)) := if_pos ⟨hb, Int32.not_le.mp c⟩
        rw [e] at ih
        exact br_f c ⟨cd_vi16 hp (by omega), nm_e (nm_r (nI_1 q) ih)⟩
theorem xw_nc {post : Int32 → Prop} {p : Nat} (hp : p < 16) (h : post (cd_oi (cd_nc (a_promisers p) a_promiserRound (p * 16) 16).1)) : wpX_newestClassicPromiser post (f_rings, f_high, f_low, a_crashed, a_config, a_members, a_newestCut, a_reports, a_votes, a_myVote, a_promised, a_acceptedRound, a_acceptedValue, a_ownRound, a_phase, a_promisers, a_promiserRound, a_promiserValue, a_learnedRound, a_learnedFrom, a_learnedValue, a_slots) (nI p) := ⟨17, xw_ncL hp h 16 0 rfl⟩
theorem xw_fpL {post : Int32 → Prop} {p : Nat} (hp : p < 16) (h : post (cd_fp (a_promisers p) a_promiserRound (p * 16) 16)) : ∀ d q, q + d = 16 → wX_fastPromisers_4 post (nI p) f_rings f_high f_low a_crashed a_config a_members a_newestCut a_reports a_votes a_myVote a_promised a_acceptedRound a_acceptedValue a_ownRound a_phase a_promisers a_promiserRound a_promiserValue a_learnedRound a_learnedFrom a_learnedValue a_slots (d + 1) (cd_fp (a_promisers p) a_promiserRound (p * 16) q) (nI q) := by
  intro d
  induction d with
  | zero =>
    intro q hq
    have e : q = 16 := by omega
    subst e
    exact br_t (cd_at16 rfl) h
  | succ d ih =>
    intro q hq
    have ih := ih (q + 1) (by omega)
    refine br_f (cd_ge16 (by omega)) ⟨cd_vi hp, ?_⟩
    rw [cd_cl hp, cd_cl16 hp (by omega)]
    refine xw_has (by omega) (fun hb => ?_) (fun hb => ?_)
    · have e : cd_fp (a_promisers p) a_promiserRound (p * 16) (q + 1) = cd_fp (a_promisers p) a_promiserRound (p * 16) q := if_neg (fun z => by rw [hb] at z; exact absurd z.1 (by decide))
      rw [e] at ih
      exact br_t rfl (nm_r (nI_1 q) ih)
    · refine br_f (by decide) ⟨cd_vi16 hp (by omega), ?_⟩
      by_cases c : a_promiserRound (p * 16 + q) = 0
      · have e : cd_fp (a_promisers p) a_promiserRound (p * 16) (q + 1) = cd_fp (a_promisers p) a_promiserRound (p * 16) q ||| (1 <<< (nI q &&& 31)) := if_pos ⟨hb, c⟩
        rw [e] at ih
        exact br_t c (nm_e (nm_r (nI_1 q) ih))
      · have e : cd_fp (a_promisers p) a_promiserRound (p * 16) (q + 1) = cd_fp (a_promisers p) a_promiserRound (p * 16) q := if_neg (fun z => c z.2)
        rw [e] at ih
        exact br_f c (nm_r (nI_1 q) ih)
theorem xw_fp {post : Int32 → Prop} {p : Nat} (hp : p < 16) (h : post (cd_fp (a_promisers p) a_promiserRound (p * 16) 16)) : wpX_fastPromisers post (f_rings, f_high, f_low, a_crashed, a_config, a_members, a_newestCut, a_reports, a_votes, a_myVote, a_promised, a_acceptedRound, a_acceptedValue, a_ownRound, a_phase, a_promisers, a_promiserRound, a_promiserValue, a_learnedRound, a_learnedFrom, a_learnedValue, a_slots) (nI p) := ⟨17, xw_fpL hp h 16 0 rfl⟩
theorem cd_svS {vs : Int32} {pv : Nat → Int32} {b : Nat} {w : Int32} {i : Nat} : cd_sv vs pv b w (i + 1) = cd_sv vs pv b w i + (if bt vs i = true ∧ pv (b + i) = w then 1 else 0) := rfl
theorem xw_pdI {post : Int32 → Prop} {J : Int32 → Prop} {p q : Nat} (hp : p < 16) (hq : q < 16) {vs en : Int32}
    (h1 : bt vs q = true ∧ en ≤ nI (cd_sv vs a_promiserValue (p * 16) (a_promiserValue (p * 16 + q)) 16) → post (nI q))
    (h2 : ¬ (bt vs q = true ∧ en ≤ nI (cd_sv vs a_promiserValue (p * 16) (a_promiserValue (p * 16 + q)) 16)) → J (nI (q + 1))) :
    ∀ d i, i + d = 16 → wX_possiblyDecisiveVoter_39 post J (nI p) vs en (nI q) f_rings f_high f_low a_crashed a_config a_members a_newestCut a_reports a_votes a_myVote a_promised a_acceptedRound a_acceptedValue a_ownRound a_phase a_promisers a_promiserRound a_promiserValue a_learnedRound a_learnedFrom a_learnedValue a_slots (d + 1) (nI (cd_sv vs a_promiserValue (p * 16) (a_promiserValue (p * 16 + q)) i)) (nI i) := by
  intro d
  induction d with
  | zero =>
    intro i hi
    have e : i = 16 := by omega
    subst e
    refine br_t (cd_at16 rfl) (xw_has (by omega) (fun hb => ?_) (fun hb => ?_))
    · exact br_t rfl (nm_r (nI_1 q) (h2 (fun z => by rw [hb] at z; exact absurd z.1 (by decide))))
    · refine br_f (by decide) (br_c (fun z => nm_r (nI_1 q) (h2 (fun y => Int32.not_le.mpr z y.2))) (fun z => h1 ⟨hb, Int32.not_lt.mp z⟩))
  | succ d ih =>
    intro i hi
    have ih := ih (i + 1) (by omega)
    refine br_f (cd_ge16 (by omega)) ?_
    rw [cd_cl16 hp hq, cd_cl16 hp (show i < 16 by omega)]
    rw [cd_svS] at ih
    refine xw_has (by omega) (fun hb => ?_) (fun hb => ?_)
    · rw [if_neg (fun z => by rw [hb] at z; exact absurd z.1 (by decide))] at ih
      exact br_t rfl (nm_r (nI_1 i) ih)
    · refine br_f (by decide) ⟨cd_vi16 hp (by omega), cd_vi16 hp hq, ?_⟩
      by_cases c : a_promiserValue (p * 16 + i) = a_promiserValue (p * 16 + q)
      · rw [if_pos ⟨hb, c⟩] at ih
        exact br_t c (nm_r (nI_1 _) (nm_r (nI_1 i) ih))
      · rw [if_neg (fun z => c z.2)] at ih
        exact br_f c (nm_r (nI_1 i) ih)
theorem xw_pdL {post : Int32 → Prop} {p : Nat} (hp : p < 16) {vs en : Int32} : ∀ d j, j + d = 16 → post (cd_oi (cd_pd vs a_promiserValue (p * 16) en d j)) → wX_possiblyDecisiveVoter_26 post (nI p) vs en f_rings f_high f_low a_crashed a_config a_members a_newestCut a_reports a_votes a_myVote a_promised a_acceptedRound a_acceptedValue a_ownRound a_phase a_promisers a_promiserRound a_promiserValue a_learnedRound a_learnedFrom a_learnedValue a_slots (d + 1) (nI j) := by
  intro d
  induction d with
  | zero =>
    intro j hj h
    have e : j = 16 := by omega
    subst e
    exact br_t (cd_at16 rfl) h
  | succ d ih =>
    intro j hj h
    refine br_f (cd_ge16 (by omega)) ⟨17, ?_⟩
    unfold cd_pd at h
    refine xw_pdI hp (by omega) (fun z => ?_) (fun z => ?_) 16 0 rfl
    · rw [if_pos z] at h; exact h
    · rw [if_neg z] at h; exact ih (j + 1) (by omega) h
theorem xw_pd {post : Int32 → Prop} {p : Nat} (hp : p < 16) {vs : Int32} (h : post (cd_oi (cd_pd vs a_promiserValue (p * 16) (cd_en (cd_ct (a_members p))) 16 0))) : wpX_possiblyDecisiveVoter post (f_rings, f_high, f_low, a_crashed, a_config, a_members, a_newestCut, a_reports, a_votes, a_myVote, a_promised, a_acceptedRound, a_acceptedValue, a_ownRound, a_phase, a_promisers, a_promiserRound, a_promiserValue, a_learnedRound, a_learnedFrom, a_learnedValue, a_slots) (nI p) vs := by
  unfold wpX_possiblyDecisiveVoter
  refine ⟨cd_vi hp, xw_ct (xw_fq (xw_cq ?_))⟩
  rw [cd_cl hp]
  exact nm_r (e' := cd_en (cd_ct (a_members p))) rfl ⟨17, xw_pdL hp 16 0 rfl h⟩
theorem xw_loL {post : Int32 → Prop} {vs : Int32} : ∀ d j, j + d = 16 → post (cd_oi (cd_lo vs d j)) → wX_leastOf_2 post vs (d + 1) (nI j) := by
  intro d
  induction d with
  | zero =>
    intro j hj h
    have e : j = 16 := by omega
    subst e
    exact br_t (cd_at16 rfl) h
  | succ d ih =>
    intro j hj h
    unfold cd_lo at h
    refine br_f (cd_ge16 (by omega)) (xw_has (by omega) (fun hb => ?_) (fun hb => ?_))
    · rw [if_neg (by rw [hb]; decide)] at h
      exact br_t rfl (nm_r (nI_1 j) (ih (j + 1) (by omega) h))
    · rw [if_pos hb] at h
      exact br_f (by decide) h
theorem xw_lo {post : Int32 → Prop} {vs : Int32} (h : post (cd_oi (cd_lo vs 16 0))) : wpX_leastOf post vs := ⟨17, xw_loL 16 0 rfl h⟩
theorem cd_nc_lt {pm : Int32} {pr : Nat → Int32} {b : Nat} : ∀ n q0, (cd_nc pm pr b n).1 = some q0 → q0 < n := by
  intro n
  induction n with
  | zero => intro q0 h; exact absurd h (by unfold cd_nc; simp)
  | succ n ih =>
    intro q0 h
    unfold cd_nc at h
    by_cases c : bt pm n = true ∧ (cd_nc pm pr b n).2 < pr (b + n)
    · rw [if_pos c] at h
      cases h
      omega
    · rw [if_neg c] at h
      have := ih q0 h
      omega
theorem cd_pd_lt {vs en : Int32} {pv : Nat → Int32} {b : Nat} : ∀ d j q0, cd_pd vs pv b en d j = some q0 → q0 < j + d := by
  intro d
  induction d with
  | zero => intro j q0 h; exact absurd h (by unfold cd_pd; simp)
  | succ d ih =>
    intro j q0 h
    unfold cd_pd at h
    by_cases c : bt vs j = true ∧ en ≤ nI (cd_sv vs pv b (pv (b + j)) 16)
    · rw [if_pos c] at h
      cases h
      omega
    · rw [if_neg c] at h
      have := ih (j + 1) q0 h
      omega
theorem cd_lo_lt {vs : Int32} : ∀ d j q0, cd_lo vs d j = some q0 → q0 < j + d := by
  intro d
  induction d with
  | zero => intro j q0 h; exact absurd h (by unfold cd_lo; simp)
  | succ d ih =>
    intro j q0 h
    unfold cd_lo at h
    by_cases c : bt vs j = true
    · rw [if_pos c] at h
      cases h
      omega
    · rw [if_neg c] at h
      have := ih (j + 1) q0 h
      omega
theorem cd_ch_lt {pm m : Int32} {pr pv : Nat → Int32} {b q0 : Nat} (h : cd_ch pm m pr pv b = some q0) : q0 < 16 := by
  unfold cd_ch at h
  cases e1 : (cd_nc pm pr b 16).1 with
  | some q => rw [e1] at h; cases h; exact cd_nc_lt 16 q0 e1
  | none =>
    rw [e1] at h
    dsimp only at h
    cases e2 : cd_pd (cd_fp pm pr b 16) pv b (cd_en (cd_ct m)) 16 0 with
    | some q => rw [e2] at h; cases h; have := cd_pd_lt 16 0 q0 e2; omega
    | none => rw [e2] at h; have := cd_lo_lt 16 0 q0 h; omega
theorem xw_ch {post : Int32 → Prop} {p : Nat} (hp : p < 16) (h : post (cd_oi (cd_ch (a_promisers p) (a_members p) a_promiserRound a_promiserValue (p * 16)))) : wpX_chosenPromiser post (f_rings, f_high, f_low, a_crashed, a_config, a_members, a_newestCut, a_reports, a_votes, a_myVote, a_promised, a_acceptedRound, a_acceptedValue, a_ownRound, a_phase, a_promisers, a_promiserRound, a_promiserValue, a_learnedRound, a_learnedFrom, a_learnedValue, a_slots) (nI p) := by
  unfold wpX_chosenPromiser
  refine xw_nc hp ?_
  unfold cd_ch at h
  cases e1 : (cd_nc (a_promisers p) a_promiserRound (p * 16) 16).1 with
  | some q =>
    rw [e1] at h
    have := cd_nc_lt 16 q e1
    exact br_f (cd_ne1 (by omega)) h
  | none =>
    rw [e1] at h
    dsimp only at h
    refine br_t rfl (xw_fp hp (xw_pd hp ?_))
    cases e2 : cd_pd (cd_fp (a_promisers p) a_promiserRound (p * 16) 16) a_promiserValue (p * 16) (cd_en (cd_ct (a_members p))) 16 0 with
    | some q =>
      rw [e2] at h
      have := cd_pd_lt 16 0 q e2
      exact br_f (cd_ne1 (by omega)) h
    | none =>
      rw [e2] at h
      exact br_t rfl (xw_lo h)
theorem xw_prom {post : SX → Prop} {p q : Nat} (hp : p < 16) (hq : q < 16) {x y z : Int32} (h : post (cx_prom (f_rings, f_high, f_low, a_crashed, a_config, a_members, a_newestCut, a_reports, a_votes, a_myVote, a_promised, a_acceptedRound, a_acceptedValue, a_ownRound, a_phase, a_promisers, a_promiserRound, a_promiserValue, a_learnedRound, a_learnedFrom, a_learnedValue, a_slots) p q x y z)) : wpX_onPromise post (f_rings, f_high, f_low, a_crashed, a_config, a_members, a_newestCut, a_reports, a_votes, a_myVote, a_promised, a_acceptedRound, a_acceptedValue, a_ownRound, a_phase, a_promisers, a_promiserRound, a_promiserValue, a_learnedRound, a_learnedFrom, a_learnedValue, a_slots) (nI p) (nI q) x y z := by
  unfold wpX_onPromise
  dsimp only
  rw [cd_cl hp, cd_cl16 hp hq]
  refine ⟨cd_vi hp, ?_⟩
  unfold cx_prom at h
  dsimp only at h
  by_cases c1 : a_phase p = 1
  · refine br_t c1 ⟨cd_vi hp, ?_⟩
    by_cases c2 : x = a_ownRound p
    · refine br_t c2 ⟨cd_vi hp, xw_has (by omega) (fun hb => ?_) (fun hb => ?_)⟩
      · rw [if_pos ⟨c1, c2, hb⟩] at h
        refine br_t rfl ⟨cd_vi hp, cd_vi hp, nm_e ⟨cd_vi16 hp hq, nm_e ⟨cd_vi16 hp hq, nm_e ⟨cd_vi hp, xw_ct ⟨cd_vi hp, ?_⟩⟩⟩⟩⟩
        rw [pk_us]
        refine xw_ct (xw_cq ?_)
        by_cases c3 : cd_ct (a_promisers p ||| (1 <<< (nI q &&& 31))) = cd_cq (cd_ct (a_members p))
        · rw [if_pos c3] at h
          refine br_t c3 (xw_ch hp ?_)
          unfold cx_choose at h
          dsimp only at h
          cases e : cd_ch (upd a_promisers p (a_promisers p ||| (1 <<< (nI q &&& 31))) p) (a_members p) (upd a_promiserRound (p * 16 + q) y) (upd a_promiserValue (p * 16 + q) z) (p * 16) with
          | some q0 =>
            rw [e] at h
            have h16 := cd_ch_lt e
            refine br_f (cd_ne1 (by omega)) (br_f (cd_ne1 (by omega)) ⟨cd_vi16 hp h16, ?_⟩)
            rw [show cd_oi (some q0) = nI q0 from rfl, cd_cl16 hp h16]
            unfold wX_onPromise_159
            rw [cd_cl hp]
            exact ⟨cd_vi hp, nm_e ⟨cd_vi hp, cd_vi hp, xw_send hp h⟩⟩
          | none =>
            rw [e] at h
            dsimp only at h
            refine br_t rfl ⟨cd_vi hp, ?_⟩
            by_cases c4 : a_myVote p = -1
            · rw [if_pos c4] at h
              exact br_t c4 ⟨cd_vi hp, nm_e h⟩
            · rw [if_neg c4] at h
              refine br_f c4 (br_t rfl ⟨cd_vi hp, ?_⟩)
              unfold wX_onPromise_159
              rw [cd_cl hp]
              exact ⟨cd_vi hp, nm_e ⟨cd_vi hp, cd_vi hp, xw_send hp h⟩⟩
        · rw [if_neg c3] at h
          exact br_f c3 h
      · rw [if_neg (fun w => by rw [hb] at w; exact absurd w.2.2 (by decide))] at h
        exact br_f (by decide) h
    · rw [if_neg (fun w => c2 w.2.1)] at h
      exact br_f c2 h
  · rw [if_neg (fun w => c1 w.1)] at h
    exact br_f c1 h
theorem xw_acc {post : SX → Prop} {p : Nat} (hp : p < 16) {x y : Int32} (h : post (cx_acc (f_rings, f_high, f_low, a_crashed, a_config, a_members, a_newestCut, a_reports, a_votes, a_myVote, a_promised, a_acceptedRound, a_acceptedValue, a_ownRound, a_phase, a_promisers, a_promiserRound, a_promiserValue, a_learnedRound, a_learnedFrom, a_learnedValue, a_slots) p x y)) : wpX_onAccept post (f_rings, f_high, f_low, a_crashed, a_config, a_members, a_newestCut, a_reports, a_votes, a_myVote, a_promised, a_acceptedRound, a_acceptedValue, a_ownRound, a_phase, a_promisers, a_promiserRound, a_promiserValue, a_learnedRound, a_learnedFrom, a_learnedValue, a_slots) (nI p) x y := by
  unfold wpX_onAccept
  dsimp only
  rw [cd_cl hp]
  refine ⟨cd_vi hp, ?_⟩
  unfold cx_acc at h
  dsimp only at h
  by_cases c : x < a_promised p
  · rw [if_neg (Int32.not_le.mpr c)] at h
    exact br_t c h
  · rw [if_pos (Int32.not_lt.mp c)] at h
    exact br_f c ⟨cd_vi hp, nm_e ⟨cd_vi hp, nm_e ⟨cd_vi hp, nm_e ⟨cd_vi hp, xw_send hp h⟩⟩⟩⟩
theorem xw_lrn {post : SX → Prop} {p q : Nat} (hp : p < 16) (h : post (cx_lrn (f_rings, f_high, f_low, a_crashed, a_config, a_members, a_newestCut, a_reports, a_votes, a_myVote, a_promised, a_acceptedRound, a_acceptedValue, a_ownRound, a_phase, a_promisers, a_promiserRound, a_promiserValue, a_learnedRound, a_learnedFrom, a_learnedValue, a_slots) p q)) : wX_onAccepted_43 post (nI p) (nI q) f_rings f_high f_low a_crashed a_config a_members a_newestCut a_reports a_votes a_myVote a_promised a_acceptedRound a_acceptedValue a_ownRound a_phase a_promisers a_promiserRound a_promiserValue a_learnedRound a_learnedFrom a_learnedValue a_slots := by
  unfold wX_onAccepted_43
  rw [cd_cl hp]
  refine ⟨cd_vi hp, cd_vi hp, nm_e ⟨cd_vi hp, xw_ct ⟨cd_vi hp, ?_⟩⟩⟩
  rw [pk_us]
  refine xw_ct (xw_cq ?_)
  unfold cx_lrn at h
  dsimp only at h
  by_cases c : cd_ct (a_learnedFrom p ||| (1 <<< (nI q &&& 31))) < cd_cq (cd_ct (a_members p))
  · rw [if_neg (Int32.not_le.mpr c)] at h
    exact br_t c h
  · rw [if_pos (Int32.not_lt.mp c)] at h
    exact br_f c ⟨cd_vi hp, xw_dec hp (cx_eta h)⟩
theorem xw_acd {post : SX → Prop} {p q : Nat} (hp : p < 16) {x y : Int32} (h : post (cx_acd (f_rings, f_high, f_low, a_crashed, a_config, a_members, a_newestCut, a_reports, a_votes, a_myVote, a_promised, a_acceptedRound, a_acceptedValue, a_ownRound, a_phase, a_promisers, a_promiserRound, a_promiserValue, a_learnedRound, a_learnedFrom, a_learnedValue, a_slots) p q x y)) : wpX_onAccepted post (f_rings, f_high, f_low, a_crashed, a_config, a_members, a_newestCut, a_reports, a_votes, a_myVote, a_promised, a_acceptedRound, a_acceptedValue, a_ownRound, a_phase, a_promisers, a_promiserRound, a_promiserValue, a_learnedRound, a_learnedFrom, a_learnedValue, a_slots) (nI p) (nI q) x y := by
  unfold wpX_onAccepted
  dsimp only
  rw [cd_cl hp]
  refine ⟨cd_vi hp, ?_⟩
  unfold cx_acd at h
  dsimp only at h
  by_cases c : a_learnedRound p ≤ x
  · rw [if_neg (Int32.not_lt.mpr c)] at h
    refine br_t c ⟨cd_vi hp, ?_⟩
    by_cases c2 : x ≤ a_learnedRound p
    · rw [if_neg (Int32.not_lt.mpr c2)] at h
      exact br_t c2 (xw_lrn hp h)
    · rw [if_pos (Int32.not_le.mp c2)] at h
      exact br_f c2 ⟨cd_vi hp, nm_e ⟨cd_vi hp, nm_e ⟨cd_vi hp, nm_e (xw_lrn hp h)⟩⟩⟩
  · rw [if_pos (Int32.not_le.mp c)] at h
    exact br_f c h
theorem xw_mem {post : SX → Prop} {p q : Nat} (hp : p < 16) (hq : q < 16) {kind c x y z : Int32} (hx : kind = 1 → ∃ s, s < 16 ∧ x = nI s) (h : post (cx_mem (f_rings, f_high, f_low, a_crashed, a_config, a_members, a_newestCut, a_reports, a_votes, a_myVote, a_promised, a_acceptedRound, a_acceptedValue, a_ownRound, a_phase, a_promisers, a_promiserRound, a_promiserValue, a_learnedRound, a_learnedFrom, a_learnedValue, a_slots) p q kind c x y z)) : wpX_receiveAsMember post (f_rings, f_high, f_low, a_crashed, a_config, a_members, a_newestCut, a_reports, a_votes, a_myVote, a_promised, a_acceptedRound, a_acceptedValue, a_ownRound, a_phase, a_promisers, a_promiserRound, a_promiserValue, a_learnedRound, a_learnedFrom, a_learnedValue, a_slots) (nI p) kind (nI q) c x y z := by
  unfold wpX_receiveAsMember
  dsimp only
  rw [cd_cl hp]
  refine ⟨cd_vi hp, ?_⟩
  unfold cx_mem at h
  dsimp only at h
  by_cases c1 : a_config p ≤ c
  · rw [if_neg (Int32.not_lt.mpr c1)] at h
    refine br_t c1 ⟨cd_vi hp, ?_⟩
    by_cases c2 : c ≤ a_config p
    · rw [if_neg (Int32.not_lt.mpr c2)] at h
      refine br_t c2 ?_
      by_cases k0 : kind < 1
      · have n : ∀ j : Int32, 1 ≤ j → ¬ kind = j := fun j hj e => absurd (Int32.lt_of_lt_of_le k0 (Int32.le_trans hj (by rw [e]; exact Int32.le_refl _))) (Int32.lt_irrefl)
        rw [if_neg (n 1 (by decide)), if_neg (n 2 (by decide)), if_neg (n 3 (by decide)), if_neg (n 4 (by decide)), if_neg (n 5 (by decide)), if_neg (n 6 (by decide))] at h
        exact br_t k0 h
      refine br_f k0 ?_
      by_cases k7 : 6 < kind
      · have n : ∀ j : Int32, j ≤ 6 → ¬ kind = j := fun j hj e => absurd (Int32.lt_of_lt_of_le k7 (by rw [e]; exact hj)) (Int32.lt_irrefl)
        rw [if_neg (n 1 (by decide)), if_neg (n 2 (by decide)), if_neg (n 3 (by decide)), if_neg (n 4 (by decide)), if_neg (n 5 (by decide)), if_neg (n 6 (by decide))] at h
        exact br_t k7 h
      refine br_f k7 ?_
      by_cases k1 : kind = 1
      · rw [if_pos k1] at h
        obtain ⟨s, hs, e⟩ := hx k1
        subst e
        rw [cd_cl hs] at h
        exact br_t k1 (xw_alert hp hs (cx_eta h))
      rw [if_neg k1] at h
      refine br_f k1 ?_
      by_cases k2 : kind = 2
      · rw [if_pos k2] at h
        exact br_t k2 (xw_vote hp hq (cx_eta h))
      rw [if_neg k2] at h
      refine br_f k2 ?_
      by_cases k3 : kind = 3
      · rw [if_pos k3] at h
        exact br_t k3 (xw_prep hp (cx_eta h))
      rw [if_neg k3] at h
      refine br_f k3 ?_
      by_cases k4 : kind = 4
      · rw [if_pos k4] at h
        exact br_t k4 (xw_prom hp hq (cx_eta h))
      rw [if_neg k4] at h
      refine br_f k4 ?_
      by_cases k5 : kind = 5
      · rw [if_pos k5] at h
        exact br_t k5 (xw_acc hp (cx_eta h))
      rw [if_neg k5] at h
      refine br_f k5 ?_
      by_cases k6 : kind = 6
      · rw [if_pos k6] at h
        exact br_t k6 (xw_acd hp (cx_eta h))
      · exact br_f k6 trivial
    · rw [if_pos (Int32.not_le.mp c2)] at h
      exact br_f c2 h
  · rw [if_pos (Int32.not_le.mp c1)] at h
    refine br_f c1 ?_
    by_cases e : q = p
    · rw [if_pos e] at h
      exact br_t (by rw [e]) h
    · rw [if_neg e] at h
      exact br_f (fun z => e ((nI_eq (by omega) (by omega)).mp z)) ⟨cd_vi hp, cd_vi hp, xw_send hp h⟩
end CD6
end
section
section CD7
variable {f_rings f_high f_low : Int32} {a_crashed a_config a_members a_newestCut a_reports a_votes a_myVote a_promised a_acceptedRound a_acceptedValue a_ownRound a_phase a_promisers a_promiserRound a_promiserValue a_learnedRound a_learnedFrom a_learnedValue a_slots : Nat → Int32}
theorem xw_awt {post : Int32 → Prop} {i p : Nat} (hi : i < 32) (hp : p < 16) (h0 : bt (a_slots (i * 7 + 6)) p = false → post 0) (h1 : bt (a_slots (i * 7 + 6)) p = true → post 1) : wpX_awaits post (f_rings, f_high, f_low, a_crashed, a_config, a_members, a_newestCut, a_reports, a_votes, a_myVote, a_promised, a_acceptedRound, a_acceptedValue, a_ownRound, a_phase, a_promisers, a_promiserRound, a_promiserValue, a_learnedRound, a_learnedFrom, a_learnedValue, a_slots) (nI i) (nI p) := by
  unfold wpX_awaits
  dsimp only
  rw [cd_i76, cd_c7 hi (by omega)]
  exact br_f (nI_pos (by omega)) (br_f (nI_ge (b := 32) hi (by decide)) (xw_isP hp (br_f (by decide) ⟨cd_v7 hi (by omega), xw_has (by omega) (fun hb => ⟨rfl, h0 hb⟩) (fun hb => ⟨rfl, h1 hb⟩)⟩)))
theorem xw_isN {post : Int32 → Prop} {x : Int32} (hx : x < 0 ∨ (¬ x < 0 ∧ (16 : Int32) ≤ x ∧ (15 : Int32) < x ∧ ¬ x ≤ 15)) (h : post 0) : wpX_isProcess post x := by
  unfold wpX_isProcess
  rcases hx with a | a
  · exact br_t a h
  · exact br_f a.1 (br_t a.2.1 h)
theorem cd_bt0 {x : Int32} {p : Nat} (h : bt x p = true) : ¬ x = 0 := by
  intro e
  rw [e, b_0] at h
  exact absurd h (by decide)
theorem xw_del {post : Int32 → SX → Prop} {i p : Nat} (hi : i < 32) (hp : p < 16) (hb : bt (a_slots (i * 7 + 6)) p = true) (hq : ∃ q, q < 16 ∧ a_slots (i * 7 + 1) = nI q) (hx : a_slots (i * 7) = 1 → ∃ s, s < 16 ∧ a_slots (i * 7 + 3) = nI s) (h : post 1 (cx_del (f_rings, f_high, f_low, a_crashed, a_config, a_members, a_newestCut, a_reports, a_votes, a_myVote, a_promised, a_acceptedRound, a_acceptedValue, a_ownRound, a_phase, a_promisers, a_promiserRound, a_promiserValue, a_learnedRound, a_learnedFrom, a_learnedValue, a_slots) i p)) : wpX_deliver post (f_rings, f_high, f_low, a_crashed, a_config, a_members, a_newestCut, a_reports, a_votes, a_myVote, a_promised, a_acceptedRound, a_acceptedValue, a_ownRound, a_phase, a_promisers, a_promiserRound, a_promiserValue, a_learnedRound, a_learnedFrom, a_learnedValue, a_slots) (nI i) (nI p) := by
  unfold wpX_deliver
  refine xw_awt hi hp (fun z => by rw [hb] at z; exact absurd z (by decide)) (fun _ => ?_)
  refine br_f (by decide) (nm_r (cd_i7 i) ?_)
  rw [cd_a0, cd_a1, cd_a2, cd_a3, cd_a4, cd_a5, cd_cl hp]
  rw [cd_c7 (k := 1) hi (by omega), cd_c7 (k := 2) hi (by omega), cd_c7 (k := 3) hi (by omega), cd_c7 (k := 4) hi (by omega), cd_c7 (k := 5) hi (by omega), show (nI (i * 7)).toNatClampNeg = i * 7 from nI_clamp (by omega)]
  obtain ⟨q, hq16, eq⟩ := hq
  unfold cx_del at h
  dsimp only at h
  rw [eq, cd_cl hq16] at h
  refine ⟨vp_in_nI (by omega) (by decide), nm_e ⟨cd_v7 hi (by omega), nm_r eq ⟨cd_v7 hi (by omega), nm_e ⟨cd_v7 hi (by omega), nm_e ⟨cd_v7 hi (by omega), nm_e ⟨cd_v7 hi (by omega), nm_e ?_⟩⟩⟩⟩⟩⟩
  refine xw_off hi ?_
  unfold cx_off at h ⊢
  unfold cx_recv at h
  dsimp only at h ⊢
  refine ⟨cd_vi hp, ?_⟩
  by_cases c : a_crashed p = 0
  · rw [if_pos c] at h
    refine br_t c ?_
    by_cases k : a_slots (i * 7) = 7
    · rw [if_pos k] at h
      refine br_t k ⟨cd_vi hp, ?_⟩
      by_cases g : a_slots (i * 7 + 2) ≤ a_config p
      · rw [if_neg (Int32.not_lt.mpr g)] at h
        exact br_t g h
      · rw [if_pos (Int32.not_le.mp g)] at h
        exact br_f g (xw_inst hp h)
    · rw [if_neg k] at h
      refine br_f k (xw_stt hp ?_)
      unfold cd_stt
      rw [if_pos c]
      by_cases hm : bt (a_members p) p = true
      · rw [if_pos hm] at h ⊢
        exact br_t rfl (xw_mem hp hq16 hx (cx_eta (post := post 1) h))
      · rw [if_neg hm] at h ⊢
        exact br_f (by decide) h
  · rw [if_neg c] at h
    exact br_f c h
end CD7
end
section
section CD8
variable {f_kk f_hh f_ll : Int32} {a_crashed a_cfg a_mem a_lastCut a_myVote a_promised a_accRnd a_accVal a_crnd a_phase a_prom a_lrnd a_lset a_lval a_rep a_vote a_pr a_pv a_sm : Nat → Int32}
theorem cy_eta {post : SY → Prop} {u : SY} (h : post u) : (match u with | (f_kk, f_hh, f_ll, a_crashed, a_cfg, a_mem, a_lastCut, a_myVote, a_promised, a_accRnd, a_accVal, a_crnd, a_phase, a_prom, a_lrnd, a_lset, a_lval, a_rep, a_vote, a_pr, a_pv, a_sm) => post (f_kk, f_hh, f_ll, a_crashed, a_cfg, a_mem, a_lastCut, a_myVote, a_promised, a_accRnd, a_accVal, a_crnd, a_phase, a_prom, a_lrnd, a_lset, a_lval, a_rep, a_vote, a_pr, a_pv, a_sm)) := h
theorem yw_has {post : Int32 → Prop} {x : Int32} {i : Nat} (hi : i < 32) (h0 : bt x i = false → post 0) (h1 : bt x i = true → post 1) : wpY_has post (f_kk, f_hh, f_ll, a_crashed, a_cfg, a_mem, a_lastCut, a_myVote, a_promised, a_accRnd, a_accVal, a_crnd, a_phase, a_prom, a_lrnd, a_lset, a_lval, a_rep, a_vote, a_pr, a_pv, a_sm) x (nI i) := br_c (fun e => h0 ((cd_has hi).mp e)) (fun e => h1 ((cd_hasn hi).mp e))
theorem yw_key {post : Int32 → Prop} {r x : Int32} (h : post (cd_key r x)) : wpY_key post (f_kk, f_hh, f_ll, a_crashed, a_cfg, a_mem, a_lastCut, a_myVote, a_promised, a_accRnd, a_accVal, a_crnd, a_phase, a_prom, a_lrnd, a_lset, a_lval, a_rep, a_vote, a_pr, a_pv, a_sm) r x := ⟨by decide, h⟩
theorem yw_obsL {post : Int32 → Prop} {m s r : Int32} (h : post (cd_nr m s r 99 16).1) : ∀ d y, y + d = 16 → wY_obs_10 post m s r f_kk f_hh f_ll a_crashed a_cfg a_mem a_lastCut a_myVote a_promised a_accRnd a_accVal a_crnd a_phase a_prom a_lrnd a_lset a_lval a_rep a_vote a_pr a_pv a_sm (d + 1) (cd_nr m s r 99 y).1 (cd_nr m s r 99 y).2 (nI y) := by
  intro d
  induction d with
  | zero =>
    intro y hy
    have e : y = 16 := by omega
    subst e
    exact br_t (cd_at16 rfl) h
  | succ d ih =>
    intro y hy
    have ih := ih (y + 1) (by omega)
    refine br_f (cd_ge16 (by omega)) (yw_has (by omega) (fun hb => ?_) (fun hb => ?_))
    · have e : cd_nr m s r 99 (y + 1) = cd_nr m s r 99 y := if_neg (fun z => by rw [hb] at z; exact absurd z.2.1 (by decide))
      rw [e] at ih
      exact br_t rfl (nm_r (nI_1 y) ih)
    · refine br_f (by decide) ?_
      by_cases hs : nI y = s
      · have e : cd_nr m s r 99 (y + 1) = cd_nr m s r 99 y := if_neg (fun z => z.1 hs)
        rw [e] at ih
        exact br_t hs (nm_r (nI_1 y) ih)
      · refine br_f hs (yw_key (yw_key ⟨by decide, nm_r (e' := cd_dst r s (nI y)) rfl ?_⟩))
        by_cases hd : (cd_nr m s r 99 y).2 ≤ cd_dst r s (nI y)
        · have e : cd_nr m s r 99 (y + 1) = cd_nr m s r 99 y := if_neg (fun z => Int32.not_lt.mpr hd z.2.2)
          rw [e] at ih
          exact br_t hd (nm_r (nI_1 y) ih)
        · have e : cd_nr m s r 99 (y + 1) = (nI y, cd_dst r s (nI y)) := if_pos ⟨hs, hb, Int32.not_le.mp hd⟩
          rw [e] at ih
          exact br_f hd (nm_r (nI_1 y) ih)
theorem yw_obs {post : Int32 → Prop} {m s r : Int32} (h : post (cd_obs m s r)) : wpY_obs post (f_kk, f_hh, f_ll, a_crashed, a_cfg, a_mem, a_lastCut, a_myVote, a_promised, a_accRnd, a_accVal, a_crnd, a_phase, a_prom, a_lrnd, a_lset, a_lval, a_rep, a_vote, a_pr, a_pv, a_sm) m s r := by
  rw [← cd_nr_obs] at h
  exact ⟨17, yw_obsL h 16 0 rfl⟩
theorem yw_freeL {post : Int32 → Prop} : ∀ d j, j + d = 32 → post (cd_oi (cd_fr a_sm d j)) → wY_freeSlot_2 post f_kk f_hh f_ll a_crashed a_cfg a_mem a_lastCut a_myVote a_promised a_accRnd a_accVal a_crnd a_phase a_prom a_lrnd a_lset a_lval a_rep a_vote a_pr a_pv a_sm (d + 1) (nI j) := by
  intro d
  induction d with
  | zero =>
    intro j hj h
    have e : j = 32 := by omega
    subst e
    exact br_t (by decide) h
  | succ d ih =>
    intro j hj h
    have ih := ih (j + 1) (by omega)
    refine br_f (nI_ge (b := 32) (by omega) (by decide)) ?_
    rw [cd_i76, cd_c7 (by omega) (by omega)]
    refine ⟨cd_v7 (by omega) (by omega), ?_⟩
    unfold cd_fr at h
    by_cases z : a_sm (j * 7 + 6) = 0
    · rw [if_pos z] at h
      exact br_t z h
    · rw [if_neg z] at h
      exact br_f z (nm_r (nI_1 j) (ih h))
theorem yw_free {post : Int32 → Prop} (h : post (cd_oi (cd_fr a_sm 32 0))) : wpY_freeSlot post (f_kk, f_hh, f_ll, a_crashed, a_cfg, a_mem, a_lastCut, a_myVote, a_promised, a_accRnd, a_accVal, a_crnd, a_phase, a_prom, a_lrnd, a_lset, a_lval, a_rep, a_vote, a_pr, a_pv, a_sm) := ⟨33, yw_freeL 32 0 rfl h⟩
theorem yw_send {post : SY → Prop} {p : Nat} (hp : p < 16) {kind x y z d : Int32} (h : post (f_kk, f_hh, f_ll, a_crashed, a_cfg, a_mem, a_lastCut, a_myVote, a_promised, a_accRnd, a_accVal, a_crnd, a_phase, a_prom, a_lrnd, a_lset, a_lval, a_rep, a_vote, a_pr, a_pv, cd_sd a_sm (nI p) (a_cfg p) kind x y z d)) : wpY_send post (f_kk, f_hh, f_ll, a_crashed, a_cfg, a_mem, a_lastCut, a_myVote, a_promised, a_accRnd, a_accVal, a_crnd, a_phase, a_prom, a_lrnd, a_lset, a_lval, a_rep, a_vote, a_pr, a_pv, a_sm) (nI p) kind x y z d := by
  unfold wpY_send
  unfold cd_sd at h
  refine nm_e ?_
  by_cases hd : d &&& 65535 = 0
  · rw [if_pos hd] at h
    exact br_t hd h
  · rw [if_neg hd] at h
    refine br_f hd (yw_free ?_)
    cases e : cd_fr a_sm 32 0 with
    | none =>
      rw [e] at h
      exact br_f (by decide) h
    | some i =>
      rw [e] at h
      have hi := (cd_fr_in e).1
      refine br_t (nI_pos' (by omega)) (nm_r (cd_i7 i) ?_)
      rw [cd_a1, cd_a2, cd_a3, cd_a4, cd_a5, cd_a6, cd_cl hp]
      rw [cd_c7 (k := 1) (by omega) (by omega), cd_c7 (k := 2) (by omega) (by omega), cd_c7 (k := 3) (by omega) (by omega), cd_c7 (k := 4) (by omega) (by omega), cd_c7 (k := 5) (by omega) (by omega), cd_c7 (k := 6) (by omega) (by omega), show (nI (i * 7)).toNatClampNeg = i * 7 from nI_clamp (by omega)]
      exact ⟨vp_in_nI (by omega) (by decide), nm_e ⟨cd_v7 (by omega) (by omega), nm_e ⟨cd_vi hp, cd_v7 (by omega) (by omega), nm_e ⟨cd_v7 (by omega) (by omega), nm_e ⟨cd_v7 (by omega) (by omega), nm_e ⟨cd_v7 (by omega) (by omega), nm_e ⟨cd_v7 (by omega) (by omega), nm_e h⟩⟩⟩⟩⟩⟩⟩
theorem yw_ctL {post : Int32 → Prop} {x : Int32} (h : post (cd_ct x)) : ∀ d i, i + d = 16 → wY_count_4 post x f_kk f_hh f_ll a_crashed a_cfg a_mem a_lastCut a_myVote a_promised a_accRnd a_accVal a_crnd a_phase a_prom a_lrnd a_lset a_lval a_rep a_vote a_pr a_pv a_sm (d + 1) (nI (cd_cn x i)) (nI i) := by
  intro d
  induction d with
  | zero =>
    intro i hi
    have e : i = 16 := by omega
    subst e
    exact br_t (cd_at16 rfl) h
  | succ d ih =>
    intro i hi
    have ih := ih (i + 1) (by omega)
    refine br_f (cd_ge16 (by omega)) (br_c (fun z => ?_) (fun z => ?_))
    · have e : cd_cn x (i + 1) = cd_cn x i := by
        show cd_cn x i + (if bt x i = true then 1 else 0) = cd_cn x i
        rw [(cd_has (by omega)).mp z]
        rfl
      rw [e] at ih
      exact nm_r (nI_1 i) ih
    · have e : cd_cn x (i + 1) = cd_cn x i + 1 := by
        show cd_cn x i + (if bt x i = true then 1 else 0) = cd_cn x i + 1
        rw [(cd_hasn (by omega)).mp z]
        rfl
      rw [e] at ih
      exact nm_r (nI_1 _) (nm_r (nI_1 i) ih)
theorem yw_ct {post : Int32 → Prop} {x : Int32} (h : post (cd_ct x)) : wpY_count post (f_kk, f_hh, f_ll, a_crashed, a_cfg, a_mem, a_lastCut, a_myVote, a_promised, a_accRnd, a_accVal, a_crnd, a_phase, a_prom, a_lrnd, a_lset, a_lval, a_rep, a_vote, a_pr, a_pv, a_sm) x := ⟨17, yw_ctL h 16 0 rfl⟩
theorem yw_stt {post : Int32 → Prop} {p : Nat} (hp : p < 16) (h : post (cd_stt (a_crashed p) (a_mem p) p)) : wpY_stat post (f_kk, f_hh, f_ll, a_crashed, a_cfg, a_mem, a_lastCut, a_myVote, a_promised, a_accRnd, a_accVal, a_crnd, a_phase, a_prom, a_lrnd, a_lset, a_lval, a_rep, a_vote, a_pr, a_pv, a_sm) (nI p) := by
  unfold wpY_stat
  dsimp only
  rw [cd_cl hp]
  refine ⟨cd_vi hp, ?_⟩
  unfold cd_stt at h
  by_cases c : a_crashed p = 0
  · rw [if_pos c] at h
    refine br_t c ⟨cd_vi hp, yw_has (by omega) (fun hb => ?_) (fun hb => ?_)⟩
    · rw [hb, if_neg (by decide)] at h
      exact br_t rfl h
    · rw [hb, if_pos rfl] at h
      exact br_f (by decide) h
  · rw [if_neg c] at h
    exact br_f c h
theorem yw_resetL {post : SY → Prop} {p : Nat} (hp : p < 16) (h : post (f_kk, f_hh, f_ll, a_crashed, a_cfg, a_mem, a_lastCut, upd a_myVote p (-1), upd a_promised p 0, upd a_accRnd p (-1), upd a_accVal p 0, upd a_crnd p 0, upd a_phase p 0, upd a_prom p 0, upd a_lrnd p 0, upd a_lset p 0, upd a_lval p 0, cd_fill a_rep (p * 16) 0 16, cd_fill a_vote (p * 16) (-1) 16, cd_fill a_pr (p * 16) 0 16, cd_fill a_pv (p * 16) 0 16, a_sm)) :
    ∀ d q, q + d = 16 → wY_reset_2 post (nI p) f_kk f_hh f_ll (d + 1) (nI q) a_crashed a_cfg a_mem a_lastCut a_myVote a_promised a_accRnd a_accVal a_crnd a_phase a_prom a_lrnd a_lset a_lval (cd_fill a_rep (p * 16) 0 q) (cd_fill a_vote (p * 16) (-1) q) (cd_fill a_pr (p * 16) 0 q) (cd_fill a_pv (p * 16) 0 q) a_sm := by
  intro d
  induction d with
  | zero =>
    intro q hq
    have e : q = 16 := by omega
    subst e
    refine br_t (cd_at16 rfl) ?_
    rw [cd_cl hp]
    exact ⟨cd_vi hp, nm_e ⟨cd_vi hp, nm_e ⟨cd_vi hp, nm_e ⟨cd_vi hp, nm_e ⟨cd_vi hp, nm_e ⟨cd_vi hp, nm_e ⟨cd_vi hp, nm_e ⟨cd_vi hp, nm_e ⟨cd_vi hp, nm_e ⟨cd_vi hp, nm_e h⟩⟩⟩⟩⟩⟩⟩⟩⟩⟩
  | succ d ih =>
    intro q hq
    have ih := ih (q + 1) (by omega)
    refine br_f (cd_ge16 (by omega)) ?_
    rw [cd_cl16 hp (by omega)]
    have v := cd_vi16 hp (show q < 16 by omega)
    exact ⟨v, nm_r cd_fillS ⟨v, nm_r cd_fillS ⟨v, nm_r cd_fillS ⟨v, nm_r cd_fillS (nm_r (nI_1 q) ih)⟩⟩⟩⟩
theorem yw_reset {post : SY → Prop} {p : Nat} (hp : p < 16) (h : post (f_kk, f_hh, f_ll, a_crashed, a_cfg, a_mem, a_lastCut, upd a_myVote p (-1), upd a_promised p 0, upd a_accRnd p (-1), upd a_accVal p 0, upd a_crnd p 0, upd a_phase p 0, upd a_prom p 0, upd a_lrnd p 0, upd a_lset p 0, upd a_lval p 0, cd_fill a_rep (p * 16) 0 16, cd_fill a_vote (p * 16) (-1) 16, cd_fill a_pr (p * 16) 0 16, cd_fill a_pv (p * 16) 0 16, a_sm)) : wpY_reset post (f_kk, f_hh, f_ll, a_crashed, a_cfg, a_mem, a_lastCut, a_myVote, a_promised, a_accRnd, a_accVal, a_crnd, a_phase, a_prom, a_lrnd, a_lset, a_lval, a_rep, a_vote, a_pr, a_pv, a_sm) (nI p) := by
  have L := yw_resetL (f_kk := f_kk) (f_hh := f_hh) (f_ll := f_ll) hp h 16 0 rfl
  rw [cd_fill0, cd_fill0, cd_fill0, cd_fill0] at L
  exact ⟨17, L⟩
end CD8
end
section
section CD9
variable {f_rings f_high f_low : Int32} {a_crashed a_config a_members a_newestCut a_reports a_votes a_myVote a_promised a_acceptedRound a_acceptedValue a_ownRound a_phase a_promisers a_promiserRound a_promiserValue a_learnedRound a_learnedFrom a_learnedValue a_slots a_pr a_pv a_sm : Nat → Int32}
theorem yr_send {post : SY → Prop} {v : SY} (R : cy_R (f_rings, f_high, f_low, a_crashed, a_config, a_members, a_newestCut, a_reports, a_votes, a_myVote, a_promised, a_acceptedRound, a_acceptedValue, a_ownRound, a_phase, a_promisers, a_promiserRound, a_promiserValue, a_learnedRound, a_learnedFrom, a_learnedValue, a_slots) v) {p : Nat} (hp : p < 16) {kind x y z d : Int32} (hx : kind = 1 → ∃ j, j < 16 ∧ x = nI j) (h : ∀ v', cy_R (cx_send (f_rings, f_high, f_low, a_crashed, a_config, a_members, a_newestCut, a_reports, a_votes, a_myVote, a_promised, a_acceptedRound, a_acceptedValue, a_ownRound, a_phase, a_promisers, a_promiserRound, a_promiserValue, a_learnedRound, a_learnedFrom, a_learnedValue, a_slots) p kind x y z d) v' → post v') : wpY_send post v (nI p) kind x y z d := by
  obtain ⟨a_pr, a_pv, a_sm, rfl, hK, Q, S⟩ := R
  exact yw_send hp (h _ ⟨a_pr, a_pv, _, rfl, hK, Q, cy_S_send S hp hx⟩)
theorem cy_Q_fill {pm pr pv pr' pv' : Nat → Int32} (Q : cy_Q pm pr pv pr' pv') (p : Nat) : cy_Q (upd pm p 0) pr pv (cd_fill pr' (p * 16) 0 16) (cd_fill pv' (p * 16) 0 16) := by
  intro a q ha hq hb
  by_cases e : a = p
  · subst e
    rw [pk_us, b_0] at hb
    exact absurd hb (by decide)
  · rw [pk_un e] at hb
    rw [cd_fillO (by omega), cd_fillO (by omega)]
    exact Q a q ha hq hb
theorem yr_inst {post : SY → Prop} {v : SY} (R : cy_R (f_rings, f_high, f_low, a_crashed, a_config, a_members, a_newestCut, a_reports, a_votes, a_myVote, a_promised, a_acceptedRound, a_acceptedValue, a_ownRound, a_phase, a_promisers, a_promiserRound, a_promiserValue, a_learnedRound, a_learnedFrom, a_learnedValue, a_slots) v) {p : Nat} (hp : p < 16) {n s c : Int32} (h : ∀ v', cy_R (cx_inst (f_rings, f_high, f_low, a_crashed, a_config, a_members, a_newestCut, a_reports, a_votes, a_myVote, a_promised, a_acceptedRound, a_acceptedValue, a_ownRound, a_phase, a_promisers, a_promiserRound, a_promiserValue, a_learnedRound, a_learnedFrom, a_learnedValue, a_slots) p n s c) v' → post v') : wpY_install post v (nI p) n s c := by
  obtain ⟨a_pr, a_pv, a_sm, rfl, hK, Q, S⟩ := R
  unfold wpY_install
  dsimp only
  rw [cd_cl hp]
  exact ⟨cd_vi hp, nm_e ⟨cd_vi hp, nm_e ⟨cd_vi hp, nm_e (yw_reset hp (h _ ⟨_, _, a_sm, rfl, hK, cy_Q_fill Q p, S⟩))⟩⟩⟩
theorem yr_dec {post : SY → Prop} {v : SY} (R : cy_R (f_rings, f_high, f_low, a_crashed, a_config, a_members, a_newestCut, a_reports, a_votes, a_myVote, a_promised, a_acceptedRound, a_acceptedValue, a_ownRound, a_phase, a_promisers, a_promiserRound, a_promiserValue, a_learnedRound, a_learnedFrom, a_learnedValue, a_slots) v) {p : Nat} (hp : p < 16) {c : Int32} (h : ∀ v', cy_R (cx_dec (f_rings, f_high, f_low, a_crashed, a_config, a_members, a_newestCut, a_reports, a_votes, a_myVote, a_promised, a_acceptedRound, a_acceptedValue, a_ownRound, a_phase, a_promisers, a_promiserRound, a_promiserValue, a_learnedRound, a_learnedFrom, a_learnedValue, a_slots) p c) v' → post v') : wpY_decide post v (nI p) c := by
  obtain ⟨a_pr, a_pv, a_sm, rfl, hK, Q, S⟩ := R
  unfold wpY_decide
  dsimp only
  rw [cd_cl hp]
  refine ⟨cd_vi hp, nm_e ⟨cd_vi hp, yr_inst ⟨a_pr, a_pv, a_sm, rfl, hK, Q, S⟩ hp (fun v' R' => ?_)⟩⟩
  obtain ⟨b_pr, b_pv, b_sm, rfl, hK', Q', S'⟩ := R'
  dsimp only
  refine ⟨cd_vi hp, ?_⟩
  rw [pk_us]
  exact yr_send ⟨b_pr, b_pv, b_sm, rfl, hK', Q', S'⟩ hp (fun z => absurd z (by decide)) (fun v'' R'' => cy_eta (h v'' R''))
theorem yr_alertL {post : SY → Prop} (hK : ∃ K, K ≤ 6 ∧ f_rings = nI K) (Q : cy_Q a_promisers a_promiserRound a_promiserValue a_pr a_pv) (S : cy_S a_slots a_sm) {p : Nat} (hp : p < 16) (h : ∀ v', cy_R (cx_pis (f_rings, f_high, f_low, a_crashed, a_config, a_members, a_newestCut, a_reports, a_votes, a_myVote, a_promised, a_acceptedRound, a_acceptedValue, a_ownRound, a_phase, a_promisers, a_promiserRound, a_promiserValue, a_learnedRound, a_learnedFrom, a_learnedValue, a_slots) p) v' → post v') :
    ∀ d s m e, s + d = 16 → (cd_st a_reports (p * 16) f_high f_low s = some m ∧ e = 0) ∨ (cd_st a_reports (p * 16) f_high f_low s = none ∧ e = 1) → wY_onAlert_64 post (nI p) f_rings f_high f_low a_crashed a_config a_members a_newestCut a_myVote a_promised a_acceptedRound a_acceptedValue a_ownRound a_phase a_promisers a_learnedRound a_learnedFrom a_learnedValue a_reports a_votes a_pr a_pv a_sm (d + 1) m e (nI s) := by
  intro d
  induction d with
  | zero =>
    intro s m e hs I
    have e2 : s = 16 := by omega
    subst e2
    refine br_t (cd_at16 rfl) ?_
    rw [cd_cl hp]
    unfold cx_pis at h
    dsimp only at h
    rcases I with ⟨I, rfl⟩ | ⟨I, rfl⟩
    · rw [I] at h
      dsimp only at h
      by_cases z : m = 0
      · rw [if_pos z] at h
        exact br_t z (h _ ⟨a_pr, a_pv, a_sm, rfl, hK, Q, S⟩)
      · rw [if_neg z] at h
        exact br_f z (br_t rfl ⟨cd_vi hp, nm_e ⟨cd_vi hp, nm_e ⟨cd_vi hp, nm_e ⟨cd_vi hp, yr_send ⟨a_pr, a_pv, a_sm, rfl, hK, Q, S⟩ hp (fun z => absurd z (by decide)) (fun v' R' => cy_eta (h v' R'))⟩⟩⟩⟩)
    · rw [I] at h
      have hh := h _ ⟨a_pr, a_pv, a_sm, rfl, hK, Q, S⟩
      by_cases z : m = 0
      · exact br_t z hh
      · exact br_f z (br_f (by decide) hh)
  | succ d ih =>
    intro s m e hs I
    have ih := ih (s + 1)
    refine br_f (cd_ge16 (by omega)) ⟨cd_vi16 hp (by omega), yw_ct ?_⟩
    rw [cd_cl16 hp (by omega)]
    rcases I with ⟨I, rfl⟩ | ⟨I, rfl⟩
    · have step : cd_st a_reports (p * 16) f_high f_low (s + 1) = (if f_high ≤ cd_ct (a_reports (p * 16 + s)) then some (m ||| (1 <<< (nI s &&& 31))) else if f_low ≤ cd_ct (a_reports (p * 16 + s)) then none else some m) := by
        show (match cd_st a_reports (p * 16) f_high f_low s with
          | none => none
          | some m => if f_high ≤ cd_ct (a_reports (p * 16 + s)) then some (m ||| (1 <<< (nI s &&& 31))) else if f_low ≤ cd_ct (a_reports (p * 16 + s)) then none else some m) = _
        rw [I]
      by_cases c1 : cd_ct (a_reports (p * 16 + s)) < f_high
      · refine br_t c1 ?_
        rw [if_neg (Int32.not_le.mpr c1)] at step
        by_cases c2 : cd_ct (a_reports (p * 16 + s)) < f_low
        · rw [if_neg (Int32.not_le.mpr c2)] at step
          exact br_t c2 (nm_r (nI_1 s) (ih m 0 (by omega) (Or.inl ⟨step, rfl⟩)))
        · rw [if_pos (Int32.not_lt.mp c2)] at step
          exact br_f c2 (nm_r (nI_1 s) (ih m 1 (by omega) (Or.inr ⟨step, rfl⟩)))
      · rw [if_pos (Int32.not_lt.mp c1)] at step
        exact br_f c1 (nm_e (nm_r (nI_1 s) (ih _ 0 (by omega) (Or.inl ⟨step, rfl⟩))))
    · have step := cd_st_none I 1
      by_cases c1 : cd_ct (a_reports (p * 16 + s)) < f_high
      · refine br_t c1 ?_
        by_cases c2 : cd_ct (a_reports (p * 16 + s)) < f_low
        · exact br_t c2 (nm_r (nI_1 s) (ih m 1 (by omega) (Or.inr ⟨step, rfl⟩)))
        · exact br_f c2 (nm_r (nI_1 s) (ih m 1 (by omega) (Or.inr ⟨step, rfl⟩)))
      · exact br_f c1 (nm_e (nm_r (nI_1 s) (ih _ 1 (by omega) (Or.inr ⟨step, rfl⟩))))
theorem yr_alert {post : SY → Prop} {v : SY} (R : cy_R (f_rings, f_high, f_low, a_crashed, a_config, a_members, a_newestCut, a_reports, a_votes, a_myVote, a_promised, a_acceptedRound, a_acceptedValue, a_ownRound, a_phase, a_promisers, a_promiserRound, a_promiserValue, a_learnedRound, a_learnedFrom, a_learnedValue, a_slots) v) {p s : Nat} (hp : p < 16) (hs : s < 16) {y : Int32} (h : ∀ v', cy_R (cx_alert (f_rings, f_high, f_low, a_crashed, a_config, a_members, a_newestCut, a_reports, a_votes, a_myVote, a_promised, a_acceptedRound, a_acceptedValue, a_ownRound, a_phase, a_promisers, a_promiserRound, a_promiserValue, a_learnedRound, a_learnedFrom, a_learnedValue, a_slots) p s y) v' → post v') : wpY_onAlert post v (nI p) (nI s) y := by
  obtain ⟨a_pr, a_pv, a_sm, rfl, hK, Q, S⟩ := R
  unfold wpY_onAlert
  dsimp only
  rw [cd_cl hp, cd_cl16 hp hs]
  refine br_f (cd_j0 hs) (br_t (cd_l15 hs) ⟨cd_vi16 hp hs, cd_vi16 hp hs, nm_e ⟨cd_vi hp, ?_⟩⟩)
  unfold cx_alert at h
  dsimp only at h
  by_cases c1 : a_myVote p = -1
  · refine br_t c1 ⟨cd_vi hp, ?_⟩
    by_cases c2 : a_promised p = 0
    · rw [if_pos ⟨c1, c2⟩] at h
      exact br_t c2 ⟨17, yr_alertL hK Q S hp h 16 0 0 0 rfl (Or.inl ⟨rfl, rfl⟩)⟩
    · rw [if_neg (fun z => c2 z.2)] at h
      exact br_f c2 (h _ ⟨a_pr, a_pv, a_sm, rfl, hK, Q, S⟩)
  · rw [if_neg (fun z => c1 z.1)] at h
    exact br_f c1 (h _ ⟨a_pr, a_pv, a_sm, rfl, hK, Q, S⟩)
theorem yr_voteL {post : SY → Prop} (hK : ∃ K, K ≤ 6 ∧ f_rings = nI K) (Q : cy_Q a_promisers a_promiserRound a_promiserValue a_pr a_pv) (S : cy_S a_slots a_sm) {p : Nat} (hp : p < 16) {x fq : Int32} (h1 : fq ≤ nI (cd_sm a_votes (p * 16) x 16) → ∀ v', cy_R (cx_dec (f_rings, f_high, f_low, a_crashed, a_config, a_members, a_newestCut, a_reports, a_votes, a_myVote, a_promised, a_acceptedRound, a_acceptedValue, a_ownRound, a_phase, a_promisers, a_promiserRound, a_promiserValue, a_learnedRound, a_learnedFrom, a_learnedValue, a_slots) p x) v' → post v') (h2 : ¬ fq ≤ nI (cd_sm a_votes (p * 16) x 16) → post (f_rings, f_high, f_low, a_crashed, a_config, a_members, a_newestCut, a_myVote, a_promised, a_acceptedRound, a_acceptedValue, a_ownRound, a_phase, a_promisers, a_learnedRound, a_learnedFrom, a_learnedValue, a_reports, a_votes, a_pr, a_pv, a_sm)) :
    ∀ d i, i + d = 16 → wY_onVote_34 post (nI p) x fq f_rings f_high f_low a_crashed a_config a_members a_newestCut a_myVote a_promised a_acceptedRound a_acceptedValue a_ownRound a_phase a_promisers a_learnedRound a_learnedFrom a_learnedValue a_reports a_votes a_pr a_pv a_sm (d + 1) (nI (cd_sm a_votes (p * 16) x i)) (nI i) := by
  intro d
  induction d with
  | zero =>
    intro i hi
    have e : i = 16 := by omega
    subst e
    exact br_t (cd_at16 rfl) (br_c (fun z => h2 (Int32.not_le.mpr z)) (fun z => yr_dec ⟨a_pr, a_pv, a_sm, rfl, hK, Q, S⟩ hp (fun v' R' => cy_eta (h1 (Int32.not_lt.mp z) v' R'))))
  | succ d ih =>
    intro i hi
    have ih := ih (i + 1) (by omega)
    refine br_f (cd_ge16 (by omega)) ⟨cd_vi16 hp (by omega), ?_⟩
    rw [cd_cl16 hp (by omega)]
    by_cases c : a_votes (p * 16 + i) = x
    · have e : cd_sm a_votes (p * 16) x (i + 1) = cd_sm a_votes (p * 16) x i + 1 := by rw [cd_smS, if_pos c]
      rw [e] at ih
      exact br_t c (nm_r (nI_1 _) (nm_r (nI_1 i) ih))
    · have e : cd_sm a_votes (p * 16) x (i + 1) = cd_sm a_votes (p * 16) x i := by rw [cd_smS, if_neg c]; rfl
      rw [e] at ih
      exact br_f c (nm_r (nI_1 i) ih)
theorem yr_vote {post : SY → Prop} {v : SY} (R : cy_R (f_rings, f_high, f_low, a_crashed, a_config, a_members, a_newestCut, a_reports, a_votes, a_myVote, a_promised, a_acceptedRound, a_acceptedValue, a_ownRound, a_phase, a_promisers, a_promiserRound, a_promiserValue, a_learnedRound, a_learnedFrom, a_learnedValue, a_slots) v) {p q : Nat} (hp : p < 16) (hq : q < 16) {x : Int32} (h : ∀ v', cy_R (cx_vote (f_rings, f_high, f_low, a_crashed, a_config, a_members, a_newestCut, a_reports, a_votes, a_myVote, a_promised, a_acceptedRound, a_acceptedValue, a_ownRound, a_phase, a_promisers, a_promiserRound, a_promiserValue, a_learnedRound, a_learnedFrom, a_learnedValue, a_slots) p q x) v' → post v') : wpY_onVote post v (nI p) (nI q) x (cd_fq (cd_ct (a_members p))) := by
  obtain ⟨a_pr, a_pv, a_sm, rfl, hK, Q, S⟩ := R
  unfold wpY_onVote
  dsimp only
  rw [cd_cl16 hp hq]
  refine ⟨cd_vi16 hp hq, ?_⟩
  unfold cx_vote at h
  dsimp only at h
  by_cases c : a_votes (p * 16 + q) = -1
  · rw [if_pos c] at h
    refine br_t c ⟨cd_vi16 hp hq, nm_e ⟨17, ?_⟩⟩
    refine yr_voteL hK Q S hp (fun z => ?_) (fun z => ?_) 16 0 rfl
    · rw [if_pos z] at h; exact h
    · rw [if_neg z] at h; exact h _ ⟨a_pr, a_pv, a_sm, rfl, hK, Q, S⟩
  · rw [if_neg c] at h
    exact br_f c (h _ ⟨a_pr, a_pv, a_sm, rfl, hK, Q, S⟩)
theorem yr_lrn {post : SY → Prop} (hK : ∃ K, K ≤ 6 ∧ f_rings = nI K) (Q : cy_Q a_promisers a_promiserRound a_promiserValue a_pr a_pv) (S : cy_S a_slots a_sm) {p q : Nat} (hp : p < 16) {f : Nat → Int32} (hf : f = upd a_learnedFrom p (a_learnedFrom p ||| (1 <<< (nI q &&& 31)))) (h : ∀ v', cy_R (cx_lrn (f_rings, f_high, f_low, a_crashed, a_config, a_members, a_newestCut, a_reports, a_votes, a_myVote, a_promised, a_acceptedRound, a_acceptedValue, a_ownRound, a_phase, a_promisers, a_promiserRound, a_promiserValue, a_learnedRound, a_learnedFrom, a_learnedValue, a_slots) p q) v' → post v') : wY_onAccepted_67 post (nI p) (cd_cq (cd_ct (a_members p))) f_rings f_high f_low a_crashed a_config a_members a_newestCut a_myVote a_promised a_acceptedRound a_acceptedValue a_ownRound a_phase a_promisers a_learnedRound f a_learnedValue a_reports a_votes a_pr a_pv a_sm := by
  subst hf
  unfold wY_onAccepted_67
  rw [cd_cl hp, pk_us]
  refine ⟨cd_vi hp, yw_ct ?_⟩
  unfold cx_lrn at h
  dsimp only at h
  by_cases c : cd_ct (a_learnedFrom p ||| (1 <<< (nI q &&& 31))) < cd_cq (cd_ct (a_members p))
  · rw [if_neg (Int32.not_le.mpr c)] at h
    exact br_t c (h _ ⟨a_pr, a_pv, a_sm, rfl, hK, Q, S⟩)
  · rw [if_pos (Int32.not_lt.mp c)] at h
    exact br_f c ⟨cd_vi hp, yr_dec ⟨a_pr, a_pv, a_sm, rfl, hK, Q, S⟩ hp (fun v' R' => cy_eta (h v' R'))⟩
theorem cd_uu {a : Nat → Int32} {p : Nat} {x y : Int32} : upd (upd a p x) p y = upd a p y := by
  funext j
  by_cases e : j = p
  · subst e; rw [pk_us, pk_us]
  · rw [pk_un e, pk_un e, pk_un e]
theorem yr_acd {post : SY → Prop} {v : SY} (R : cy_R (f_rings, f_high, f_low, a_crashed, a_config, a_members, a_newestCut, a_reports, a_votes, a_myVote, a_promised, a_acceptedRound, a_acceptedValue, a_ownRound, a_phase, a_promisers, a_promiserRound, a_promiserValue, a_learnedRound, a_learnedFrom, a_learnedValue, a_slots) v) {p q : Nat} (hp : p < 16) {x y : Int32} (h : ∀ v', cy_R (cx_acd (f_rings, f_high, f_low, a_crashed, a_config, a_members, a_newestCut, a_reports, a_votes, a_myVote, a_promised, a_acceptedRound, a_acceptedValue, a_ownRound, a_phase, a_promisers, a_promiserRound, a_promiserValue, a_learnedRound, a_learnedFrom, a_learnedValue, a_slots) p q x y) v' → post v') : wpY_onAccepted post v (nI p) (nI q) x y (cd_cq (cd_ct (a_members p))) := by
  obtain ⟨a_pr, a_pv, a_sm, rfl, hK, Q, S⟩ := R
  unfold wpY_onAccepted
  dsimp only
  rw [cd_cl hp]
  refine ⟨cd_vi hp, ?_⟩
  unfold cx_acd at h
  dsimp only at h
  by_cases c : x ≤ a_learnedRound p
  · refine br_t c ⟨cd_vi hp, ?_⟩
    by_cases c2 : x = a_learnedRound p
    · rw [if_neg (by rw [c2]; exact Int32.lt_irrefl), if_neg (by rw [c2]; exact Int32.lt_irrefl)] at h
      exact br_t c2 ⟨cd_vi hp, cd_vi hp, nm_e (yr_lrn hK Q S hp rfl h)⟩
    · have lt : x < a_learnedRound p := by
        rcases Int32.lt_or_eq_of_le c with a | a
        · exact a
        · exact absurd a c2
      rw [if_pos lt] at h
      exact br_f c2 (h _ ⟨a_pr, a_pv, a_sm, rfl, hK, Q, S⟩)
  · have lt := Int32.not_le.mp c
    rw [if_neg (fun z => Int32.lt_irrefl (Int32.lt_trans lt z)), if_pos lt] at h
    refine br_f c ⟨cd_vi hp, nm_e ⟨cd_vi hp, nm_e ⟨cd_vi hp, nm_e (yr_lrn hK Q S hp ?_ h)⟩⟩⟩
    rw [cd_uu, pk_us, Int32.zero_or]
end CD9
end
section
section CD10
variable {f_rings f_high f_low : Int32} {a_crashed a_config a_members a_newestCut a_reports a_votes a_myVote a_promised a_acceptedRound a_acceptedValue a_ownRound a_phase a_promisers a_promiserRound a_promiserValue a_learnedRound a_learnedFrom a_learnedValue a_slots a_pr a_pv a_sm : Nat → Int32}
theorem cd_fp_bt {pm : Int32} {pr : Nat → Int32} {b : Nat} : ∀ n, n ≤ 32 → ∀ q, q < 32 → (bt (cd_fp pm pr b n) q = true ↔ q < n ∧ bt pm q = true ∧ pr (b + q) = 0) := by
  intro n
  induction n with
  | zero =>
    intro _ q _
    unfold cd_fp
    rw [b_0]
    exact ⟨fun z => absurd z (by decide), fun z => absurd z.1 (Nat.not_lt_zero q)⟩
  | succ n ih =>
    intro hn q hq
    have ih := ih (by omega) q hq
    have e0 : cd_fp pm pr b (n + 1) = if bt pm n = true ∧ pr (b + n) = 0 then cd_fp pm pr b n ||| (1 <<< (nI n &&& 31)) else cd_fp pm pr b n := rfl
    rw [e0]
    by_cases c : bt pm n = true ∧ pr (b + n) = 0
    · rw [if_pos c, b_or, cd_shl1 n (by omega) hq, Bool.or_eq_true_iff, ih, decide_eq_true_iff]
      constructor
      · rintro (a | a)
        · exact ⟨by omega, a.2⟩
        · subst a; exact ⟨by omega, c⟩
      · intro a
        by_cases e : q = n
        · exact Or.inr e
        · exact Or.inl ⟨by omega, a.2⟩
    · rw [if_neg c, ih]
      constructor
      · intro a; exact ⟨by omega, a.2⟩
      · intro a
        by_cases e : q = n
        · subst e; exact absurd a.2 c
        · exact ⟨by omega, a.2⟩
theorem cd_fp_b {pm : Int32} {pr : Nat → Int32} {b q : Nat} (hq : q < 16) : bt (cd_fp pm pr b 16) q = true ↔ bt pm q = true ∧ pr (b + q) = 0 := by
  rw [cd_fp_bt 16 (by omega) q (by omega)]
  exact ⟨fun z => z.2, fun z => ⟨hq, z⟩⟩
theorem yr_f1 {post : SY → Prop} (hK : ∃ K, K ≤ 6 ∧ f_rings = nI K) (Q : cy_Q a_promisers a_promiserRound a_promiserValue a_pr a_pv) (S : cy_S a_slots a_sm) {p : Nat} (hp : p < 16) {v : Int32} (h : ∀ v', cy_R (cx_send (f_rings, f_high, f_low, a_crashed, a_config, a_members, a_newestCut, a_reports, a_votes, a_myVote, a_promised, a_acceptedRound, a_acceptedValue, a_ownRound, upd a_phase p 2, a_promisers, a_promiserRound, a_promiserValue, a_learnedRound, a_learnedFrom, a_learnedValue, a_slots) p 5 (a_ownRound p) v 0 (a_members p)) v' → post v') : wY_choose_341 post (nI p) v 1 f_rings f_high f_low a_crashed a_config a_members a_newestCut a_myVote a_promised a_acceptedRound a_acceptedValue a_ownRound a_phase a_promisers a_learnedRound a_learnedFrom a_learnedValue a_reports a_votes a_pr a_pv a_sm := by
  unfold wY_choose_341
  rw [cd_cl hp]
  exact br_f (by decide) ⟨cd_vi hp, nm_e ⟨cd_vi hp, cd_vi hp, yr_send ⟨a_pr, a_pv, a_sm, rfl, hK, Q, S⟩ hp (fun z => absurd z (by decide)) (fun v' R' => cy_eta (h v' R'))⟩⟩
theorem yr_f0 {post : SY → Prop} {p : Nat} (hp : p < 16) {v : Int32} (h : post (f_rings, f_high, f_low, a_crashed, a_config, a_members, a_newestCut, a_myVote, a_promised, a_acceptedRound, a_acceptedValue, a_ownRound, upd a_phase p 0, a_promisers, a_learnedRound, a_learnedFrom, a_learnedValue, a_reports, a_votes, a_pr, a_pv, a_sm)) : wY_choose_341 post (nI p) v 0 f_rings f_high f_low a_crashed a_config a_members a_newestCut a_myVote a_promised a_acceptedRound a_acceptedValue a_ownRound a_phase a_promisers a_learnedRound a_learnedFrom a_learnedValue a_reports a_votes a_pr a_pv a_sm := by
  unfold wY_choose_341
  rw [cd_cl hp]
  exact br_t rfl ⟨cd_vi hp, nm_e h⟩
theorem yr_c3i {post : SY → Prop} {x v : Int32} (h : wY_choose_341 post x v 1 f_rings f_high f_low a_crashed a_config a_members a_newestCut a_myVote a_promised a_acceptedRound a_acceptedValue a_ownRound a_phase a_promisers a_learnedRound a_learnedFrom a_learnedValue a_reports a_votes a_pr a_pv a_sm) : ∀ d j, j + d = 16 → wY_choose_252 post x f_rings f_high f_low a_crashed a_config a_members a_newestCut a_myVote a_promised a_acceptedRound a_acceptedValue a_ownRound a_phase a_promisers a_learnedRound a_learnedFrom a_learnedValue a_reports a_votes a_pr a_pv a_sm (d + 1) v 1 (nI j) := by
  intro d
  induction d with
  | zero =>
    intro j hj
    exact br_t (cd_at16 (by omega)) (br_f (by decide) h)
  | succ d ih =>
    intro j hj
    exact br_f (cd_ge16 (by omega)) (br_f (by decide) (nm_r (nI_1 j) (ih (j + 1) (by omega))))
theorem yr_c3 {post : SY → Prop} (Q : cy_Q a_promisers a_promiserRound a_promiserValue a_pr a_pv) {p : Nat} (hp : p < 16) :
    ∀ d j v0, j + d = 16 → ((cd_lo (cd_fp (a_promisers p) a_promiserRound (p * 16) 16) d j = none ∧ (a_myVote p = -1 → ∀ v0, wY_choose_341 post (nI p) v0 0 f_rings f_high f_low a_crashed a_config a_members a_newestCut a_myVote a_promised a_acceptedRound a_acceptedValue a_ownRound a_phase a_promisers a_learnedRound a_learnedFrom a_learnedValue a_reports a_votes a_pr a_pv a_sm) ∧ (¬ a_myVote p = -1 → wY_choose_341 post (nI p) (a_myVote p) 1 f_rings f_high f_low a_crashed a_config a_members a_newestCut a_myVote a_promised a_acceptedRound a_acceptedValue a_ownRound a_phase a_promisers a_learnedRound a_learnedFrom a_learnedValue a_reports a_votes a_pr a_pv a_sm)) ∨ ∃ q, cd_lo (cd_fp (a_promisers p) a_promiserRound (p * 16) 16) d j = some q ∧ wY_choose_341 post (nI p) (a_promiserValue (p * 16 + q)) 1 f_rings f_high f_low a_crashed a_config a_members a_newestCut a_myVote a_promised a_acceptedRound a_acceptedValue a_ownRound a_phase a_promisers a_learnedRound a_learnedFrom a_learnedValue a_reports a_votes a_pr a_pv a_sm) → wY_choose_252 post (nI p) f_rings f_high f_low a_crashed a_config a_members a_newestCut a_myVote a_promised a_acceptedRound a_acceptedValue a_ownRound a_phase a_promisers a_learnedRound a_learnedFrom a_learnedValue a_reports a_votes a_pr a_pv a_sm (d + 1) v0 0 (nI j) := by
  intro d
  induction d with
  | zero =>
    intro j v0 hj h
    refine br_t (cd_at16 (by omega)) (br_t rfl ⟨cd_vi hp, ?_⟩)
    rw [cd_cl hp]
    rcases h with ⟨_, hN1, hN2⟩ | ⟨q, h, _⟩
    · exact br_c (fun z => hN1 z v0) (fun z => ⟨cd_vi hp, nm_e (hN2 z)⟩)
    · exact absurd h (by unfold cd_lo; simp)
  | succ d ih =>
    intro j v0 hj h
    have hv := cd_fp_b (pm := a_promisers p) (pr := a_promiserRound) (b := p * 16) (show j < 16 by omega)
    have e0 : cd_lo (cd_fp (a_promisers p) a_promiserRound (p * 16) 16) (d + 1) j = if bt (cd_fp (a_promisers p) a_promiserRound (p * 16) 16) j = true then some j else cd_lo (cd_fp (a_promisers p) a_promiserRound (p * 16) 16) d (j + 1) := rfl
    rw [e0] at h
    refine br_f (cd_ge16 (by omega)) (br_t rfl ⟨cd_vi hp, ?_⟩)
    rw [cd_cl hp, cd_cl16 hp (show j < 16 by omega)]
    refine yw_has (by omega) (fun hb => ?_) (fun hb => ?_)
    · rw [if_neg (fun z => by rw [hv, hb] at z; exact absurd z.1 (by decide))] at h
      exact br_t rfl (nm_r (nI_1 j) (ih (j + 1) v0 (by omega) h))
    · obtain ⟨e1, e2⟩ := Q p j hp (by omega) hb
      refine br_f (by decide) ⟨cd_vi16 hp (by omega), ?_⟩
      rw [e1]
      by_cases z : a_promiserRound (p * 16 + j) = 0
      · rw [if_pos (hv.mpr ⟨hb, z⟩)] at h
        rcases h with h | ⟨q, h, hh⟩
        · exact absurd h.1 (by simp)
        · cases h
          refine br_t z ⟨cd_vi16 hp (by omega), nm_r e2 (nm_r (nI_1 j) ?_)⟩
          exact yr_c3i hh d (j + 1) (by omega)
      · rw [if_neg (fun w => z (hv.mp w).2)] at h
        exact br_f z (nm_r (nI_1 j) (ih (j + 1) v0 (by omega) h))
theorem yr_c2i {post : SY → Prop} {x t v : Int32} (h : wY_choose_341 post x v 1 f_rings f_high f_low a_crashed a_config a_members a_newestCut a_myVote a_promised a_acceptedRound a_acceptedValue a_ownRound a_phase a_promisers a_learnedRound a_learnedFrom a_learnedValue a_reports a_votes a_pr a_pv a_sm) : ∀ d j, j + d = 16 → wY_choose_106 post x t f_rings f_high f_low a_crashed a_config a_members a_newestCut a_myVote a_promised a_acceptedRound a_acceptedValue a_ownRound a_phase a_promisers a_learnedRound a_learnedFrom a_learnedValue a_reports a_votes a_pr a_pv a_sm (d + 1) v 1 (nI j) := by
  intro d
  induction d with
  | zero =>
    intro j hj
    exact br_t (cd_at16 (by omega)) ⟨17, yr_c3i h 16 0 rfl⟩
  | succ d ih =>
    intro j hj
    exact br_f (cd_ge16 (by omega)) (br_f (by decide) (nm_r (nI_1 j) (ih (j + 1) (by omega))))
theorem yr_c2n {post : SY → Prop} {J : Int32 → Int32 → Int32 → Prop} (Q : cy_Q a_promisers a_promiserRound a_promiserValue a_pr a_pv) {p : Nat} (hp : p < 16) {j : Nat} {t v0 w : Int32}
    (h1 : t ≤ nI (cd_sv (cd_fp (a_promisers p) a_promiserRound (p * 16) 16) a_promiserValue (p * 16) w 16) → J w 1 (nI (j + 1)))
    (h2 : ¬ t ≤ nI (cd_sv (cd_fp (a_promisers p) a_promiserRound (p * 16) 16) a_promiserValue (p * 16) w 16) → J v0 0 (nI (j + 1))) :
    ∀ d i, i + d = 16 → wY_choose_168 post J (nI p) t v0 0 (nI j) w f_rings f_high f_low a_crashed a_config a_members a_newestCut a_myVote a_promised a_acceptedRound a_acceptedValue a_ownRound a_phase a_promisers a_learnedRound a_learnedFrom a_learnedValue a_reports a_votes a_pr a_pv a_sm (d + 1) (nI (cd_sv (cd_fp (a_promisers p) a_promiserRound (p * 16) 16) a_promiserValue (p * 16) w i)) (nI i) := by
  intro d
  induction d with
  | zero =>
    intro i hi
    have e : i = 16 := by omega
    subst e
    exact br_t (cd_at16 rfl) (br_c (fun z => nm_r (nI_1 j) (h2 (Int32.not_le.mpr z))) (fun z => nm_r (nI_1 j) (h1 (Int32.not_lt.mp z))))
  | succ d ih =>
    intro i hi
    have ih := ih (i + 1) (by omega)
    have hv := cd_fp_b (pm := a_promisers p) (pr := a_promiserRound) (b := p * 16) (show i < 16 by omega)
    rw [cd_svS] at ih
    refine br_f (cd_ge16 (by omega)) ⟨cd_vi hp, ?_⟩
    rw [cd_cl hp, cd_cl16 hp (show i < 16 by omega)]
    refine yw_has (by omega) (fun hb => ?_) (fun hb => ?_)
    · rw [if_neg (fun z => by rw [hv, hb] at z; exact absurd z.1.1 (by decide))] at ih
      exact br_t rfl (nm_r (nI_1 i) ih)
    · obtain ⟨e1, e2⟩ := Q p i hp (by omega) hb
      refine br_f (by decide) ⟨cd_vi16 hp (by omega), ?_⟩
      rw [e1, e2]
      by_cases z : a_promiserRound (p * 16 + i) = 0
      · refine br_t z ⟨cd_vi16 hp (by omega), ?_⟩
        by_cases z2 : a_promiserValue (p * 16 + i) = w
        · rw [if_pos ⟨hv.mpr ⟨hb, z⟩, z2⟩] at ih
          exact br_t z2 (nm_r (nI_1 _) (nm_r (nI_1 i) ih))
        · rw [if_neg (fun y => z2 y.2)] at ih
          exact br_f z2 (nm_r (nI_1 i) ih)
      · rw [if_neg (fun y => z (hv.mp y.1).2)] at ih
        exact br_f z (nm_r (nI_1 i) ih)
theorem yr_c2 {post : SY → Prop} (Q : cy_Q a_promisers a_promiserRound a_promiserValue a_pr a_pv) {p : Nat} (hp : p < 16) {t : Int32} :
    ∀ d j v0, j + d = 16 → ((cd_pd (cd_fp (a_promisers p) a_promiserRound (p * 16) 16) a_promiserValue (p * 16) t d j = none ∧ ∃ n, wY_choose_252 post (nI p) f_rings f_high f_low a_crashed a_config a_members a_newestCut a_myVote a_promised a_acceptedRound a_acceptedValue a_ownRound a_phase a_promisers a_learnedRound a_learnedFrom a_learnedValue a_reports a_votes a_pr a_pv a_sm n v0 0 0) ∨ ∃ q, cd_pd (cd_fp (a_promisers p) a_promiserRound (p * 16) 16) a_promiserValue (p * 16) t d j = some q ∧ wY_choose_341 post (nI p) (a_promiserValue (p * 16 + q)) 1 f_rings f_high f_low a_crashed a_config a_members a_newestCut a_myVote a_promised a_acceptedRound a_acceptedValue a_ownRound a_phase a_promisers a_learnedRound a_learnedFrom a_learnedValue a_reports a_votes a_pr a_pv a_sm) → wY_choose_106 post (nI p) t f_rings f_high f_low a_crashed a_config a_members a_newestCut a_myVote a_promised a_acceptedRound a_acceptedValue a_ownRound a_phase a_promisers a_learnedRound a_learnedFrom a_learnedValue a_reports a_votes a_pr a_pv a_sm (d + 1) v0 0 (nI j) := by
  intro d
  induction d with
  | zero =>
    intro j v0 hj h
    rcases h with h | ⟨q, h, _⟩
    · exact br_t (cd_at16 (by omega)) h.2
    · exact absurd h (by unfold cd_pd; simp)
  | succ d ih =>
    intro j v0 hj h
    have hv := cd_fp_b (pm := a_promisers p) (pr := a_promiserRound) (b := p * 16) (show j < 16 by omega)
    have e0 : cd_pd (cd_fp (a_promisers p) a_promiserRound (p * 16) 16) a_promiserValue (p * 16) t (d + 1) j = if bt (cd_fp (a_promisers p) a_promiserRound (p * 16) 16) j = true ∧ t ≤ nI (cd_sv (cd_fp (a_promisers p) a_promiserRound (p * 16) 16) a_promiserValue (p * 16) (a_promiserValue (p * 16 + j)) 16) then some j else cd_pd (cd_fp (a_promisers p) a_promiserRound (p * 16) 16) a_promiserValue (p * 16) t d (j + 1) := rfl
    rw [e0] at h
    refine br_f (cd_ge16 (by omega)) (br_t rfl ⟨cd_vi hp, ?_⟩)
    rw [cd_cl hp, cd_cl16 hp (show j < 16 by omega)]
    refine yw_has (by omega) (fun hb => ?_) (fun hb => ?_)
    · rw [if_neg (fun z => by rw [hv, hb] at z; exact absurd z.1.1 (by decide))] at h
      exact br_t rfl (nm_r (nI_1 j) (ih (j + 1) v0 (by omega) h))
    · obtain ⟨e1, e2⟩ := Q p j hp (by omega) hb
      refine br_f (by decide) ⟨cd_vi16 hp (by omega), ?_⟩
      rw [e1]
      by_cases z : a_promiserRound (p * 16 + j) = 0
      · refine br_t z ⟨cd_vi16 hp (by omega), nm_r e2 ⟨17, ?_⟩⟩
        refine yr_c2n Q hp (fun g => ?_) (fun g => ?_) 16 0 rfl
        · rw [if_pos ⟨hv.mpr ⟨hb, z⟩, g⟩] at h
          rcases h with h | ⟨q, h, hh⟩
          · exact absurd h.1 (by simp)
          · cases h
            exact yr_c2i hh d (j + 1) (by omega)
        · rw [if_neg (fun w => g w.2)] at h
          exact ih (j + 1) v0 (by omega) h
      · rw [if_neg (fun w => z (hv.mp w.1).2)] at h
        exact br_f z (nm_r (nI_1 j) (ih (j + 1) v0 (by omega) h))
theorem cd_15 (x : Int32) : (15 : Int32) < x ↔ ¬ x < 16 := by
  rw [Int32.not_lt, Int32.lt_iff_toInt_lt, Int32.le_iff_toInt_le]
  have h1 : (15 : Int32).toInt = 15 := by decide
  have h2 : (16 : Int32).toInt = 16 := by decide
  rw [h1, h2]
  omega
theorem yr_c1 {post : SY → Prop} (Q : cy_Q a_promisers a_promiserRound a_promiserValue a_pr a_pv) {p : Nat} (hp : p < 16) {t : Int32}
    (h : ((cd_nc (a_promisers p) a_promiserRound (p * 16) 16).1 = none ∧ ∃ n, wY_choose_106 post (nI p) t f_rings f_high f_low a_crashed a_config a_members a_newestCut a_myVote a_promised a_acceptedRound a_acceptedValue a_ownRound a_phase a_promisers a_learnedRound a_learnedFrom a_learnedValue a_reports a_votes a_pr a_pv a_sm n 0 0 0) ∨ ∃ q, (cd_nc (a_promisers p) a_promiserRound (p * 16) 16).1 = some q ∧ wY_choose_341 post (nI p) (a_promiserValue (p * 16 + q)) 1 f_rings f_high f_low a_crashed a_config a_members a_newestCut a_myVote a_promised a_acceptedRound a_acceptedValue a_ownRound a_phase a_promisers a_learnedRound a_learnedFrom a_learnedValue a_reports a_votes a_pr a_pv a_sm) :
    ∀ d j v e b, j + d = 16 → (cd_nc (a_promisers p) a_promiserRound (p * 16) j = (none, 15) ∧ v = 0 ∧ e = 0 ∧ b = -1) ∨ (∃ q, cd_nc (a_promisers p) a_promiserRound (p * 16) j = (some q, b) ∧ ¬ b < 16 ∧ e = 1 ∧ v = a_promiserValue (p * 16 + q)) → wY_choose_11 post (nI p) t f_rings f_high f_low a_crashed a_config a_members a_newestCut a_myVote a_promised a_acceptedRound a_acceptedValue a_ownRound a_phase a_promisers a_learnedRound a_learnedFrom a_learnedValue a_reports a_votes a_pr a_pv a_sm (d + 1) v e b (nI j) := by
  intro d
  induction d with
  | zero =>
    intro j v e b hj I
    have e2 : j = 16 := by omega
    subst e2
    refine br_t (cd_at16 rfl) ?_
    rcases I with ⟨I, rfl, rfl, _⟩ | ⟨q, I, _, rfl, rfl⟩
    · rcases h with h | ⟨q, h, _⟩
      · exact h.2
      · rw [I] at h; exact absurd h (by simp)
    · rcases h with h | ⟨q2, h, hh⟩
      · rw [I] at h; exact absurd h.1 (by simp)
      · rw [I] at h
        cases h
        exact ⟨17, yr_c2i hh 16 0 rfl⟩
  | succ d ih =>
    intro j v e b hj I
    have ih := ih (j + 1)
    have e0 : cd_nc (a_promisers p) a_promiserRound (p * 16) (j + 1) = if bt (a_promisers p) j = true ∧ (cd_nc (a_promisers p) a_promiserRound (p * 16) j).2 < a_promiserRound (p * 16 + j) then (some j, a_promiserRound (p * 16 + j)) else cd_nc (a_promisers p) a_promiserRound (p * 16) j := rfl
    refine br_f (cd_ge16 (by omega)) ⟨cd_vi hp, ?_⟩
    rw [cd_cl hp, cd_cl16 hp (show j < 16 by omega)]
    refine yw_has (by omega) (fun hb => ?_) (fun hb => ?_)
    · rw [if_neg (fun z => by rw [hb] at z; exact absurd z.1 (by decide))] at e0
      rw [← e0] at I
      exact br_t rfl (nm_r (nI_1 j) (ih v e b (by omega) I))
    · obtain ⟨e1, e2⟩ := Q p j hp (by omega) hb
      refine br_f (by decide) ⟨cd_vi16 hp (by omega), ?_⟩
      rw [e1]
      by_cases z : a_promiserRound (p * 16 + j) < 16
      · have nn : ¬ (cd_nc (a_promisers p) a_promiserRound (p * 16) j).2 < a_promiserRound (p * 16 + j) := by
          rcases I with ⟨I, _⟩ | ⟨q, I, hb16, _⟩
          · rw [I]; exact fun w => (cd_15 _).mp w z
          · rw [I]; exact fun w => hb16 (Int32.lt_trans w z)
        rw [if_neg (fun w => nn w.2)] at e0
        rw [← e0] at I
        exact br_t z (nm_r (nI_1 j) (ih v e b (by omega) I))
      · refine br_f z ⟨cd_vi16 hp (by omega), ?_⟩
        by_cases z2 : a_promiserRound (p * 16 + j) ≤ b
        · rcases I with ⟨I, rfl, rfl, rfl⟩ | I
          · exfalso
            exact z (Int32.lt_of_le_of_lt z2 (by decide))
          · have nn : ¬ (cd_nc (a_promisers p) a_promiserRound (p * 16) j).2 < a_promiserRound (p * 16 + j) := by
              obtain ⟨q, I, _⟩ := I
              rw [I]; exact Int32.not_lt.mpr z2
            rw [if_neg (fun w => nn w.2)] at e0
            rw [← e0] at I
            exact br_t z2 (nm_r (nI_1 j) (ih v e b (by omega) (Or.inr I)))
        · have yy : (cd_nc (a_promisers p) a_promiserRound (p * 16) j).2 < a_promiserRound (p * 16 + j) := by
            rcases I with ⟨I, _⟩ | ⟨q, I, _⟩
            · rw [I]; exact (cd_15 _).mpr z
            · rw [I]; exact Int32.not_le.mp z2
          rw [if_pos ⟨hb, yy⟩] at e0
          exact br_f z2 ⟨cd_vi16 hp (by omega), nm_e ⟨cd_vi16 hp (by omega), nm_r e2 (nm_r (nI_1 j) (ih _ 1 _ (by omega) (Or.inr ⟨j, e0, z, rfl, rfl⟩)))⟩⟩
theorem yr_choose {post : SY → Prop} {v : SY} (R : cy_R (f_rings, f_high, f_low, a_crashed, a_config, a_members, a_newestCut, a_reports, a_votes, a_myVote, a_promised, a_acceptedRound, a_acceptedValue, a_ownRound, a_phase, a_promisers, a_promiserRound, a_promiserValue, a_learnedRound, a_learnedFrom, a_learnedValue, a_slots) v) {p : Nat} (hp : p < 16) (h : ∀ v', cy_R (cx_choose (f_rings, f_high, f_low, a_crashed, a_config, a_members, a_newestCut, a_reports, a_votes, a_myVote, a_promised, a_acceptedRound, a_acceptedValue, a_ownRound, a_phase, a_promisers, a_promiserRound, a_promiserValue, a_learnedRound, a_learnedFrom, a_learnedValue, a_slots) p) v' → post v') : wpY_choose post v (nI p) (cd_en (cd_ct (a_members p))) := by
  obtain ⟨a_pr, a_pv, a_sm, rfl, hK, Q, S⟩ := R
  refine ⟨17, yr_c1 Q hp ?_ 16 0 0 0 (-1) rfl (Or.inl ⟨rfl, rfl, rfl, rfl⟩)⟩
  have hS : ∀ q, cd_ch (a_promisers p) (a_members p) a_promiserRound a_promiserValue (p * 16) = some q → wY_choose_341 post (nI p) (a_promiserValue (p * 16 + q)) 1 f_rings f_high f_low a_crashed a_config a_members a_newestCut a_myVote a_promised a_acceptedRound a_acceptedValue a_ownRound a_phase a_promisers a_learnedRound a_learnedFrom a_learnedValue a_reports a_votes a_pr a_pv a_sm := by
    intro q e
    unfold cx_choose at h
    dsimp only at h
    rw [e] at h
    exact yr_f1 hK Q S hp h
  have hN1 : cd_ch (a_promisers p) (a_members p) a_promiserRound a_promiserValue (p * 16) = none → a_myVote p = -1 → ∀ v0, wY_choose_341 post (nI p) v0 0 f_rings f_high f_low a_crashed a_config a_members a_newestCut a_myVote a_promised a_acceptedRound a_acceptedValue a_ownRound a_phase a_promisers a_learnedRound a_learnedFrom a_learnedValue a_reports a_votes a_pr a_pv a_sm := by
    intro e z v0
    unfold cx_choose at h
    dsimp only at h
    rw [e] at h
    dsimp only at h
    rw [if_pos z] at h
    exact yr_f0 hp (h _ ⟨a_pr, a_pv, a_sm, rfl, hK, Q, S⟩)
  have hN2 : cd_ch (a_promisers p) (a_members p) a_promiserRound a_promiserValue (p * 16) = none → ¬ a_myVote p = -1 → wY_choose_341 post (nI p) (a_myVote p) 1 f_rings f_high f_low a_crashed a_config a_members a_newestCut a_myVote a_promised a_acceptedRound a_acceptedValue a_ownRound a_phase a_promisers a_learnedRound a_learnedFrom a_learnedValue a_reports a_votes a_pr a_pv a_sm := by
    intro e z
    unfold cx_choose at h
    dsimp only at h
    rw [e] at h
    dsimp only at h
    rw [if_neg z] at h
    exact yr_f1 hK Q S hp h
  clear h
  unfold cd_ch at hS hN1 hN2
  cases e1 : (cd_nc (a_promisers p) a_promiserRound (p * 16) 16).1 with
  | some q =>
    rw [e1] at hS
    exact Or.inr ⟨q, rfl, hS q rfl⟩
  | none =>
    rw [e1] at hS hN1 hN2
    dsimp only at hS hN1 hN2
    refine Or.inl ⟨rfl, 17, yr_c2 Q hp 16 0 0 rfl ?_⟩
    cases e2 : cd_pd (cd_fp (a_promisers p) a_promiserRound (p * 16) 16) a_promiserValue (p * 16) (cd_en (cd_ct (a_members p))) 16 0 with
    | some q =>
      rw [e2] at hS
      exact Or.inr ⟨q, rfl, hS q rfl⟩
    | none =>
      rw [e2] at hS hN1 hN2
      dsimp only at hS hN1 hN2
      refine Or.inl ⟨rfl, 17, ?_⟩
      cases e3 : cd_lo (cd_fp (a_promisers p) a_promiserRound (p * 16) 16) 16 0 with
      | none => exact yr_c3 Q hp 16 0 0 rfl (Or.inl ⟨e3, hN1 e3, hN2 e3⟩)
      | some q => exact yr_c3 Q hp 16 0 0 rfl (Or.inr ⟨q, e3, hS q e3⟩)
end CD10
end
section
section CD11
variable {f_rings f_high f_low : Int32} {a_crashed a_config a_members a_newestCut a_reports a_votes a_myVote a_promised a_acceptedRound a_acceptedValue a_ownRound a_phase a_promisers a_promiserRound a_promiserValue a_learnedRound a_learnedFrom a_learnedValue a_slots a_pr a_pv a_sm : Nat → Int32}
theorem cy_Q_add {pm pr pv pr' pv' : Nat → Int32} (Q : cy_Q pm pr pv pr' pv') {p q : Nat} (hq : q < 16) {y z : Int32} : cy_Q (upd pm p (pm p ||| (1 <<< (nI q &&& 31)))) (upd pr (p * 16 + q) y) (upd pv (p * 16 + q) z) (upd pr' (p * 16 + q) y) (upd pv' (p * 16 + q) z) := by
  intro a b ha hb hbt
  by_cases e : a * 16 + b = p * 16 + q
  · rw [e, pk_us, pk_us, pk_us, pk_us]
    exact ⟨rfl, rfl⟩
  · rw [pk_un e, pk_un e, pk_un e, pk_un e]
    by_cases e2 : a = p
    · subst e2
      rw [pk_us, b_or, cd_shl1 q (by omega) (by omega), decide_eq_false (by omega), Bool.or_false] at hbt
      exact Q a b ha hb hbt
    · rw [pk_un e2] at hbt
      exact Q a b ha hb hbt
theorem yr_prom {post : SY → Prop} {v : SY} (R : cy_R (f_rings, f_high, f_low, a_crashed, a_config, a_members, a_newestCut, a_reports, a_votes, a_myVote, a_promised, a_acceptedRound, a_acceptedValue, a_ownRound, a_phase, a_promisers, a_promiserRound, a_promiserValue, a_learnedRound, a_learnedFrom, a_learnedValue, a_slots) v) {p q : Nat} (hp : p < 16) (hq : q < 16) {x y z : Int32} (h : ∀ v', cy_R (cx_prom (f_rings, f_high, f_low, a_crashed, a_config, a_members, a_newestCut, a_reports, a_votes, a_myVote, a_promised, a_acceptedRound, a_acceptedValue, a_ownRound, a_phase, a_promisers, a_promiserRound, a_promiserValue, a_learnedRound, a_learnedFrom, a_learnedValue, a_slots) p q x y z) v' → post v') : wpY_onPromise post v (nI p) (nI q) x y z (cd_cq (cd_ct (a_members p))) (cd_en (cd_ct (a_members p))) := by
  obtain ⟨a_pr, a_pv, a_sm, rfl, hK, Q, S⟩ := R
  unfold wpY_onPromise
  dsimp only
  rw [cd_cl hp, cd_cl16 hp hq]
  refine ⟨cd_vi hp, ?_⟩
  unfold cx_prom at h
  dsimp only at h
  by_cases c1 : a_phase p = 1
  · refine br_t c1 ⟨cd_vi hp, ?_⟩
    by_cases c2 : x = a_ownRound p
    · refine br_t c2 ⟨cd_vi hp, yw_has (by omega) (fun hb => ?_) (fun hb => ?_)⟩
      · rw [if_pos ⟨c1, c2, hb⟩] at h
        refine br_t rfl ⟨cd_vi hp, cd_vi hp, nm_e ⟨cd_vi16 hp hq, nm_e ⟨cd_vi16 hp hq, nm_e ⟨cd_vi hp, ?_⟩⟩⟩⟩
        rw [pk_us]
        refine yw_ct ?_
        by_cases c3 : cd_ct (a_promisers p ||| (1 <<< (nI q &&& 31))) = cd_cq (cd_ct (a_members p))
        · rw [if_pos c3] at h
          exact br_t c3 (yr_choose ⟨_, _, a_sm, rfl, hK, cy_Q_add Q hq, S⟩ hp (fun v' R' => cy_eta (h v' R')))
        · rw [if_neg c3] at h
          exact br_f c3 (h _ ⟨_, _, a_sm, rfl, hK, cy_Q_add Q hq, S⟩)
      · rw [if_neg (fun w => by rw [hb] at w; exact absurd w.2.2 (by decide))] at h
        exact br_f (by decide) (h _ ⟨a_pr, a_pv, a_sm, rfl, hK, Q, S⟩)
    · rw [if_neg (fun w => c2 w.2.1)] at h
      exact br_f c2 (h _ ⟨a_pr, a_pv, a_sm, rfl, hK, Q, S⟩)
  · rw [if_neg (fun w => c1 w.1)] at h
    exact br_f c1 (h _ ⟨a_pr, a_pv, a_sm, rfl, hK, Q, S⟩)
end CD11
section CD11b
variable {f_kk f_hh f_ll : Int32} {a_crashed a_cfg a_mem a_lastCut a_myVote a_promised a_accRnd a_accVal a_crnd a_phase a_prom a_lrnd a_lset a_lval a_rep a_vote a_pr a_pv a_sm : Nat → Int32}
theorem yt_292 {post : SY → Prop} {x1 k x3 x5 x6 x10 : Int32} (h6 : ¬ k = 6) (h : post (f_kk, f_hh, f_ll, a_crashed, a_cfg, a_mem, a_lastCut, a_myVote, a_promised, a_accRnd, a_accVal, a_crnd, a_phase, a_prom, a_lrnd, a_lset, a_lval, a_rep, a_vote, a_pr, a_pv, a_sm)) : wY_receive_292 post x1 k x3 x5 x6 x10 f_kk f_hh f_ll a_crashed a_cfg a_mem a_lastCut a_myVote a_promised a_accRnd a_accVal a_crnd a_phase a_prom a_lrnd a_lset a_lval a_rep a_vote a_pr a_pv a_sm := br_f h6 h
theorem yt_234 {post : SY → Prop} {x1 k x3 x5 x6 x10 : Int32} (h5 : ¬ k = 5) (h6 : ¬ k = 6) (h : post (f_kk, f_hh, f_ll, a_crashed, a_cfg, a_mem, a_lastCut, a_myVote, a_promised, a_accRnd, a_accVal, a_crnd, a_phase, a_prom, a_lrnd, a_lset, a_lval, a_rep, a_vote, a_pr, a_pv, a_sm)) : wY_receive_234 post x1 k x3 x5 x6 x10 f_kk f_hh f_ll a_crashed a_cfg a_mem a_lastCut a_myVote a_promised a_accRnd a_accVal a_crnd a_phase a_prom a_lrnd a_lset a_lval a_rep a_vote a_pr a_pv a_sm := br_f h5 (yt_292 h6 h)
theorem yt_207 {post : SY → Prop} {x1 k x3 x5 x6 x7 x8 x9 x10 : Int32} (h4 : ¬ k = 4) (h5 : ¬ k = 5) (h6 : ¬ k = 6) (h : post (f_kk, f_hh, f_ll, a_crashed, a_cfg, a_mem, a_lastCut, a_myVote, a_promised, a_accRnd, a_accVal, a_crnd, a_phase, a_prom, a_lrnd, a_lset, a_lval, a_rep, a_vote, a_pr, a_pv, a_sm)) : wY_receive_207 post x1 k x3 x5 x6 x7 x8 x9 x10 f_kk f_hh f_ll a_crashed a_cfg a_mem a_lastCut a_myVote a_promised a_accRnd a_accVal a_crnd a_phase a_prom a_lrnd a_lset a_lval a_rep a_vote a_pr a_pv a_sm := br_f h4 (yt_234 h5 h6 h)
theorem yt_160 {post : SY → Prop} {x1 k x3 x5 x6 x7 x8 x9 x10 : Int32} (h3 : ¬ k = 3) (h4 : ¬ k = 4) (h5 : ¬ k = 5) (h6 : ¬ k = 6) (h : post (f_kk, f_hh, f_ll, a_crashed, a_cfg, a_mem, a_lastCut, a_myVote, a_promised, a_accRnd, a_accVal, a_crnd, a_phase, a_prom, a_lrnd, a_lset, a_lval, a_rep, a_vote, a_pr, a_pv, a_sm)) : wY_receive_160 post x1 k x3 x5 x6 x7 x8 x9 x10 f_kk f_hh f_ll a_crashed a_cfg a_mem a_lastCut a_myVote a_promised a_accRnd a_accVal a_crnd a_phase a_prom a_lrnd a_lset a_lval a_rep a_vote a_pr a_pv a_sm := br_f h3 (yt_207 h4 h5 h6 h)
theorem yt_145 {post : SY → Prop} {x1 k x3 x5 x6 x7 x8 x9 x10 : Int32} (h2 : ¬ k = 2) (h3 : ¬ k = 3) (h4 : ¬ k = 4) (h5 : ¬ k = 5) (h6 : ¬ k = 6) (h : post (f_kk, f_hh, f_ll, a_crashed, a_cfg, a_mem, a_lastCut, a_myVote, a_promised, a_accRnd, a_accVal, a_crnd, a_phase, a_prom, a_lrnd, a_lset, a_lval, a_rep, a_vote, a_pr, a_pv, a_sm)) : wY_receive_145 post x1 k x3 x5 x6 x7 x8 x9 x10 f_kk f_hh f_ll a_crashed a_cfg a_mem a_lastCut a_myVote a_promised a_accRnd a_accVal a_crnd a_phase a_prom a_lrnd a_lset a_lval a_rep a_vote a_pr a_pv a_sm := br_f h2 (yt_160 h3 h4 h5 h6 h)
theorem ye_145 {post : SY → Prop} {x1 x3 x5 x6 x7 x8 x9 x10 : Int32} {u : SY} (h : post u) : (match u with | (f_kk, f_hh, f_ll, a_crashed, a_cfg, a_mem, a_lastCut, a_myVote, a_promised, a_accRnd, a_accVal, a_crnd, a_phase, a_prom, a_lrnd, a_lset, a_lval, a_rep, a_vote, a_pr, a_pv, a_sm) => wY_receive_145 post x1 1 x3 x5 x6 x7 x8 x9 x10 f_kk f_hh f_ll a_crashed a_cfg a_mem a_lastCut a_myVote a_promised a_accRnd a_accVal a_crnd a_phase a_prom a_lrnd a_lset a_lval a_rep a_vote a_pr a_pv a_sm) := by
  obtain ⟨f_kk, f_hh, f_ll, a_crashed, a_cfg, a_mem, a_lastCut, a_myVote, a_promised, a_accRnd, a_accVal, a_crnd, a_phase, a_prom, a_lrnd, a_lset, a_lval, a_rep, a_vote, a_pr, a_pv, a_sm⟩ := u
  exact yt_145 (by decide) (by decide) (by decide) (by decide) (by decide) h
theorem ye_160 {post : SY → Prop} {x1 x3 x5 x6 x7 x8 x9 x10 : Int32} {u : SY} (h : post u) : (match u with | (f_kk, f_hh, f_ll, a_crashed, a_cfg, a_mem, a_lastCut, a_myVote, a_promised, a_accRnd, a_accVal, a_crnd, a_phase, a_prom, a_lrnd, a_lset, a_lval, a_rep, a_vote, a_pr, a_pv, a_sm) => wY_receive_160 post x1 2 x3 x5 x6 x7 x8 x9 x10 f_kk f_hh f_ll a_crashed a_cfg a_mem a_lastCut a_myVote a_promised a_accRnd a_accVal a_crnd a_phase a_prom a_lrnd a_lset a_lval a_rep a_vote a_pr a_pv a_sm) := by
  obtain ⟨f_kk, f_hh, f_ll, a_crashed, a_cfg, a_mem, a_lastCut, a_myVote, a_promised, a_accRnd, a_accVal, a_crnd, a_phase, a_prom, a_lrnd, a_lset, a_lval, a_rep, a_vote, a_pr, a_pv, a_sm⟩ := u
  exact yt_160 (by decide) (by decide) (by decide) (by decide) h
theorem ye_207 {post : SY → Prop} {x1 x3 x5 x6 x7 x8 x9 x10 : Int32} {u : SY} (h : post u) : (match u with | (f_kk, f_hh, f_ll, a_crashed, a_cfg, a_mem, a_lastCut, a_myVote, a_promised, a_accRnd, a_accVal, a_crnd, a_phase, a_prom, a_lrnd, a_lset, a_lval, a_rep, a_vote, a_pr, a_pv, a_sm) => wY_receive_207 post x1 3 x3 x5 x6 x7 x8 x9 x10 f_kk f_hh f_ll a_crashed a_cfg a_mem a_lastCut a_myVote a_promised a_accRnd a_accVal a_crnd a_phase a_prom a_lrnd a_lset a_lval a_rep a_vote a_pr a_pv a_sm) := by
  obtain ⟨f_kk, f_hh, f_ll, a_crashed, a_cfg, a_mem, a_lastCut, a_myVote, a_promised, a_accRnd, a_accVal, a_crnd, a_phase, a_prom, a_lrnd, a_lset, a_lval, a_rep, a_vote, a_pr, a_pv, a_sm⟩ := u
  exact yt_207 (by decide) (by decide) (by decide) h
theorem ye_234 {post : SY → Prop} {x1 x3 x5 x6 x10 : Int32} {u : SY} (h : post u) : (match u with | (f_kk, f_hh, f_ll, a_crashed, a_cfg, a_mem, a_lastCut, a_myVote, a_promised, a_accRnd, a_accVal, a_crnd, a_phase, a_prom, a_lrnd, a_lset, a_lval, a_rep, a_vote, a_pr, a_pv, a_sm) => wY_receive_234 post x1 4 x3 x5 x6 x10 f_kk f_hh f_ll a_crashed a_cfg a_mem a_lastCut a_myVote a_promised a_accRnd a_accVal a_crnd a_phase a_prom a_lrnd a_lset a_lval a_rep a_vote a_pr a_pv a_sm) := by
  obtain ⟨f_kk, f_hh, f_ll, a_crashed, a_cfg, a_mem, a_lastCut, a_myVote, a_promised, a_accRnd, a_accVal, a_crnd, a_phase, a_prom, a_lrnd, a_lset, a_lval, a_rep, a_vote, a_pr, a_pv, a_sm⟩ := u
  exact yt_234 (by decide) (by decide) h
theorem ye_292 {post : SY → Prop} {x1 x3 x5 x6 x10 : Int32} {u : SY} (h : post u) : (match u with | (f_kk, f_hh, f_ll, a_crashed, a_cfg, a_mem, a_lastCut, a_myVote, a_promised, a_accRnd, a_accVal, a_crnd, a_phase, a_prom, a_lrnd, a_lset, a_lval, a_rep, a_vote, a_pr, a_pv, a_sm) => wY_receive_292 post x1 5 x3 x5 x6 x10 f_kk f_hh f_ll a_crashed a_cfg a_mem a_lastCut a_myVote a_promised a_accRnd a_accVal a_crnd a_phase a_prom a_lrnd a_lset a_lval a_rep a_vote a_pr a_pv a_sm) := by
  obtain ⟨f_kk, f_hh, f_ll, a_crashed, a_cfg, a_mem, a_lastCut, a_myVote, a_promised, a_accRnd, a_accVal, a_crnd, a_phase, a_prom, a_lrnd, a_lset, a_lval, a_rep, a_vote, a_pr, a_pv, a_sm⟩ := u
  exact yt_292 (by decide) h
end CD11b
section CD11c
variable {f_rings f_high f_low : Int32} {a_crashed a_config a_members a_newestCut a_reports a_votes a_myVote a_promised a_acceptedRound a_acceptedValue a_ownRound a_phase a_promisers a_promiserRound a_promiserValue a_learnedRound a_learnedFrom a_learnedValue a_slots a_pr a_pv a_sm : Nat → Int32}
theorem yr_recv {post : SY → Prop} {v : SY} (R : cy_R (f_rings, f_high, f_low, a_crashed, a_config, a_members, a_newestCut, a_reports, a_votes, a_myVote, a_promised, a_acceptedRound, a_acceptedValue, a_ownRound, a_phase, a_promisers, a_promiserRound, a_promiserValue, a_learnedRound, a_learnedFrom, a_learnedValue, a_slots) v) {p q : Nat} (hp : p < 16) (hq : q < 16) {kind c x y z : Int32} (hx : kind = 1 → ∃ s, s < 16 ∧ x = nI s) (h : ∀ v', cy_R (cx_recv (f_rings, f_high, f_low, a_crashed, a_config, a_members, a_newestCut, a_reports, a_votes, a_myVote, a_promised, a_acceptedRound, a_acceptedValue, a_ownRound, a_phase, a_promisers, a_promiserRound, a_promiserValue, a_learnedRound, a_learnedFrom, a_learnedValue, a_slots) p q kind c x y z) v' → post v') : wpY_receive post v (nI p) kind (nI q) c x y z := by
  have R0 := R
  obtain ⟨a_pr, a_pv, a_sm, rfl, hK, Q, S⟩ := R
  unfold wpY_receive
  dsimp only
  rw [cd_cl hp]
  refine ⟨cd_vi hp, ?_⟩
  unfold cx_recv at h
  dsimp only at h
  by_cases cr : a_crashed p = 0
  rotate_left
  · rw [if_neg cr] at h
    exact br_f cr (h _ R0)
  rw [if_pos cr] at h
  refine br_t cr ?_
  by_cases k7 : kind = 7
  · rw [if_pos k7] at h
    refine br_t k7 ⟨cd_vi hp, ?_⟩
    by_cases g : c ≤ a_config p
    · rw [if_neg (Int32.not_lt.mpr g)] at h
      exact br_t g (h _ R0)
    · rw [if_pos (Int32.not_le.mp g)] at h
      exact br_f g (yr_inst R0 hp (fun v' R' => cy_eta (h v' R')))
  rw [if_neg k7] at h
  refine br_f k7 (yw_stt hp ?_)
  unfold cd_stt
  rw [if_pos cr]
  by_cases hm : bt (a_members p) p = true
  rotate_left
  · rw [if_neg hm] at h ⊢
    exact br_t rfl (h _ R0)
  rw [if_pos hm] at h ⊢
  refine br_f (by decide) ⟨cd_vi hp, ?_⟩
  unfold cx_mem at h
  dsimp only at h
  by_cases c1 : a_config p ≤ c
  rotate_left
  · rw [if_pos (Int32.not_le.mp c1)] at h
    refine br_f c1 ?_
    by_cases e : q = p
    · rw [if_pos e] at h
      exact br_t (by rw [e]) (h _ R0)
    · rw [if_neg e] at h
      exact br_f (fun z => e ((nI_eq (by omega) (by omega)).mp z)) ⟨cd_vi hp, cd_vi hp, yr_send R0 hp (fun z => absurd z (by decide)) (fun v' R' => cy_eta (h v' R'))⟩
  rw [if_neg (Int32.not_lt.mpr c1)] at h
  refine br_t c1 ⟨cd_vi hp, ?_⟩
  by_cases c2 : c ≤ a_config p
  rotate_left
  · rw [if_pos (Int32.not_le.mp c2)] at h
    exact br_f c2 (h _ R0)
  rw [if_neg (Int32.not_lt.mpr c2)] at h
  refine br_t c2 ⟨cd_vi hp, yw_ct ⟨by decide, nm_r (e' := cd_fq (cd_ct (a_members p))) rfl ⟨by decide, nm_r (e' := cd_cq (cd_ct (a_members p))) rfl ?_⟩⟩⟩
  by_cases k1 : kind = 1
  · rw [if_pos k1] at h
    obtain ⟨s, hs, e⟩ := hx k1
    subst e
    rw [cd_cl hs] at h
    subst k1
    exact br_t rfl (yr_alert R0 hp hs (fun v' R' => ye_145 (h v' R')))
  rw [if_neg k1] at h
  refine br_f k1 ?_
  by_cases k2 : kind = 2
  · rw [if_pos k2] at h
    subst k2
    exact br_t rfl (yr_vote R0 hp hq (fun v' R' => ye_160 (h v' R')))
  rw [if_neg k2] at h
  refine br_f k2 ?_
  by_cases k3 : kind = 3
  · rw [if_pos k3] at h
    subst k3
    unfold wY_receive_160
    rw [cd_cl hp]
    refine br_t rfl ⟨cd_vi hp, ?_⟩
    unfold cx_prep at h
    dsimp only at h
    by_cases g : x ≤ a_promised p
    · rw [if_neg (Int32.not_lt.mpr g)] at h
      exact br_t g (yt_207 (by decide) (by decide) (by decide) (h _ R0))
    · rw [if_pos (Int32.not_le.mp g)] at h
      exact br_f g ⟨cd_vi hp, nm_e ⟨cd_vi hp, cd_vi hp, yr_send ⟨a_pr, a_pv, a_sm, rfl, hK, Q, S⟩ hp (fun z => absurd z (by decide)) (fun v' R' => ye_207 (h v' R'))⟩⟩
  rw [if_neg k3] at h
  refine br_f k3 ?_
  by_cases k4 : kind = 4
  · rw [if_pos k4] at h
    subst k4
    exact br_t rfl (yr_prom R0 hp hq (fun v' R' => ye_234 (h v' R')))
  rw [if_neg k4] at h
  refine br_f k4 ?_
  by_cases k5 : kind = 5
  · rw [if_pos k5] at h
    subst k5
    unfold wY_receive_234
    rw [cd_cl hp]
    refine br_t rfl ⟨cd_vi hp, ?_⟩
    unfold cx_acc at h
    dsimp only at h
    by_cases g : x < a_promised p
    · rw [if_neg (Int32.not_le.mpr g)] at h
      exact br_t g (yt_292 (by decide) (h _ R0))
    · rw [if_pos (Int32.not_lt.mp g)] at h
      exact br_f g ⟨cd_vi hp, nm_e ⟨cd_vi hp, nm_e ⟨cd_vi hp, nm_e ⟨cd_vi hp, yr_send ⟨a_pr, a_pv, a_sm, rfl, hK, Q, S⟩ hp (fun z => absurd z (by decide)) (fun v' R' => ye_292 (h v' R'))⟩⟩⟩⟩
  rw [if_neg k5] at h
  refine br_f k5 ?_
  by_cases k6 : kind = 6
  · rw [if_pos k6] at h
    exact br_t k6 (yr_acd R0 hp (fun v' R' => cy_eta (h v' R')))
  · rw [if_neg k6] at h
    exact br_f k6 (h _ R0)
end CD11c
end
section
section CD12
variable {f_rings f_high f_low : Int32} {a_crashed a_config a_members a_newestCut a_reports a_votes a_myVote a_promised a_acceptedRound a_acceptedValue a_ownRound a_phase a_promisers a_promiserRound a_promiserValue a_learnedRound a_learnedFrom a_learnedValue a_slots a_pr a_pv a_sm : Nat → Int32}
/-! the start -/
def cd_row (n : Nat) (v : Int32) : Nat → Int32 := fun j => if j < n then v else 0
theorem cd_row0 (v : Int32) : cd_row 0 v = fun _ => 0 := by
  funext j
  exact if_neg (Nat.not_lt_zero j)
theorem cd_rowS (p : Nat) (v : Int32) : upd (cd_row p v) p v = cd_row (p + 1) v := by
  funext j
  show (if j = p then v else if j < p then v else 0) = (if j < p + 1 then v else 0)
  by_cases e : j = p
  · rw [if_pos e, if_pos (by omega)]
  · rw [if_neg e]
    by_cases l : j < p
    · rw [if_pos l, if_pos (by omega)]
    · rw [if_neg l, if_neg (by omega)]
theorem cd_rowF (p : Nat) (v : Int32) : cd_fill (cd_row (p * 16) v) (p * 16) v 16 = cd_row ((p + 1) * 16) v := by
  funext j
  show (if p * 16 ≤ j ∧ j < p * 16 + 16 then v else if j < p * 16 then v else 0) = (if j < (p + 1) * 16 then v else 0)
  by_cases e : p * 16 ≤ j ∧ j < p * 16 + 16
  · rw [if_pos e, if_pos (by omega)]
  · rw [if_neg e]
    by_cases l : j < p * 16
    · rw [if_pos l, if_pos (by omega)]
    · rw [if_neg l, if_neg (by omega)]
theorem cd_u0 (p : Nat) : upd (fun _ => 0) p 0 = fun _ => 0 := by
  funext j
  show (if j = p then (0 : Int32) else 0) = 0
  split <;> rfl
theorem cd_f0 (b n : Nat) : cd_fill (fun _ => 0) b 0 n = fun _ => 0 := by
  funext j
  show (if b ≤ j ∧ j < b + n then (0 : Int32) else 0) = 0
  split <;> rfl
def cd_clamp (v lo hi : Int32) : Int32 := if lo ≤ v then (if v ≤ hi then v else hi) else lo
theorem cd_clamp_in {v lo hi : Int32} (h : lo ≤ hi) : lo ≤ cd_clamp v lo hi ∧ cd_clamp v lo hi ≤ hi := by
  unfold cd_clamp
  by_cases a : lo ≤ v
  · rw [if_pos a]
    by_cases b : v ≤ hi
    · rw [if_pos b]; exact ⟨a, b⟩
    · rw [if_neg b]; exact ⟨h, Int32.le_refl _⟩
  · rw [if_neg a]; exact ⟨Int32.le_refl _, h⟩
theorem xw_clamp {post : Int32 → Prop} {v lo hi : Int32} (h : post (cd_clamp v lo hi)) : wpX_clamp post v lo hi := by
  unfold cd_clamp at h
  unfold wpX_clamp
  by_cases a : lo ≤ v
  · rw [if_pos a] at h
    refine br_t a ?_
    by_cases b : v ≤ hi
    · rw [if_pos b] at h; exact br_t b h
    · rw [if_neg b] at h; exact br_f b h
  · rw [if_neg a] at h; exact br_f a h
theorem yw_clamp {A B : Int32 → Prop} {v lo hi : Int32} (hB : ∀ w, ((w ≤ hi → A w) ∧ (¬ w ≤ hi → A hi)) → B w) (h : lo ≤ hi) (ha : A (cd_clamp v lo hi)) : (lo ≤ v → B v) ∧ (¬ lo ≤ v → B lo) := by
  unfold cd_clamp at ha
  by_cases a : lo ≤ v
  · rw [if_pos a] at ha
    refine br_t a (hB v ?_)
    by_cases b : v ≤ hi
    · rw [if_pos b] at ha; exact br_t b ha
    · rw [if_neg b] at ha; exact br_f b ha
  · rw [if_neg a] at ha; exact br_f a (hB lo (br_t h ha))
def cx_0 (r h l f : Int32) (p : Nat) : SX := (r, h, l, fun _ => 0, fun _ => 0, cd_row p f, fun _ => 0, fun _ => 0, cd_row (p * 16) (-1), cd_row p (-1), fun _ => 0, cd_row p (-1), fun _ => 0, fun _ => 0, fun _ => 0, fun _ => 0, fun _ => 0, fun _ => 0, fun _ => 0, fun _ => 0, fun _ => 0, fun _ => 0)
def cy_0 (r h l f : Int32) (p : Nat) : SY := (r, h, l, fun _ => 0, fun _ => 0, cd_row p f, fun _ => 0, cd_row p (-1), fun _ => 0, cd_row p (-1), fun _ => 0, fun _ => 0, fun _ => 0, fun _ => 0, fun _ => 0, fun _ => 0, fun _ => 0, fun _ => 0, cd_row (p * 16) (-1), fun _ => 0, fun _ => 0, fun _ => 0)
theorem xw_iniL {post : SX → Prop} {r h l f : Int32} (hh : post (cx_0 r h l f 16)) : ∀ d p, p + d = 16 → wX_init_219 post f (d + 1) (nI p) r h l (fun _ => 0) (fun _ => 0) (cd_row p f) (fun _ => 0) (fun _ => 0) (cd_row (p * 16) (-1)) (cd_row p (-1)) (fun _ => 0) (cd_row p (-1)) (fun _ => 0) (fun _ => 0) (fun _ => 0) (fun _ => 0) (fun _ => 0) (fun _ => 0) (fun _ => 0) (fun _ => 0) (fun _ => 0) (fun _ => 0) := by
  intro d
  induction d with
  | zero =>
    intro p hp
    have e : p = 16 := by omega
    subst e
    exact br_t (cd_at16 rfl) hh
  | succ d ih =>
    intro p hp
    have ih := ih (p + 1) (by omega)
    refine br_f (cd_ge16 (by omega)) (xw_inst (by omega) ?_)
    unfold cx_inst
    dsimp only
    rw [cd_u0, cd_f0, cd_rowS, cd_rowS, cd_rowF]
    exact nm_r (nI_1 p) ih
theorem yw_iniL {post : SY → Prop} {r h l n : Int32} (hh : post (cy_0 r h l ((1 <<< (n &&& 31)) - 1) 16)) : ∀ d p, p + d = 16 → wY_init_244 post n (d + 1) (nI p) r h l (fun _ => 0) (fun _ => 0) (cd_row p ((1 <<< (n &&& 31)) - 1)) (fun _ => 0) (cd_row p (-1)) (fun _ => 0) (cd_row p (-1)) (fun _ => 0) (fun _ => 0) (fun _ => 0) (fun _ => 0) (fun _ => 0) (fun _ => 0) (fun _ => 0) (fun _ => 0) (cd_row (p * 16) (-1)) (fun _ => 0) (fun _ => 0) (fun _ => 0) := by
  intro d
  induction d with
  | zero =>
    intro p hp
    have e : p = 16 := by omega
    subst e
    exact br_t (cd_at16 rfl) hh
  | succ d ih =>
    intro p hp
    have ih := ih (p + 1) (by omega)
    refine br_f (cd_ge16 (by omega)) ⟨cd_vi (by omega), ?_⟩
    rw [cd_cl (show p < 16 by omega)]
    refine nm_r (cd_rowS p _) (yw_reset (by omega) ?_)
    rw [cd_u0, cd_f0, cd_rowS, cd_rowF]
    exact nm_r (nI_1 p) ih
def i_Rel (k : Nat) (u : SX) (v : SY) : Prop := cy_R u v
theorem i_up {k : Nat} {u : SX} {v : SY} (h : i_Rel k u v) : i_Rel (k + 4) u v := h
theorem cy_R0 {r h l f : Int32} (hr : ∃ K, K ≤ 6 ∧ r = nI K) : cy_R (cx_0 r h l f 16) (cy_0 r h l f 16) := by
  refine ⟨fun _ => 0, fun _ => 0, fun _ => 0, rfl, hr, fun p q _ _ hb => ?_, fun i _ => ⟨rfl, fun _ f _ => rfl, fun n => absurd rfl n⟩⟩
  rw [b_0] at hb
  exact absurd hb (by decide)
theorem i_vc0 (k0 : Int32) (k1 : Int32) (k2 : Int32) (k3 : Int32) : wpX_init (fun u => wpY_init (fun v => i_Rel 4 u v) k0 k1 k2 k3) k0 k1 k2 k3 := by
  have c2 := cd_clamp_in (v := k1) (lo := 2) (hi := 6) (by decide)
  have c2' : (1 : Int32) ≤ cd_clamp k1 2 6 := Int32.le_trans (by decide) c2.1
  have c3 := cd_clamp_in (v := k2) c2'
  have hK : ∃ K, K ≤ 6 ∧ cd_clamp k1 2 6 = nI K := nI_of2 (M := 6) (n := 6) (by decide) (Int32.not_lt.mpr (Int32.le_trans (by decide) c2.1)) c2.2
  unfold wpX_init
  refine xw_clamp (xw_clamp (xw_clamp (xw_clamp (nm_e ⟨17, ?_⟩))))
  have L := xw_iniL (post := fun u => wpY_init (fun v => i_Rel 4 u v) k0 k1 k2 k3) (r := cd_clamp k1 2 6) (h := cd_clamp k2 1 (cd_clamp k1 2 6)) (l := cd_clamp k3 1 (cd_clamp k2 1 (cd_clamp k1 2 6))) (f := (1 <<< (cd_clamp k0 3 16 &&& 31)) - 1) ?_ 16 0 rfl
  · rw [Nat.zero_mul, cd_row0, cd_row0] at L
    exact L
  · have M := yw_iniL (post := fun v => i_Rel 4 (cx_0 (cd_clamp k1 2 6) (cd_clamp k2 1 (cd_clamp k1 2 6)) (cd_clamp k3 1 (cd_clamp k2 1 (cd_clamp k1 2 6))) ((1 <<< (cd_clamp k0 3 16 &&& 31)) - 1) 16) v) (n := cd_clamp k0 3 16) (cy_R0 hK) 16 0 rfl
    rw [Nat.zero_mul, cd_row0, cd_row0] at M
    unfold wpY_init
    refine yw_clamp (hi := 16) (A := fun n => wY_init_177 _ n k1 k2 k3 0 0 0 (fun _ => 0) (fun _ => 0) (fun _ => 0) (fun _ => 0) (fun _ => 0) (fun _ => 0) (fun _ => 0) (fun _ => 0) (fun _ => 0) (fun _ => 0) (fun _ => 0) (fun _ => 0) (fun _ => 0) (fun _ => 0) (fun _ => 0) (fun _ => 0) (fun _ => 0) (fun _ => 0) (fun _ => 0)) (fun w h => h) (by decide) ?_
    refine yw_clamp (hi := 6) (A := fun n => wY_init_193 _ (cd_clamp k0 3 16) n k2 k3 0 0 0 (fun _ => 0) (fun _ => 0) (fun _ => 0) (fun _ => 0) (fun _ => 0) (fun _ => 0) (fun _ => 0) (fun _ => 0) (fun _ => 0) (fun _ => 0) (fun _ => 0) (fun _ => 0) (fun _ => 0) (fun _ => 0) (fun _ => 0) (fun _ => 0) (fun _ => 0) (fun _ => 0) (fun _ => 0)) (fun w h => h) (by decide) ?_
    refine yw_clamp (hi := cd_clamp k1 2 6) (A := fun n => wY_init_207 _ (cd_clamp k0 3 16) (cd_clamp k1 2 6) n k3 0 0 0 (fun _ => 0) (fun _ => 0) (fun _ => 0) (fun _ => 0) (fun _ => 0) (fun _ => 0) (fun _ => 0) (fun _ => 0) (fun _ => 0) (fun _ => 0) (fun _ => 0) (fun _ => 0) (fun _ => 0) (fun _ => 0) (fun _ => 0) (fun _ => 0) (fun _ => 0) (fun _ => 0) (fun _ => 0)) (fun w h => h) c2' ?_
    refine yw_clamp (hi := cd_clamp k2 1 (cd_clamp k1 2 6)) (A := fun n => wY_init_225 _ (cd_clamp k0 3 16) (cd_clamp k1 2 6) (cd_clamp k2 1 (cd_clamp k1 2 6)) n 0 0 0 (fun _ => 0) (fun _ => 0) (fun _ => 0) (fun _ => 0) (fun _ => 0) (fun _ => 0) (fun _ => 0) (fun _ => 0) (fun _ => 0) (fun _ => 0) (fun _ => 0) (fun _ => 0) (fun _ => 0) (fun _ => 0) (fun _ => 0) (fun _ => 0) (fun _ => 0) (fun _ => 0) (fun _ => 0)) (fun w h => h) c3.1 ?_
    exact ⟨17, M⟩
end CD12
end
section
section CD13
def cd_bad (x : Int32) : Prop := x < 0 ∨ (¬ x < 0 ∧ (16 : Int32) ≤ x ∧ (15 : Int32) < x ∧ ¬ x ≤ 15)
theorem cd_pb (x : Int32) : cd_bad x ∨ ∃ j, j < 16 ∧ x = nI j := by
  rcases cd_px x with a | a | a
  · exact Or.inl (Or.inl a)
  · exact Or.inl (Or.inr a)
  · exact Or.inr a
theorem yA_no {x : Int32} {A M : Prop} (hx : cd_bad x) (r : A) : (x < 0 → A) ∧ (¬ x < 0 → ((15 < x → A) ∧ (¬ 15 < x → M))) := by
  rcases hx with a | a
  · exact br_t a r
  · exact br_f a.1 (br_t a.2.2.1 r)
theorem yB_no {x : Int32} {A M : Prop} (hx : cd_bad x) (r : A) : (x < 0 → A) ∧ (¬ x < 0 → ((x ≤ 15 → M) ∧ (¬ x ≤ 15 → A))) := by
  rcases hx with a | a
  · exact br_t a r
  · exact br_f a.1 (br_f a.2.2.2 r)
theorem yA_ok {j : Nat} {A M : Prop} (hj : j < 16) (m : M) : (nI j < 0 → A) ∧ (¬ nI j < 0 → ((15 < nI j → A) ∧ (¬ 15 < nI j → M))) := br_f (cd_j0 hj) (br_f (cd_j15 hj) m)
theorem yB_ok {j : Nat} {A M : Prop} (hj : j < 16) (m : M) : (nI j < 0 → A) ∧ (¬ nI j < 0 → ((nI j ≤ 15 → M) ∧ (¬ nI j ≤ 15 → A))) := br_f (cd_j0 hj) (br_t (cd_l15 hj) m)
def cd_sbad (x : Int32) : Prop := x < 0 ∨ (¬ x < 0 ∧ (32 : Int32) ≤ x)
theorem cd_sb (x : Int32) : cd_sbad x ∨ ∃ j, j < 32 ∧ x = nI j := by
  rcases cd_sx x with a | a | a
  · exact Or.inl (Or.inl a)
  · exact Or.inl (Or.inr a)
  · exact Or.inr a
theorem yS_no {x : Int32} {A M : Prop} (hx : cd_sbad x) (r : A) : (x < 0 → A) ∧ (¬ x < 0 → ((32 ≤ x → A) ∧ (¬ 32 ≤ x → M))) := by
  rcases hx with a | a
  · exact br_t a r
  · exact br_f a.1 (br_t a.2 r)
theorem yS_ok {j : Nat} {A M : Prop} (hj : j < 32) (m : M) : (nI j < 0 → A) ∧ (¬ nI j < 0 → ((32 ≤ nI j → A) ∧ (¬ 32 ≤ nI j → M))) := br_f (nI_pos (by omega)) (br_f (nI_ge (b := 32) hj (by decide)) m)
theorem i_vc_configOf {k : Nat} {u : SX} {v : SY} (I : i_Rel k u v) (hk : k + 4 ≤ 2052) (v1 : Int32) : wpX_configOf (fun r => wpY_configOf (fun r' => r' = r ∧ i_Rel (k + 4) u v) v v1) u v1 := by
  obtain ⟨f_rings, f_high, f_low, a_crashed, a_config, a_members, a_newestCut, a_reports, a_votes, a_myVote, a_promised, a_acceptedRound, a_acceptedValue, a_ownRound, a_phase, a_promisers, a_promiserRound, a_promiserValue, a_learnedRound, a_learnedFrom, a_learnedValue, a_slots⟩ := u
  obtain ⟨a_pr, a_pv, a_sm, rfl, hK, Q, S⟩ := I
  have R : cy_R (f_rings, f_high, f_low, a_crashed, a_config, a_members, a_newestCut, a_reports, a_votes, a_myVote, a_promised, a_acceptedRound, a_acceptedValue, a_ownRound, a_phase, a_promisers, a_promiserRound, a_promiserValue, a_learnedRound, a_learnedFrom, a_learnedValue, a_slots) (f_rings, f_high, f_low, a_crashed, a_config, a_members, a_newestCut, a_myVote, a_promised, a_acceptedRound, a_acceptedValue, a_ownRound, a_phase, a_promisers, a_learnedRound, a_learnedFrom, a_learnedValue, a_reports, a_votes, a_pr, a_pv, a_sm) := ⟨a_pr, a_pv, a_sm, rfl, hK, Q, S⟩
  unfold wpX_configOf wpY_configOf
  dsimp only
  rcases cd_pb v1 with b | ⟨j, hj, rfl⟩
  · exact xw_isN b (br_t rfl (yB_no b ⟨rfl, R⟩))
  · exact xw_isP hj (br_f (by decide) ⟨cd_vi hj, yB_ok hj ⟨cd_vi hj, rfl, R⟩⟩)
theorem i_vc_membersOf {k : Nat} {u : SX} {v : SY} (I : i_Rel k u v) (hk : k + 4 ≤ 2052) (v1 : Int32) : wpX_membersOf (fun r => wpY_membersOf (fun r' => r' = r ∧ i_Rel (k + 4) u v) v v1) u v1 := by
  obtain ⟨f_rings, f_high, f_low, a_crashed, a_config, a_members, a_newestCut, a_reports, a_votes, a_myVote, a_promised, a_acceptedRound, a_acceptedValue, a_ownRound, a_phase, a_promisers, a_promiserRound, a_promiserValue, a_learnedRound, a_learnedFrom, a_learnedValue, a_slots⟩ := u
  obtain ⟨a_pr, a_pv, a_sm, rfl, hK, Q, S⟩ := I
  have R : cy_R (f_rings, f_high, f_low, a_crashed, a_config, a_members, a_newestCut, a_reports, a_votes, a_myVote, a_promised, a_acceptedRound, a_acceptedValue, a_ownRound, a_phase, a_promisers, a_promiserRound, a_promiserValue, a_learnedRound, a_learnedFrom, a_learnedValue, a_slots) (f_rings, f_high, f_low, a_crashed, a_config, a_members, a_newestCut, a_myVote, a_promised, a_acceptedRound, a_acceptedValue, a_ownRound, a_phase, a_promisers, a_learnedRound, a_learnedFrom, a_learnedValue, a_reports, a_votes, a_pr, a_pv, a_sm) := ⟨a_pr, a_pv, a_sm, rfl, hK, Q, S⟩
  unfold wpX_membersOf wpY_membersOf
  dsimp only
  rcases cd_pb v1 with b | ⟨j, hj, rfl⟩
  · exact xw_isN b (br_t rfl (yB_no b ⟨rfl, R⟩))
  · exact xw_isP hj (br_f (by decide) ⟨cd_vi hj, yB_ok hj ⟨cd_vi hj, rfl, R⟩⟩)
theorem i_vc_lastCut {k : Nat} {u : SX} {v : SY} (I : i_Rel k u v) (hk : k + 4 ≤ 2052) (v1 : Int32) : wpX_lastCut (fun r => wpY_lastCut (fun r' => r' = r ∧ i_Rel (k + 4) u v) v v1) u v1 := by
  obtain ⟨f_rings, f_high, f_low, a_crashed, a_config, a_members, a_newestCut, a_reports, a_votes, a_myVote, a_promised, a_acceptedRound, a_acceptedValue, a_ownRound, a_phase, a_promisers, a_promiserRound, a_promiserValue, a_learnedRound, a_learnedFrom, a_learnedValue, a_slots⟩ := u
  obtain ⟨a_pr, a_pv, a_sm, rfl, hK, Q, S⟩ := I
  have R : cy_R (f_rings, f_high, f_low, a_crashed, a_config, a_members, a_newestCut, a_reports, a_votes, a_myVote, a_promised, a_acceptedRound, a_acceptedValue, a_ownRound, a_phase, a_promisers, a_promiserRound, a_promiserValue, a_learnedRound, a_learnedFrom, a_learnedValue, a_slots) (f_rings, f_high, f_low, a_crashed, a_config, a_members, a_newestCut, a_myVote, a_promised, a_acceptedRound, a_acceptedValue, a_ownRound, a_phase, a_promisers, a_learnedRound, a_learnedFrom, a_learnedValue, a_reports, a_votes, a_pr, a_pv, a_sm) := ⟨a_pr, a_pv, a_sm, rfl, hK, Q, S⟩
  unfold wpX_lastCut wpY_lastCut
  dsimp only
  rcases cd_pb v1 with b | ⟨j, hj, rfl⟩
  · exact xw_isN b (br_t rfl (yB_no b ⟨rfl, R⟩))
  · exact xw_isP hj (br_f (by decide) ⟨cd_vi hj, yB_ok hj ⟨cd_vi hj, rfl, R⟩⟩)
theorem i_vc_proposalOf {k : Nat} {u : SX} {v : SY} (I : i_Rel k u v) (hk : k + 4 ≤ 2052) (v1 : Int32) : wpX_proposalOf (fun r => wpY_proposalOf (fun r' => r' = r ∧ i_Rel (k + 4) u v) v v1) u v1 := by
  obtain ⟨f_rings, f_high, f_low, a_crashed, a_config, a_members, a_newestCut, a_reports, a_votes, a_myVote, a_promised, a_acceptedRound, a_acceptedValue, a_ownRound, a_phase, a_promisers, a_promiserRound, a_promiserValue, a_learnedRound, a_learnedFrom, a_learnedValue, a_slots⟩ := u
  obtain ⟨a_pr, a_pv, a_sm, rfl, hK, Q, S⟩ := I
  have R : cy_R (f_rings, f_high, f_low, a_crashed, a_config, a_members, a_newestCut, a_reports, a_votes, a_myVote, a_promised, a_acceptedRound, a_acceptedValue, a_ownRound, a_phase, a_promisers, a_promiserRound, a_promiserValue, a_learnedRound, a_learnedFrom, a_learnedValue, a_slots) (f_rings, f_high, f_low, a_crashed, a_config, a_members, a_newestCut, a_myVote, a_promised, a_acceptedRound, a_acceptedValue, a_ownRound, a_phase, a_promisers, a_learnedRound, a_learnedFrom, a_learnedValue, a_reports, a_votes, a_pr, a_pv, a_sm) := ⟨a_pr, a_pv, a_sm, rfl, hK, Q, S⟩
  unfold wpX_proposalOf wpY_proposalOf
  dsimp only
  rcases cd_pb v1 with b | ⟨j, hj, rfl⟩
  · exact xw_isN b (br_t rfl (yB_no b ⟨rfl, R⟩))
  · exact xw_isP hj (br_f (by decide) ⟨cd_vi hj, yB_ok hj ⟨cd_vi hj, rfl, R⟩⟩)
theorem i_vc_status {k : Nat} {u : SX} {v : SY} (I : i_Rel k u v) (hk : k + 4 ≤ 2052) (v1 : Int32) : wpX_status (fun r => wpY_status (fun r' => r' = r ∧ i_Rel (k + 4) u v) v v1) u v1 := by
  obtain ⟨f_rings, f_high, f_low, a_crashed, a_config, a_members, a_newestCut, a_reports, a_votes, a_myVote, a_promised, a_acceptedRound, a_acceptedValue, a_ownRound, a_phase, a_promisers, a_promiserRound, a_promiserValue, a_learnedRound, a_learnedFrom, a_learnedValue, a_slots⟩ := u
  obtain ⟨a_pr, a_pv, a_sm, rfl, hK, Q, S⟩ := I
  have R : cy_R (f_rings, f_high, f_low, a_crashed, a_config, a_members, a_newestCut, a_reports, a_votes, a_myVote, a_promised, a_acceptedRound, a_acceptedValue, a_ownRound, a_phase, a_promisers, a_promiserRound, a_promiserValue, a_learnedRound, a_learnedFrom, a_learnedValue, a_slots) (f_rings, f_high, f_low, a_crashed, a_config, a_members, a_newestCut, a_myVote, a_promised, a_acceptedRound, a_acceptedValue, a_ownRound, a_phase, a_promisers, a_learnedRound, a_learnedFrom, a_learnedValue, a_reports, a_votes, a_pr, a_pv, a_sm) := ⟨a_pr, a_pv, a_sm, rfl, hK, Q, S⟩
  rcases cd_pb v1 with b | ⟨j, hj, rfl⟩
  · unfold wpX_status wpY_status
    exact xw_isN b (br_t rfl (yB_no b ⟨rfl, R⟩))
  · refine xw_stt hj ?_
    unfold wpY_status
    exact yB_ok hj (yw_stt hj ⟨rfl, R⟩)
theorem i_vc_reportCount {k : Nat} {u : SX} {v : SY} (I : i_Rel k u v) (hk : k + 4 ≤ 2052) (v1 : Int32) (v2 : Int32) : wpX_reportCount (fun r => wpY_reportCount (fun r' => r' = r ∧ i_Rel (k + 4) u v) v v1 v2) u v1 v2 := by
  obtain ⟨f_rings, f_high, f_low, a_crashed, a_config, a_members, a_newestCut, a_reports, a_votes, a_myVote, a_promised, a_acceptedRound, a_acceptedValue, a_ownRound, a_phase, a_promisers, a_promiserRound, a_promiserValue, a_learnedRound, a_learnedFrom, a_learnedValue, a_slots⟩ := u
  obtain ⟨a_pr, a_pv, a_sm, rfl, hK, Q, S⟩ := I
  have R : cy_R (f_rings, f_high, f_low, a_crashed, a_config, a_members, a_newestCut, a_reports, a_votes, a_myVote, a_promised, a_acceptedRound, a_acceptedValue, a_ownRound, a_phase, a_promisers, a_promiserRound, a_promiserValue, a_learnedRound, a_learnedFrom, a_learnedValue, a_slots) (f_rings, f_high, f_low, a_crashed, a_config, a_members, a_newestCut, a_myVote, a_promised, a_acceptedRound, a_acceptedValue, a_ownRound, a_phase, a_promisers, a_learnedRound, a_learnedFrom, a_learnedValue, a_reports, a_votes, a_pr, a_pv, a_sm) := ⟨a_pr, a_pv, a_sm, rfl, hK, Q, S⟩
  unfold wpX_reportCount wpY_reportCount
  dsimp only
  rcases cd_pb v1 with b | ⟨j, hj, rfl⟩
  · exact xw_isN b (br_t rfl (yA_no b ⟨rfl, R⟩))
  · rcases cd_pb v2 with b | ⟨i, hi, rfl⟩
    · exact xw_isP hj (br_f (by decide) (xw_isN b (br_t rfl (yA_ok hj (yB_no b ⟨rfl, R⟩)))))
    · exact xw_isP hj (br_f (by decide) (xw_isP hi (br_f (by decide) ⟨cd_vi16 hj hi, xw_ct (yA_ok hj (yB_ok hi ⟨cd_vi16 hj hi, yw_ct ⟨rfl, R⟩⟩))⟩)))
theorem i_vc_voteOf {k : Nat} {u : SX} {v : SY} (I : i_Rel k u v) (hk : k + 4 ≤ 2052) (v1 : Int32) (v2 : Int32) : wpX_voteOf (fun r => wpY_voteOf (fun r' => r' = r ∧ i_Rel (k + 4) u v) v v1 v2) u v1 v2 := by
  obtain ⟨f_rings, f_high, f_low, a_crashed, a_config, a_members, a_newestCut, a_reports, a_votes, a_myVote, a_promised, a_acceptedRound, a_acceptedValue, a_ownRound, a_phase, a_promisers, a_promiserRound, a_promiserValue, a_learnedRound, a_learnedFrom, a_learnedValue, a_slots⟩ := u
  obtain ⟨a_pr, a_pv, a_sm, rfl, hK, Q, S⟩ := I
  have R : cy_R (f_rings, f_high, f_low, a_crashed, a_config, a_members, a_newestCut, a_reports, a_votes, a_myVote, a_promised, a_acceptedRound, a_acceptedValue, a_ownRound, a_phase, a_promisers, a_promiserRound, a_promiserValue, a_learnedRound, a_learnedFrom, a_learnedValue, a_slots) (f_rings, f_high, f_low, a_crashed, a_config, a_members, a_newestCut, a_myVote, a_promised, a_acceptedRound, a_acceptedValue, a_ownRound, a_phase, a_promisers, a_learnedRound, a_learnedFrom, a_learnedValue, a_reports, a_votes, a_pr, a_pv, a_sm) := ⟨a_pr, a_pv, a_sm, rfl, hK, Q, S⟩
  unfold wpX_voteOf wpY_voteOf
  dsimp only
  rcases cd_pb v1 with b | ⟨j, hj, rfl⟩
  · exact xw_isN b (br_t rfl (yA_no b ⟨rfl, R⟩))
  · rcases cd_pb v2 with b | ⟨i, hi, rfl⟩
    · exact xw_isP hj (br_f (by decide) (xw_isN b (br_t rfl (yA_ok hj (yB_no b ⟨rfl, R⟩)))))
    · exact xw_isP hj (br_f (by decide) (xw_isP hi (br_f (by decide) ⟨cd_vi16 hj hi, yA_ok hj (yB_ok hi ⟨cd_vi16 hj hi, rfl, R⟩)⟩)))
theorem i_vc_observer {k : Nat} {u : SX} {v : SY} (I : i_Rel k u v) (hk : k + 4 ≤ 2052) (v1 : Int32) (v2 : Int32) (v3 : Int32) : wpX_observer (fun r => wpY_observer (fun r' => r' = r ∧ i_Rel (k + 4) u v) v v1 v2 v3) u v1 v2 v3 := by
  obtain ⟨f_rings, f_high, f_low, a_crashed, a_config, a_members, a_newestCut, a_reports, a_votes, a_myVote, a_promised, a_acceptedRound, a_acceptedValue, a_ownRound, a_phase, a_promisers, a_promiserRound, a_promiserValue, a_learnedRound, a_learnedFrom, a_learnedValue, a_slots⟩ := u
  obtain ⟨a_pr, a_pv, a_sm, rfl, hK, Q, S⟩ := I
  have R : cy_R (f_rings, f_high, f_low, a_crashed, a_config, a_members, a_newestCut, a_reports, a_votes, a_myVote, a_promised, a_acceptedRound, a_acceptedValue, a_ownRound, a_phase, a_promisers, a_promiserRound, a_promiserValue, a_learnedRound, a_learnedFrom, a_learnedValue, a_slots) (f_rings, f_high, f_low, a_crashed, a_config, a_members, a_newestCut, a_myVote, a_promised, a_acceptedRound, a_acceptedValue, a_ownRound, a_phase, a_promisers, a_learnedRound, a_learnedFrom, a_learnedValue, a_reports, a_votes, a_pr, a_pv, a_sm) := ⟨a_pr, a_pv, a_sm, rfl, hK, Q, S⟩
  unfold wpX_observer wpY_observer
  dsimp only
  rcases cd_pb v1 with b | ⟨j, hj, rfl⟩
  · exact xw_isN b (br_t rfl (yA_no b ⟨rfl, R⟩))
  · rcases cd_pb v2 with b | ⟨i, hi, rfl⟩
    · exact xw_isP hj (br_f (by decide) (xw_isN b (br_t rfl (yA_ok hj (yA_no b ⟨rfl, R⟩)))))
    · refine xw_isP hj (br_f (by decide) (xw_isP hi (br_f (by decide) ?_)))
      by_cases c : v3 < 0
      · exact br_t c (yA_ok hj (yA_ok hi (br_t c ⟨rfl, R⟩)))
      · refine br_f c ?_
        by_cases c2 : v3 < f_rings
        · exact br_t c2 ⟨cd_vi hj, xw_near (yA_ok hj (yA_ok hi (br_f c (br_t c2 ⟨cd_vi hj, yw_obs ⟨rfl, R⟩⟩))))⟩
        · exact br_f c2 (yA_ok hj (yA_ok hi (br_f c (br_f c2 ⟨rfl, R⟩))))
theorem i_vc_crash {k : Nat} {u : SX} {v : SY} (I : i_Rel k u v) (hk : k + 4 ≤ 2052) (v1 : Int32) : wpX_crash (fun r u' => wpY_crash (fun r' v' => r' = r ∧ i_Rel (k + 4) u' v') v v1) u v1 := by
  obtain ⟨f_rings, f_high, f_low, a_crashed, a_config, a_members, a_newestCut, a_reports, a_votes, a_myVote, a_promised, a_acceptedRound, a_acceptedValue, a_ownRound, a_phase, a_promisers, a_promiserRound, a_promiserValue, a_learnedRound, a_learnedFrom, a_learnedValue, a_slots⟩ := u
  obtain ⟨a_pr, a_pv, a_sm, rfl, hK, Q, S⟩ := I
  have R : cy_R (f_rings, f_high, f_low, a_crashed, a_config, a_members, a_newestCut, a_reports, a_votes, a_myVote, a_promised, a_acceptedRound, a_acceptedValue, a_ownRound, a_phase, a_promisers, a_promiserRound, a_promiserValue, a_learnedRound, a_learnedFrom, a_learnedValue, a_slots) (f_rings, f_high, f_low, a_crashed, a_config, a_members, a_newestCut, a_myVote, a_promised, a_acceptedRound, a_acceptedValue, a_ownRound, a_phase, a_promisers, a_learnedRound, a_learnedFrom, a_learnedValue, a_reports, a_votes, a_pr, a_pv, a_sm) := ⟨a_pr, a_pv, a_sm, rfl, hK, Q, S⟩
  unfold wpX_crash wpY_crash
  dsimp only
  rcases cd_pb v1 with b | ⟨j, hj, rfl⟩
  · exact xw_isN b (br_t rfl (yA_no b ⟨rfl, R⟩))
  · refine xw_isP hj (br_f (by decide) ⟨cd_vi hj, ?_⟩)
    rw [cd_cl hj]
    by_cases c : a_crashed j = 0
    · exact br_t c ⟨cd_vi hj, nm_e (yA_ok hj ⟨cd_vi hj, br_t c ⟨cd_vi hj, nm_e ⟨rfl, ⟨a_pr, a_pv, a_sm, rfl, hK, Q, S⟩⟩⟩⟩)⟩
    · exact br_f c (yA_ok hj ⟨cd_vi hj, br_f c ⟨rfl, R⟩⟩)
theorem i_vc_msg {k : Nat} {u : SX} {v : SY} (I : i_Rel k u v) (hk : k + 4 ≤ 2052) (v1 : Int32) (v2 : Int32) : wpX_msg (fun r => wpY_msg (fun r' => r' = r ∧ i_Rel (k + 4) u v) v v1 v2) u v1 v2 := by
  obtain ⟨f_rings, f_high, f_low, a_crashed, a_config, a_members, a_newestCut, a_reports, a_votes, a_myVote, a_promised, a_acceptedRound, a_acceptedValue, a_ownRound, a_phase, a_promisers, a_promiserRound, a_promiserValue, a_learnedRound, a_learnedFrom, a_learnedValue, a_slots⟩ := u
  obtain ⟨a_pr, a_pv, a_sm, rfl, hK, Q, S⟩ := I
  have R : cy_R (f_rings, f_high, f_low, a_crashed, a_config, a_members, a_newestCut, a_reports, a_votes, a_myVote, a_promised, a_acceptedRound, a_acceptedValue, a_ownRound, a_phase, a_promisers, a_promiserRound, a_promiserValue, a_learnedRound, a_learnedFrom, a_learnedValue, a_slots) (f_rings, f_high, f_low, a_crashed, a_config, a_members, a_newestCut, a_myVote, a_promised, a_acceptedRound, a_acceptedValue, a_ownRound, a_phase, a_promisers, a_learnedRound, a_learnedFrom, a_learnedValue, a_reports, a_votes, a_pr, a_pv, a_sm) := ⟨a_pr, a_pv, a_sm, rfl, hK, Q, S⟩
  unfold wpX_msg wpY_msg
  dsimp only
  rcases cd_sb v1 with b | ⟨i, hi, rfl⟩
  · exact yS_no b (yS_no b ⟨rfl, R⟩)
  · refine yS_ok hi ?_
    rcases pk_ix v2 (n := 7) (by decide) with c | c | ⟨f, hf, rfl⟩
    · exact br_t c (yS_ok hi (br_t c ⟨rfl, R⟩))
    · have c7 : (7 : Int32) ≤ v2 := c
      have c0 : ¬ v2 < 0 := fun z => absurd (Int32.lt_of_le_of_lt c7 z) (by decide)
      have c6 : ¬ v2 ≤ 6 := fun z => absurd (Int32.le_trans c7 z) (by decide)
      exact br_f c0 (br_f (Int32.not_lt.mpr c7) (yS_ok hi (br_f c0 (br_f c6 ⟨rfl, R⟩))))
    · obtain ⟨h1, h2, h3⟩ := S i hi
      have c0 : ¬ nI f < 0 := nI_pos (by omega)
      have c7 : nI f < (7 : Int32) := nI_lt (b := 7) hf (by decide)
      have c6 : nI f ≤ (6 : Int32) := nI_le (b := 6) (by omega) (by decide)
      rw [cd_i7k, cd_i76, cd_c7 hi hf, cd_c7 hi (show 6 < 7 by omega), h1]
      refine br_f c0 (br_t c7 ⟨cd_v7 hi hf, yS_ok hi (br_f c0 (br_t c6 ⟨cd_v7 hi (by omega), ?_⟩))⟩)
      by_cases z : a_slots (i * 7 + 6) = 0
      · exact br_t z ⟨(h2 z f hf).symm, R⟩
      · exact br_f z ⟨cd_v7 hi hf, (h3 z).1 f hf, R⟩
end CD13
end
section
section CD14
theorem xw_awtN {post : Int32 → Prop} {u : SX} {a b : Int32} (h : cd_sbad a ∨ ((∃ i, i < 32 ∧ a = nI i) ∧ cd_bad b)) (h0 : post 0) : wpX_awaits post u a b := by
  obtain ⟨f_rings, f_high, f_low, a_crashed, a_config, a_members, a_newestCut, a_reports, a_votes, a_myVote, a_promised, a_acceptedRound, a_acceptedValue, a_ownRound, a_phase, a_promisers, a_promiserRound, a_promiserValue, a_learnedRound, a_learnedFrom, a_learnedValue, a_slots⟩ := u
  unfold wpX_awaits
  rcases h with h | ⟨⟨i, hi, rfl⟩, h⟩
  · exact yS_no h h0
  · exact yS_ok hi (xw_isN h (br_t rfl h0))
theorem i_vc_drop {k : Nat} {u : SX} {v : SY} (I : i_Rel k u v) (hk : k + 4 ≤ 2052) (v1 : Int32) (v2 : Int32) : wpX_drop (fun r u' => wpY_drop (fun r' v' => r' = r ∧ i_Rel (k + 4) u' v') v v1 v2) u v1 v2 := by
  obtain ⟨f_rings, f_high, f_low, a_crashed, a_config, a_members, a_newestCut, a_reports, a_votes, a_myVote, a_promised, a_acceptedRound, a_acceptedValue, a_ownRound, a_phase, a_promisers, a_promiserRound, a_promiserValue, a_learnedRound, a_learnedFrom, a_learnedValue, a_slots⟩ := u
  obtain ⟨a_pr, a_pv, a_sm, rfl, hK, Q, S⟩ := I
  have R : cy_R (f_rings, f_high, f_low, a_crashed, a_config, a_members, a_newestCut, a_reports, a_votes, a_myVote, a_promised, a_acceptedRound, a_acceptedValue, a_ownRound, a_phase, a_promisers, a_promiserRound, a_promiserValue, a_learnedRound, a_learnedFrom, a_learnedValue, a_slots) (f_rings, f_high, f_low, a_crashed, a_config, a_members, a_newestCut, a_myVote, a_promised, a_acceptedRound, a_acceptedValue, a_ownRound, a_phase, a_promisers, a_learnedRound, a_learnedFrom, a_learnedValue, a_reports, a_votes, a_pr, a_pv, a_sm) := ⟨a_pr, a_pv, a_sm, rfl, hK, Q, S⟩
  unfold wpX_drop
  dsimp only
  rcases cd_sb v1 with b | ⟨i, hi, rfl⟩
  · refine xw_awtN (Or.inl b) (br_t rfl ?_)
    unfold wpY_drop
    exact yS_no b ⟨rfl, R⟩
  · rcases cd_pb v2 with b | ⟨p, hp, rfl⟩
    · refine xw_awtN (Or.inr ⟨⟨i, hi, rfl⟩, b⟩) (br_t rfl ?_)
      unfold wpY_drop
      exact yS_ok hi (yB_no b ⟨rfl, R⟩)
    · obtain ⟨h1, h2, h3⟩ := S i hi
      refine xw_awt hi hp (fun hb => br_t rfl ?_) (fun hb => br_f (by decide) (xw_off hi ?_))
      · unfold wpY_drop
        dsimp only
        rw [cd_i76, cd_c7 hi (show 6 < 7 by omega), h1]
        exact yS_ok hi (yB_ok hp ⟨cd_v7 hi (by omega), yw_has (by omega) (fun _ => br_t rfl ⟨rfl, R⟩) (fun hb2 => by rw [hb] at hb2; exact absurd hb2 (by decide))⟩)
      · have S' := cy_S_off (p := p) S hi
        unfold wpY_drop cx_off
        dsimp only
        rw [cd_i76, cd_c7 hi (show 6 < 7 by omega)]
        refine yS_ok hi (yB_ok hp ⟨cd_v7 hi (by omega), yw_has (by omega) (fun hb2 => ?_) (fun _ => br_f (by decide) ⟨cd_v7 hi (by omega), cd_v7 hi (by omega), nm_e ⟨rfl, ⟨a_pr, a_pv, _, rfl, hK, Q, S'⟩⟩⟩)⟩)
        rw [h1, hb] at hb2
        exact absurd hb2 (by decide)
theorem i_vc_deliver {k : Nat} {u : SX} {v : SY} (I : i_Rel k u v) (hk : k + 4 ≤ 2052) (v1 : Int32) (v2 : Int32) : wpX_deliver (fun r u' => wpY_deliver (fun r' v' => r' = r ∧ i_Rel (k + 4) u' v') v v1 v2) u v1 v2 := by
  obtain ⟨f_rings, f_high, f_low, a_crashed, a_config, a_members, a_newestCut, a_reports, a_votes, a_myVote, a_promised, a_acceptedRound, a_acceptedValue, a_ownRound, a_phase, a_promisers, a_promiserRound, a_promiserValue, a_learnedRound, a_learnedFrom, a_learnedValue, a_slots⟩ := u
  obtain ⟨a_pr, a_pv, a_sm, rfl, hK, Q, S⟩ := I
  have R : cy_R (f_rings, f_high, f_low, a_crashed, a_config, a_members, a_newestCut, a_reports, a_votes, a_myVote, a_promised, a_acceptedRound, a_acceptedValue, a_ownRound, a_phase, a_promisers, a_promiserRound, a_promiserValue, a_learnedRound, a_learnedFrom, a_learnedValue, a_slots) (f_rings, f_high, f_low, a_crashed, a_config, a_members, a_newestCut, a_myVote, a_promised, a_acceptedRound, a_acceptedValue, a_ownRound, a_phase, a_promisers, a_learnedRound, a_learnedFrom, a_learnedValue, a_reports, a_votes, a_pr, a_pv, a_sm) := ⟨a_pr, a_pv, a_sm, rfl, hK, Q, S⟩
  rcases cd_sb v1 with b | ⟨i, hi, rfl⟩
  · unfold wpX_deliver
    refine xw_awtN (Or.inl b) (br_t rfl ?_)
    unfold wpY_deliver
    exact yS_no b ⟨rfl, R⟩
  · rcases cd_pb v2 with b | ⟨p, hp, rfl⟩
    · unfold wpX_deliver
      refine xw_awtN (Or.inr ⟨⟨i, hi, rfl⟩, b⟩) (br_t rfl ?_)
      unfold wpY_deliver
      exact yS_ok hi (yB_no b ⟨rfl, R⟩)
    · obtain ⟨h1, h2, h3⟩ := S i hi
      cases hb : bt (a_slots (i * 7 + 6)) p
      · unfold wpX_deliver
        refine xw_awt hi hp (fun _ => br_t rfl ?_) (fun hb2 => by rw [hb] at hb2; exact absurd hb2 (by decide))
        unfold wpY_deliver
        dsimp only
        refine yS_ok hi (yB_ok hp (nm_r (cd_i7 i) ?_))
        rw [cd_a6, cd_c7 hi (show 6 < 7 by omega), h1]
        exact ⟨cd_v7 hi (by omega), yw_has (by omega) (fun _ => br_t rfl ⟨rfl, R⟩) (fun hb2 => by rw [hb] at hb2; exact absurd hb2 (by decide))⟩
      · obtain ⟨e, ⟨q, hq, eq⟩, ex⟩ := h3 (cd_bt0 hb)
        refine xw_del hi hp hb ⟨q, hq, eq⟩ ex ?_
        have S' := cy_S_off (p := p) S hi
        unfold wpY_deliver
        dsimp only
        refine yS_ok hi (yB_ok hp (nm_r (cd_i7 i) ?_))
        rw [cd_a1, cd_a2, cd_a3, cd_a4, cd_a5, cd_a6]
        rw [cd_c7 (k := 1) hi (by omega), cd_c7 (k := 2) hi (by omega), cd_c7 (k := 3) hi (by omega), cd_c7 (k := 4) hi (by omega), cd_c7 (k := 5) hi (by omega), cd_c7 (k := 6) hi (by omega), show (nI (i * 7)).toNatClampNeg = i * 7 from nI_clamp (by omega)]
        refine ⟨cd_v7 hi (by omega), yw_has (by omega) (fun hb2 => by rw [h1, hb] at hb2; exact absurd hb2 (by decide)) (fun _ => br_f (by decide) ?_)⟩
        refine ⟨vp_in_nI (by omega) (by decide), nm_r (e 0 (by omega)) ⟨cd_v7 hi (by omega), nm_r ((e 1 (by omega)).trans eq) ⟨cd_v7 hi (by omega), nm_r (e 2 (by omega)) ⟨cd_v7 hi (by omega), nm_r (e 3 (by omega)) ⟨cd_v7 hi (by omega), nm_r (e 4 (by omega)) ⟨cd_v7 hi (by omega), nm_r (e 5 (by omega)) ⟨cd_v7 hi (by omega), cd_v7 hi (by omega), nm_e ?_⟩⟩⟩⟩⟩⟩⟩
        refine br_f (cd_j0 hq) (br_f (cd_ge16 hq) ?_)
        refine yr_recv (q := q) ⟨a_pr, a_pv, _, rfl, hK, Q, S'⟩ hp hq ex (fun v' R' => ?_)
        have R2 : cy_R (cx_del (f_rings, f_high, f_low, a_crashed, a_config, a_members, a_newestCut, a_reports, a_votes, a_myVote, a_promised, a_acceptedRound, a_acceptedValue, a_ownRound, a_phase, a_promisers, a_promiserRound, a_promiserValue, a_learnedRound, a_learnedFrom, a_learnedValue, a_slots) i p) v' := by
          unfold cx_del
          dsimp only
          rw [eq, cd_cl hq]
          exact R'
        exact cy_eta (post := fun v' => 1 = 1 ∧ i_Rel (k + 4) (cx_del (f_rings, f_high, f_low, a_crashed, a_config, a_members, a_newestCut, a_reports, a_votes, a_myVote, a_promised, a_acceptedRound, a_acceptedValue, a_ownRound, a_phase, a_promisers, a_promiserRound, a_promiserValue, a_learnedRound, a_learnedFrom, a_learnedValue, a_slots) i p) v') ⟨rfl, R2⟩
end CD14
end
section
section CD15
theorem i_vc_fallback {k : Nat} {u : SX} {v : SY} (I : i_Rel k u v) (hk : k + 4 ≤ 2052) (v1 : Int32) : wpX_fallback (fun r u' => wpY_fallback (fun r' v' => r' = r ∧ i_Rel (k + 4) u' v') v v1) u v1 := by
  obtain ⟨f_rings, f_high, f_low, a_crashed, a_config, a_members, a_newestCut, a_reports, a_votes, a_myVote, a_promised, a_acceptedRound, a_acceptedValue, a_ownRound, a_phase, a_promisers, a_promiserRound, a_promiserValue, a_learnedRound, a_learnedFrom, a_learnedValue, a_slots⟩ := u
  obtain ⟨a_pr, a_pv, a_sm, rfl, hK, Q, S⟩ := I
  have R : cy_R (f_rings, f_high, f_low, a_crashed, a_config, a_members, a_newestCut, a_reports, a_votes, a_myVote, a_promised, a_acceptedRound, a_acceptedValue, a_ownRound, a_phase, a_promisers, a_promiserRound, a_promiserValue, a_learnedRound, a_learnedFrom, a_learnedValue, a_slots) (f_rings, f_high, f_low, a_crashed, a_config, a_members, a_newestCut, a_myVote, a_promised, a_acceptedRound, a_acceptedValue, a_ownRound, a_phase, a_promisers, a_learnedRound, a_learnedFrom, a_learnedValue, a_reports, a_votes, a_pr, a_pv, a_sm) := ⟨a_pr, a_pv, a_sm, rfl, hK, Q, S⟩
  rcases cd_pb v1 with b | ⟨p, hp, rfl⟩
  · unfold wpX_fallback wpY_fallback
    exact xw_isN b (br_t rfl (yB_no b ⟨rfl, R⟩))
  · unfold wpX_fallback
    dsimp only
    refine xw_isP hp (br_f (by decide) (xw_stt hp ?_))
    have hf : cd_fr a_sm 32 0 = cd_fr a_slots 32 0 := cd_fr_eq (fun i hi => (S i (by omega)).1)
    by_cases c : cd_stt (a_crashed p) (a_members p) p = 1
    · refine br_t c (xw_free ?_)
      cases e : cd_fr a_slots 32 0 with
      | none =>
        refine br_t rfl ?_
        unfold wpY_fallback
        refine yB_ok hp (yw_stt hp (br_t c (yw_free ?_)))
        rw [hf, e]
        exact br_f (by decide) ⟨rfl, R⟩
      | some i =>
        have hi := (cd_fr_in e).1
        refine br_f (cd_ne1 (by omega)) ⟨cd_vi hp, cd_vi hp, ?_⟩
        have Yc : ∀ (post : Int32 → SY → Prop) (z0 : Int32), (∀ v', cy_R (cx_fb (f_rings, f_high, f_low, a_crashed, a_config, a_members, a_newestCut, a_reports, a_votes, a_myVote, a_promised, a_acceptedRound, a_acceptedValue, a_ownRound, a_phase, a_promisers, a_promiserRound, a_promiserValue, a_learnedRound, a_learnedFrom, a_learnedValue, a_slots) p ((z0 / 16 + 1) * 16 + nI p)) v' → post 1 v') → wY_fallback_60 post (nI p) z0 f_rings f_high f_low a_crashed a_config a_members a_newestCut a_myVote a_promised a_acceptedRound a_acceptedValue a_ownRound a_phase a_promisers a_learnedRound a_learnedFrom a_learnedValue a_reports a_votes a_pr a_pv a_sm := by
          intro post z0 h
          unfold wY_fallback_60
          rw [cd_cl hp]
          have Q' : cy_Q (upd a_promisers p 0) a_promiserRound a_promiserValue a_pr a_pv := by
            intro a q ha hq hb
            by_cases e : a = p
            · subst e
              rw [pk_us, b_0] at hb
              exact absurd hb (by decide)
            · rw [pk_un e] at hb
              exact Q a q ha hq hb
          refine ⟨by decide, cd_vi hp, nm_e ⟨cd_vi hp, nm_e ⟨cd_vi hp, nm_e ⟨cd_vi hp, cd_vi hp, ?_⟩⟩⟩⟩
          rw [pk_us]
          exact yr_send ⟨a_pr, a_pv, a_sm, rfl, hK, Q', S⟩ hp (fun z => absurd z (by decide)) (fun v' R' => cy_eta (post := post 1) (h v' R'))
        have Xc : ∀ (post : Int32 → SX → Prop) (z0 : Int32), post 1 (cx_fb (f_rings, f_high, f_low, a_crashed, a_config, a_members, a_newestCut, a_reports, a_votes, a_myVote, a_promised, a_acceptedRound, a_acceptedValue, a_ownRound, a_phase, a_promisers, a_promiserRound, a_promiserValue, a_learnedRound, a_learnedFrom, a_learnedValue, a_slots) p ((z0 / 16 + 1) * 16 + nI p)) → wX_fallback_56 post (nI p) z0 f_rings f_high f_low a_crashed a_config a_members a_newestCut a_reports a_votes a_myVote a_promised a_acceptedRound a_acceptedValue a_ownRound a_phase a_promisers a_promiserRound a_promiserValue a_learnedRound a_learnedFrom a_learnedValue a_slots := by
          intro post z0 h
          unfold wX_fallback_56
          rw [cd_cl hp]
          refine ⟨by decide, cd_vi hp, nm_e ⟨cd_vi hp, nm_e ⟨cd_vi hp, nm_e ⟨cd_vi hp, cd_vi hp, ?_⟩⟩⟩⟩
          rw [pk_us]
          exact xw_send hp h
        rw [cd_cl hp]
        have Yp : ∀ (post : Int32 → SY → Prop), ((a_promised p ≤ a_ownRound p → wY_fallback_60 post (nI p) (a_ownRound p) f_rings f_high f_low a_crashed a_config a_members a_newestCut a_myVote a_promised a_acceptedRound a_acceptedValue a_ownRound a_phase a_promisers a_learnedRound a_learnedFrom a_learnedValue a_reports a_votes a_pr a_pv a_sm) ∧ (¬ a_promised p ≤ a_ownRound p → wY_fallback_60 post (nI p) (a_promised p) f_rings f_high f_low a_crashed a_config a_members a_newestCut a_myVote a_promised a_acceptedRound a_acceptedValue a_ownRound a_phase a_promisers a_learnedRound a_learnedFrom a_learnedValue a_reports a_votes a_pr a_pv a_sm)) → wpY_fallback post (f_rings, f_high, f_low, a_crashed, a_config, a_members, a_newestCut, a_myVote, a_promised, a_acceptedRound, a_acceptedValue, a_ownRound, a_phase, a_promisers, a_learnedRound, a_learnedFrom, a_learnedValue, a_reports, a_votes, a_pr, a_pv, a_sm) (nI p) := by
          intro post h
          unfold wpY_fallback
          dsimp only
          refine yB_ok hp (yw_stt hp (br_t c (yw_free ?_)))
          rw [hf, e, cd_cl hp]
          exact br_t (nI_pos' (by omega)) ⟨cd_vi hp, cd_vi hp, br_c (fun z => ⟨cd_vi hp, h.1 z⟩) (fun z => ⟨cd_vi hp, h.2 z⟩)⟩
        by_cases c2 : a_promised p ≤ a_ownRound p
        · exact br_t c2 ⟨cd_vi hp, Xc _ _ (Yp _ (br_t c2 (Yc _ _ (fun v' R' => ⟨rfl, R'⟩))))⟩
        · exact br_f c2 ⟨cd_vi hp, Xc _ _ (Yp _ (br_f c2 (Yc _ _ (fun v' R' => ⟨rfl, R'⟩))))⟩
    · refine br_f c ?_
      unfold wpY_fallback
      exact yB_ok hp (yw_stt hp (br_f c ⟨rfl, R⟩))
end CD15
end
section
section CD16
variable {f_rings f_high f_low : Int32} {a_crashed a_config a_members a_newestCut a_reports a_votes a_myVote a_promised a_acceptedRound a_acceptedValue a_ownRound a_phase a_promisers a_promiserRound a_promiserValue a_learnedRound a_learnedFrom a_learnedValue a_slots a_pr a_pv a_sm : Nat → Int32}
theorem yr_obsL {post : Int32 → SY → Prop} {o K : Nat} (ho : o < 16) (hK : K ≤ 6) {s : Int32}
    (h : (cd_wat (a_members o) (nI o) s K = 0 → post 0 (nI K, f_high, f_low, a_crashed, a_config, a_members, a_newestCut, a_myVote, a_promised, a_acceptedRound, a_acceptedValue, a_ownRound, a_phase, a_promisers, a_learnedRound, a_learnedFrom, a_learnedValue, a_reports, a_votes, a_pr, a_pv, a_sm)) ∧ (¬ cd_wat (a_members o) (nI o) s K = 0 → wpY_freeSlot (fun r => (0 ≤ r → vp_in (nI o) 16 ∧ wpY_send (post 1) (nI K, f_high, f_low, a_crashed, a_config, a_members, a_newestCut, a_myVote, a_promised, a_acceptedRound, a_acceptedValue, a_ownRound, a_phase, a_promisers, a_learnedRound, a_learnedFrom, a_learnedValue, a_reports, a_votes, a_pr, a_pv, a_sm) (nI o) 1 s (cd_wat (a_members o) (nI o) s K) 0 (a_members o)) ∧ (¬ 0 ≤ r → post 0 (nI K, f_high, f_low, a_crashed, a_config, a_members, a_newestCut, a_myVote, a_promised, a_acceptedRound, a_acceptedValue, a_ownRound, a_phase, a_promisers, a_learnedRound, a_learnedFrom, a_learnedValue, a_reports, a_votes, a_pr, a_pv, a_sm))) (nI K, f_high, f_low, a_crashed, a_config, a_members, a_newestCut, a_myVote, a_promised, a_acceptedRound, a_acceptedValue, a_ownRound, a_phase, a_promisers, a_learnedRound, a_learnedFrom, a_learnedValue, a_reports, a_votes, a_pr, a_pv, a_sm))) :
    ∀ d r, r + d = K → wY_observe_43 post (nI o) s (nI K) f_high f_low a_crashed a_config a_members a_newestCut a_myVote a_promised a_acceptedRound a_acceptedValue a_ownRound a_phase a_promisers a_learnedRound a_learnedFrom a_learnedValue a_reports a_votes a_pr a_pv a_sm (d + 1) (cd_wat (a_members o) (nI o) s r) (nI r) := by
  intro d
  induction d with
  | zero =>
    intro r hr
    have e : r = K := by omega
    subst e
    refine br_t (nI_le (Nat.le_refl r) (by omega)) ?_
    rw [cd_cl ho]
    exact h
  | succ d ih =>
    intro r hr
    have ih := ih (r + 1) (by omega)
    refine br_f (nI_ge (by omega) (by omega)) ⟨cd_vi ho, yw_obs ?_⟩
    rw [cd_cl ho]
    by_cases c : cd_obs (a_members o) s (nI r) = nI o
    · have e : cd_wat (a_members o) (nI o) s (r + 1) = cd_wat (a_members o) (nI o) s r ||| (1 <<< (nI r &&& 31)) := if_pos c
      rw [e] at ih
      exact br_t c (nm_e (nm_r (nI_1 r) ih))
    · have e : cd_wat (a_members o) (nI o) s (r + 1) = cd_wat (a_members o) (nI o) s r := if_neg c
      rw [e] at ih
      exact br_f c (nm_r (nI_1 r) ih)
end CD16
section CD16b
theorem i_vc_observe {k : Nat} {u : SX} {v : SY} (I : i_Rel k u v) (hk : k + 4 ≤ 2052) (v1 : Int32) (v2 : Int32) : wpX_observe (fun r u' => wpY_observe (fun r' v' => r' = r ∧ i_Rel (k + 4) u' v') v v1 v2) u v1 v2 := by
  obtain ⟨f_rings, f_high, f_low, a_crashed, a_config, a_members, a_newestCut, a_reports, a_votes, a_myVote, a_promised, a_acceptedRound, a_acceptedValue, a_ownRound, a_phase, a_promisers, a_promiserRound, a_promiserValue, a_learnedRound, a_learnedFrom, a_learnedValue, a_slots⟩ := u
  obtain ⟨a_pr, a_pv, a_sm, rfl, hK, Q, S⟩ := I
  have R : cy_R (f_rings, f_high, f_low, a_crashed, a_config, a_members, a_newestCut, a_reports, a_votes, a_myVote, a_promised, a_acceptedRound, a_acceptedValue, a_ownRound, a_phase, a_promisers, a_promiserRound, a_promiserValue, a_learnedRound, a_learnedFrom, a_learnedValue, a_slots) (f_rings, f_high, f_low, a_crashed, a_config, a_members, a_newestCut, a_myVote, a_promised, a_acceptedRound, a_acceptedValue, a_ownRound, a_phase, a_promisers, a_learnedRound, a_learnedFrom, a_learnedValue, a_reports, a_votes, a_pr, a_pv, a_sm) := ⟨a_pr, a_pv, a_sm, rfl, hK, Q, S⟩
  obtain ⟨K, hK6, rfl⟩ := hK
  unfold wpX_observe
  dsimp only
  rcases cd_pb v1 with b | ⟨o, ho, rfl⟩
  · refine xw_isN b (br_t rfl ?_)
    unfold wpY_observe
    exact yA_no b ⟨rfl, R⟩
  rcases cd_pb v2 with b | ⟨s, hs, rfl⟩
  · refine xw_isP ho (br_f (by decide) (xw_isN b (br_t rfl ?_)))
    unfold wpY_observe
    exact yA_ok ho (yA_no b ⟨rfl, R⟩)
  refine xw_isP ho (br_f (by decide) (xw_isP hs (br_f (by decide) ?_)))
  by_cases c : nI o = nI s
  · refine br_t c ?_
    unfold wpY_observe
    exact yA_ok ho (yA_ok hs (br_t c ⟨rfl, R⟩))
  refine br_f c (xw_stt ho ?_)
  by_cases c1 : cd_stt (a_crashed o) (a_members o) o = 1
  rotate_left
  · refine br_f c1 ?_
    unfold wpY_observe
    exact yA_ok ho (yA_ok hs (br_f c (yw_stt ho (br_f c1 ⟨rfl, R⟩))))
  refine br_t c1 (xw_wat ho hK6 rfl ?_)
  have Yp : ∀ (post : Int32 → SY → Prop), ((cd_wat (a_members o) (nI o) (nI s) K = 0 → post 0 (nI K, f_high, f_low, a_crashed, a_config, a_members, a_newestCut, a_myVote, a_promised, a_acceptedRound, a_acceptedValue, a_ownRound, a_phase, a_promisers, a_learnedRound, a_learnedFrom, a_learnedValue, a_reports, a_votes, a_pr, a_pv, a_sm)) ∧ (¬ cd_wat (a_members o) (nI o) (nI s) K = 0 → wpY_freeSlot (fun r => (0 ≤ r → vp_in (nI o) 16 ∧ wpY_send (post 1) (nI K, f_high, f_low, a_crashed, a_config, a_members, a_newestCut, a_myVote, a_promised, a_acceptedRound, a_acceptedValue, a_ownRound, a_phase, a_promisers, a_learnedRound, a_learnedFrom, a_learnedValue, a_reports, a_votes, a_pr, a_pv, a_sm) (nI o) 1 (nI s) (cd_wat (a_members o) (nI o) (nI s) K) 0 (a_members o)) ∧ (¬ 0 ≤ r → post 0 (nI K, f_high, f_low, a_crashed, a_config, a_members, a_newestCut, a_myVote, a_promised, a_acceptedRound, a_acceptedValue, a_ownRound, a_phase, a_promisers, a_learnedRound, a_learnedFrom, a_learnedValue, a_reports, a_votes, a_pr, a_pv, a_sm))) (nI K, f_high, f_low, a_crashed, a_config, a_members, a_newestCut, a_myVote, a_promised, a_acceptedRound, a_acceptedValue, a_ownRound, a_phase, a_promisers, a_learnedRound, a_learnedFrom, a_learnedValue, a_reports, a_votes, a_pr, a_pv, a_sm))) → wpY_observe post (nI K, f_high, f_low, a_crashed, a_config, a_members, a_newestCut, a_myVote, a_promised, a_acceptedRound, a_acceptedValue, a_ownRound, a_phase, a_promisers, a_learnedRound, a_learnedFrom, a_learnedValue, a_reports, a_votes, a_pr, a_pv, a_sm) (nI o) (nI s) := by
    intro post h
    unfold wpY_observe
    exact yA_ok ho (yA_ok hs (br_f c (yw_stt ho (br_t c1 ⟨K + 1, yr_obsL ho hK6 h K 0 (by omega)⟩))))
  by_cases c2 : cd_wat (a_members o) (nI o) (nI s) K = 0
  · exact br_t c2 (Yp _ (br_t c2 ⟨rfl, R⟩))
  refine br_f c2 (xw_free ?_)
  have hf : cd_fr a_sm 32 0 = cd_fr a_slots 32 0 := cd_fr_eq (fun i hi => (S i (by omega)).1)
  cases e : cd_fr a_slots 32 0 with
  | none =>
    refine br_t rfl (Yp _ (br_f c2 (yw_free ?_)))
    rw [hf, e]
    exact br_f (by decide) ⟨rfl, R⟩
  | some i =>
    have hi := (cd_fr_in e).1
    refine br_f (cd_ne1 (by omega)) ⟨cd_vi ho, ?_⟩
    rw [cd_cl ho]
    refine xw_send ho (Yp _ (br_f c2 (yw_free ?_)))
    rw [hf, e]
    exact br_t (nI_pos' (by omega)) ⟨cd_vi ho, yr_send R ho (fun _ => ⟨s, hs, rfl⟩) (fun v' R' => ⟨rfl, R'⟩)⟩
end CD16b
end
section
section CD17
theorem i_vc_paxos {k : Nat} {u : SX} {v : SY} (I : i_Rel k u v) (hk : k + 4 ≤ 2052) (v1 : Int32) (v2 : Int32) : wpX_paxos (fun r => wpY_paxos (fun r' => r' = r ∧ i_Rel (k + 4) u v) v v1 v2) u v1 v2 := by
  obtain ⟨f_rings, f_high, f_low, a_crashed, a_config, a_members, a_newestCut, a_reports, a_votes, a_myVote, a_promised, a_acceptedRound, a_acceptedValue, a_ownRound, a_phase, a_promisers, a_promiserRound, a_promiserValue, a_learnedRound, a_learnedFrom, a_learnedValue, a_slots⟩ := u
  obtain ⟨a_pr, a_pv, a_sm, rfl, hK, Q, S⟩ := I
  have R : cy_R (f_rings, f_high, f_low, a_crashed, a_config, a_members, a_newestCut, a_reports, a_votes, a_myVote, a_promised, a_acceptedRound, a_acceptedValue, a_ownRound, a_phase, a_promisers, a_promiserRound, a_promiserValue, a_learnedRound, a_learnedFrom, a_learnedValue, a_slots) (f_rings, f_high, f_low, a_crashed, a_config, a_members, a_newestCut, a_myVote, a_promised, a_acceptedRound, a_acceptedValue, a_ownRound, a_phase, a_promisers, a_learnedRound, a_learnedFrom, a_learnedValue, a_reports, a_votes, a_pr, a_pv, a_sm) := ⟨a_pr, a_pv, a_sm, rfl, hK, Q, S⟩
  unfold wpX_paxos wpY_paxos
  dsimp only
  rcases cd_pb v1 with b | ⟨p, hp, rfl⟩
  · exact xw_isN b (br_t rfl (yB_no b ⟨rfl, R⟩))
  have n : ∀ j : Int32, 0 ≤ j → j ≤ 7 → v2 < 0 ∨ 7 < v2 → ¬ v2 = j := by
    intro j h0 h7 h e
    subst e
    rcases h with h | h
    · exact Int32.not_lt.mpr h0 h
    · exact Int32.not_lt.mpr h7 h
  refine xw_isP hp (br_f (by decide) ?_)
  by_cases c0 : v2 < 0
  · have m := fun j a b => n j a b (Or.inl c0)
    exact br_t c0 (yB_ok hp (br_f (m 0 (by decide) (by decide)) (br_f (m 1 (by decide) (by decide)) (br_f (m 2 (by decide) (by decide)) (br_f (m 3 (by decide) (by decide)) (br_f (m 4 (by decide) (by decide)) (br_f (m 5 (by decide) (by decide)) (br_f (m 6 (by decide) (by decide)) (br_f (m 7 (by decide) (by decide)) ⟨rfl, R⟩)))))))))
  refine br_f c0 ?_
  by_cases c7 : 7 < v2
  · have m := fun j a b => n j a b (Or.inr c7)
    exact br_t c7 (yB_ok hp (br_f (m 0 (by decide) (by decide)) (br_f (m 1 (by decide) (by decide)) (br_f (m 2 (by decide) (by decide)) (br_f (m 3 (by decide) (by decide)) (br_f (m 4 (by decide) (by decide)) (br_f (m 5 (by decide) (by decide)) (br_f (m 6 (by decide) (by decide)) (br_f (m 7 (by decide) (by decide)) ⟨rfl, R⟩)))))))))
  refine br_f c7 ?_
  by_cases k0 : v2 = 0
  · exact br_t k0 ⟨cd_vi hp, yB_ok hp (br_t k0 ⟨cd_vi hp, rfl, R⟩)⟩
  refine br_f k0 ?_
  by_cases k1 : v2 = 1
  · exact br_t k1 ⟨cd_vi hp, yB_ok hp (br_f k0 (br_t k1 ⟨cd_vi hp, rfl, R⟩))⟩
  refine br_f k1 ?_
  by_cases k2 : v2 = 2
  · exact br_t k2 ⟨cd_vi hp, yB_ok hp (br_f k0 (br_f k1 (br_t k2 ⟨cd_vi hp, rfl, R⟩)))⟩
  refine br_f k2 ?_
  by_cases k3 : v2 = 3
  · exact br_t k3 ⟨cd_vi hp, yB_ok hp (br_f k0 (br_f k1 (br_f k2 (br_t k3 ⟨cd_vi hp, rfl, R⟩))))⟩
  refine br_f k3 ?_
  by_cases k4 : v2 = 4
  · exact br_t k4 ⟨cd_vi hp, yB_ok hp (br_f k0 (br_f k1 (br_f k2 (br_f k3 (br_t k4 ⟨cd_vi hp, rfl, R⟩)))))⟩
  refine br_f k4 ?_
  by_cases k5 : v2 = 5
  · exact br_t k5 ⟨cd_vi hp, yB_ok hp (br_f k0 (br_f k1 (br_f k2 (br_f k3 (br_f k4 (br_t k5 ⟨cd_vi hp, rfl, R⟩))))))⟩
  refine br_f k5 ?_
  by_cases k6 : v2 = 6
  · exact br_t k6 ⟨cd_vi hp, xw_ct (yB_ok hp (br_f k0 (br_f k1 (br_f k2 (br_f k3 (br_f k4 (br_f k5 (br_t k6 ⟨cd_vi hp, yw_ct ⟨rfl, R⟩⟩))))))))⟩
  refine br_f k6 ?_
  by_cases k7 : v2 = 7
  · exact br_t k7 ⟨cd_vi hp, xw_ct (yB_ok hp (br_f k0 (br_f k1 (br_f k2 (br_f k3 (br_f k4 (br_f k5 (br_f k6 (br_t k7 ⟨cd_vi hp, yw_ct ⟨rfl, R⟩⟩)))))))))⟩
  refine br_f k7 ?_
  exact trivial
end CD17
end
