section CD1
def bt (x : Int32) (i : Nat) : Bool := x.toBitVec.getLsbD i
theorem b_ext {x y : Int32} (h : ∀ i, i < 32 → bt x i = bt y i) : x = y := Int32.toBitVec_inj.mp (BitVec.eq_of_getLsbD_eq (fun i hi => h i hi))
theorem b_or (x y : Int32) (i : Nat) : bt (x ||| y) i = (bt x i || bt y i) := by unfold bt; rw [Int32.toBitVec_or, BitVec.getLsbD_or]
theorem b_and (x y : Int32) (i : Nat) : bt (x &&& y) i = (bt x i && bt y i) := by unfold bt; rw [Int32.toBitVec_and, BitVec.getLsbD_and]
theorem b_xor (x y : Int32) (i : Nat) : bt (x ^^^ y) i = (bt x i ^^ bt y i) := by unfold bt; rw [Int32.toBitVec_xor, BitVec.getLsbD_xor]
theorem b_big {x : Int32} {i : Nat} (h : 32 ≤ i) : bt x i = false := BitVec.getLsbD_of_ge _ _ h
theorem b_65535 (i : Nat) : bt 65535 i = decide (i < 16) := by
  rcases Nat.lt_or_ge i 32 with h | h
  · exact (by decide +kernel : ∀ i, i < 32 → bt 65535 i = decide (i < 16)) i h
  · rw [b_big h, decide_eq_false (by omega)]
theorem b_m1 : ∀ i, i < 32 → bt (-1) i = true := by decide +kernel
theorem b_0 (i : Nat) : bt 0 i = false := BitVec.getLsbD_zero
theorem s_l : ∀ n, n < 32 → ((nI n &&& 31).toBitVec.smod 32).toNat = n := by decide +kernel
theorem b_shl (n : Nat) (hn : n < 32) (x : Int32) {i : Nat} (hi : i < 32) : bt (x <<< (nI n &&& 31)) i = (decide (n ≤ i) && bt x (i - n)) := by
  unfold bt
  rw [Int32.toBitVec_shiftLeft]
  show (x.toBitVec <<< ((nI n &&& 31).toBitVec.smod 32).toNat).getLsbD i = _
  rw [s_l n hn, BitVec.getLsbD_shiftLeft]
  rcases Nat.lt_or_ge i n with h | h
  · simp [h, Nat.not_le.mpr h]
  · simp [hi, h, Nat.not_lt.mpr h]
theorem b_sshr (n : Nat) (hn : n < 32) (x : Int32) {i : Nat} (hi : i < 32) : bt (x >>> (nI n &&& 31)) i = if n + i < 32 then bt x (n + i) else bt x 31 := by
  unfold bt
  rw [Int32.toBitVec_shiftRight]
  show (x.toBitVec.sshiftRight ((nI n &&& 31).toBitVec.smod 32).toNat).getLsbD i = _
  rw [s_l n hn, BitVec.getLsbD_sshiftRight, BitVec.msb_eq_getLsbD_last]
  simp [hi]
theorem cd_b1 (j : Nat) : bt 1 j = decide (j = 0) := by
  rcases Nat.lt_or_ge j 32 with h | h
  · exact (by decide +kernel : ∀ i, i < 32 → bt 1 i = decide (i = 0)) j h
  · rw [b_big h, decide_eq_false (by omega)]
theorem cd_a1z (x : Int32) : x &&& 1 = 0 ↔ bt x 0 = false := by
  constructor
  · intro h
    have e : bt (x &&& 1) 0 = bt x 0 := by rw [b_and, cd_b1]; simp
    rw [h, b_0] at e
    exact e.symm
  · intro h
    apply b_ext
    intro i _
    rw [b_and, cd_b1, b_0]
    by_cases e : i = 0
    · subst e; rw [h]; rfl
    · rw [decide_eq_false e, Bool.and_false]
theorem cd_a1o (x : Int32) (h : ¬ x &&& 1 = 0) : x &&& 1 = 1 := by
  have h1 : bt x 0 = true := by
    cases e : bt x 0
    · exact absurd ((cd_a1z x).mpr e) h
    · rfl
  apply b_ext
  intro i _
  rw [b_and, cd_b1]
  by_cases e : i = 0
  · subst e; rw [h1]; rfl
  · rw [decide_eq_false e, Bool.and_false]
theorem cd_has {x : Int32} {i : Nat} (hi : i < 32) : (x >>> (nI i &&& 31)) &&& 1 = 0 ↔ bt x i = false := by
  rw [cd_a1z, b_sshr i hi x (by omega), if_pos (by omega)]
  exact Iff.rfl
theorem cd_hasn {x : Int32} {i : Nat} (hi : i < 32) : ¬ (x >>> (nI i &&& 31)) &&& 1 = 0 ↔ bt x i = true := by
  rw [cd_has hi]
  cases bt x i <;> simp
theorem cd_has1 {x : Int32} {i : Nat} (hi : i < 32) (h : bt x i = true) : (x >>> (nI i &&& 31)) &&& 1 = 1 := cd_a1o _ ((cd_hasn hi).mpr h)
theorem cd_has0 {x : Int32} {i : Nat} (hi : i < 32) (h : bt x i = false) : (x >>> (nI i &&& 31)) &&& 1 = 0 := (cd_has hi).mpr h
theorem cd_shl1 (q : Nat) (hq : q < 32) {i : Nat} (hi : i < 32) : bt (1 <<< (nI q &&& 31)) i = decide (i = q) := by
  rw [b_shl q hq 1 hi, cd_b1]
  by_cases e : i = q
  · subst e; simp
  · rw [decide_eq_false e]
    by_cases h : q ≤ i
    · rw [decide_eq_false (by omega : ¬ i - q = 0), Bool.and_false]
    · rw [decide_eq_false h, Bool.false_and]
theorem cd_mr (x : Int32) : x - x / 17 * 17 < 17 := by
  rw [irem_eq_mod, Int32.lt_iff_toInt_lt, Int32.toInt_mod]
  have h17 : (17 : Int32).toInt = 17 := by decide
  rw [h17]
  exact Int.tmod_lt_of_pos _ (by omega)
theorem cd_bn {x : Bool} (h : ¬ x = true) : x = false := by cases x <;> simp_all
/-! the number of bits below i -/
def cd_cn (x : Int32) : Nat → Nat
  | 0 => 0
  | i + 1 => cd_cn x i + (if bt x i = true then 1 else 0)
theorem cd_cnS (x : Int32) (i : Nat) : cd_cn x (i + 1) = cd_cn x i + (if bt x i = true then 1 else 0) := rfl
theorem cd_cn_le (x : Int32) : ∀ i, cd_cn x i ≤ i := by
  intro i
  induction i with
  | zero => exact Nat.le_refl 0
  | succ i ih =>
    show cd_cn x i + (if bt x i = true then 1 else 0) ≤ i + 1
    split <;> omega
def cd_ct (x : Int32) : Int32 := nI (cd_cn x 16)
/-! a row of n cells from b on, all v -/
def cd_fill (a : Nat → Int32) (b : Nat) (v : Int32) (n : Nat) : Nat → Int32 := fun j => if b ≤ j ∧ j < b + n then v else a j
theorem cd_fill0 {a : Nat → Int32} {b : Nat} {v : Int32} : cd_fill a b v 0 = a := by
  funext j
  exact if_neg (by omega)
theorem cd_fillS {a : Nat → Int32} {b n : Nat} {v : Int32} : upd (cd_fill a b v n) (b + n) v = cd_fill a b v (n + 1) := by
  funext j
  show (if j = b + n then v else if b ≤ j ∧ j < b + n then v else a j) = (if b ≤ j ∧ j < b + (n + 1) then v else a j)
  by_cases h : j = b + n
  · rw [if_pos h, if_pos (by omega)]
  · rw [if_neg h]
    by_cases h2 : b ≤ j ∧ j < b + n
    · rw [if_pos h2, if_pos (by omega)]
    · rw [if_neg h2, if_neg (by omega)]
theorem cd_fillI {a : Nat → Int32} {b n j : Nat} {v : Int32} (h : b ≤ j) (h2 : j < b + n) : cd_fill a b v n j = v := if_pos ⟨h, h2⟩
theorem cd_fillO {a : Nat → Int32} {b n j : Nat} {v : Int32} (h : ¬ (b ≤ j ∧ j < b + n)) : cd_fill a b v n j = a j := if_neg h
/-! indices -/
theorem cd_i16 (p q : Nat) : nI p * 16 + nI q = nI (p * 16 + q) := by rw [show (16 : Int32) = nI 16 from rfl, pk_mul, nI_add]
theorem cd_i7 (p : Nat) : nI p * 7 = nI (p * 7) := by rw [show (7 : Int32) = nI 7 from rfl, pk_mul]
theorem cd_i7k (p k : Nat) : nI p * 7 + nI k = nI (p * 7 + k) := by rw [cd_i7, nI_add]
end CD1
