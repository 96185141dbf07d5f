section PG13
theorem nx_and (a b : Nat) : nI a &&& nI b = nI (a &&& b) := by
  apply Int32.toBitVec_inj.1
  show BitVec.ofNat 32 a &&& BitVec.ofNat 32 b = BitVec.ofNat 32 (a &&& b)
  apply BitVec.eq_of_getLsbD_eq
  intro i hi
  simp [hi]
theorem nx_xor (a b : Nat) : nI a ^^^ nI b = nI (a ^^^ b) := by
  apply Int32.toBitVec_inj.1
  show BitVec.ofNat 32 a ^^^ BitVec.ofNat 32 b = BitVec.ofNat 32 (a ^^^ b)
  apply BitVec.eq_of_getLsbD_eq
  intro i hi
  simp [hi]
theorem nx_mod (k : Nat) : nI k &&& 65535 = nI (k % 65536) := by
  show nI k &&& nI 65535 = _
  rw [nx_and, show (65535 : Nat) = 2 ^ 16 - 1 from rfl, Nat.and_two_pow_sub_one_eq_mod]
theorem nx_mask (x : Int32) : ∃ k, k < 65536 ∧ x &&& 65535 = nI k := by
  have e : x = nI x.toBitVec.toNat := by
    apply Int32.toBitVec_inj.1
    show x.toBitVec = BitVec.ofNat 32 x.toBitVec.toNat
    simp
  refine ⟨x.toBitVec.toNat % 65536, Nat.mod_lt _ (by omega), ?_⟩
  rw [← nx_mod, ← e]
theorem wb_tb (n : Nat) : (lN n).toBitVec = BitVec.ofNat 64 n := rfl
theorem wb_inj {a b : Int64} (h : a.toBitVec = b.toBitVec) : a = b := Int64.toBitVec_inj.mp h
theorem wb_tn {n : Nat} (h : n < 2 ^ 64) : (lN n).toBitVec.toNat = n := by rw [wb_tb, BitVec.toNat_ofNat, Nat.mod_eq_of_lt h]
theorem wb_of (x : Int64) : ∃ n, n < 2 ^ 64 ∧ x = lN n := ⟨x.toBitVec.toNat, x.toBitVec.isLt, wb_inj (by rw [wb_tb]; simp)⟩
theorem wb_c : ∀ k, k < 64 → ((nI k).toInt64 &&& 63) = lN k := by decide +kernel
theorem wb_cu : ∀ k, k < 64 → ((nI k).toInt64.toUInt64 &&& Int64.toUInt64 63) = UInt64.ofNat k := by decide +kernel
theorem wb_sm : ∀ k, k < 64 → (BitVec.ofNat 64 k).smod 64 = BitVec.ofNat 64 k := by decide +kernel
theorem wb_pw {a b : Nat} (h : a ≤ b) : 2 ^ b = 2 ^ a * 2 ^ (b - a) := by rw [← Nat.pow_add]; congr 1; omega
theorem wb_lt2 {a b : Nat} (h : a < b) : 2 ^ a < 2 ^ b := Nat.pow_lt_pow_right (by decide) h
theorem wb_mod (n : Nat) : lN n = lN (n % 2 ^ 64) := wb_inj (by rw [wb_tb, wb_tb]; apply BitVec.eq_of_toNat_eq; rw [BitVec.toNat_ofNat, BitVec.toNat_ofNat, Nat.mod_mod])
theorem wb_shr {n k : Nat} (hn : n < 2 ^ 64) (hk : k < 64) : ((lN n).toUInt64 >>> ((nI k).toInt64.toUInt64 &&& Int64.toUInt64 63)).toInt64 = lN (n / 2 ^ k) := by
  rw [wb_cu k hk]
  apply wb_inj
  apply BitVec.eq_of_toNat_eq
  show ((lN n).toUInt64 >>> UInt64.ofNat k).toNat = (BitVec.ofNat 64 _).toNat
  have h1 : (UInt64.ofNat k).toNat = k := by
    show (BitVec.ofNat 64 k).toNat = k
    rw [BitVec.toNat_ofNat, Nat.mod_eq_of_lt (by omega)]
  have h2 : (lN n).toUInt64.toNat = n := wb_tn hn
  rw [UInt64.toNat_shiftRight, h1, h2, Nat.mod_eq_of_lt hk, Nat.shiftRight_eq_div_pow, BitVec.toNat_ofNat, Nat.mod_eq_of_lt (Nat.lt_of_le_of_lt (Nat.div_le_self _ _) hn)]
theorem wb_shl (n : Nat) {k : Nat} (hk : k < 64) : lN n <<< ((nI k).toInt64 &&& 63) = lN (n * 2 ^ k) := by
  rw [wb_c k hk]
  apply wb_inj
  rw [Int64.toBitVec_shiftLeft, wb_tb, wb_tb, wb_tb, wb_sm k hk]
  apply BitVec.eq_of_toNat_eq
  rw [BitVec.shiftLeft_eq', BitVec.toNat_shiftLeft, BitVec.toNat_ofNat, BitVec.toNat_ofNat, BitVec.toNat_ofNat, Nat.mod_eq_of_lt (show k < 2 ^ 64 by omega), Nat.shiftLeft_eq, Nat.mul_mod, Nat.mod_mod, ← Nat.mul_mod]
theorem wb_and {a b : Nat} (ha : a < 2 ^ 64) (hb : b < 2 ^ 64) : lN a &&& lN b = lN (a &&& b) := by
  apply wb_inj
  rw [Int64.toBitVec_and, wb_tb, wb_tb, wb_tb]
  apply BitVec.eq_of_toNat_eq
  rw [BitVec.toNat_and, BitVec.toNat_ofNat, BitVec.toNat_ofNat, BitVec.toNat_ofNat, Nat.mod_eq_of_lt ha, Nat.mod_eq_of_lt hb, Nat.mod_eq_of_lt (Nat.and_lt_two_pow _ hb)]
theorem wb_or {a b : Nat} (ha : a < 2 ^ 64) (hb : b < 2 ^ 64) : lN a ||| lN b = lN (a ||| b) := by
  apply wb_inj
  rw [Int64.toBitVec_or, wb_tb, wb_tb, wb_tb]
  apply BitVec.eq_of_toNat_eq
  rw [BitVec.toNat_or, BitVec.toNat_ofNat, BitVec.toNat_ofNat, BitVec.toNat_ofNat, Nat.mod_eq_of_lt ha, Nat.mod_eq_of_lt hb, Nat.mod_eq_of_lt (Nat.or_lt_two_pow ha hb)]
theorem wb_mask {n k : Nat} (hn : n < 2 ^ 64) (hk : k < 64) : lN n &&& lN (2 ^ k - 1) = lN (n % 2 ^ k) := by
  rw [wb_and hn (by have := wb_lt2 hk; omega), Nat.and_two_pow_sub_one_eq_mod]
theorem lN_bv (n : Nat) : (lN n).toBitVec = BitVec.ofNat 64 n := rfl
theorem lN_xor (a b : Nat) : lN a ^^^ lN b = lN (a ^^^ b) := by
  apply Int64.toBitVec_inj.mp; rw [Int64.toBitVec_xor, lN_bv, lN_bv, lN_bv]; apply BitVec.eq_of_getLsbD_eq; intro i hi; simp [BitVec.getLsbD_ofNat, Nat.testBit_xor, hi]
/-! fields of w bits -/
def pf_F (w n j : Nat) : Nat := n / 2 ^ (w * j) % 2 ^ w
theorem pf_lt (w n j : Nat) : pf_F w n j < 2 ^ w := Nat.mod_lt _ (Nat.two_pow_pos w)
theorem pf_0 (w j : Nat) : pf_F w 0 j = 0 := by unfold pf_F; rw [Nat.zero_div, Nat.zero_mod]
theorem pf_sh (w v i j : Nat) (hv : v < 2 ^ w) : v * 2 ^ (w * i) / 2 ^ (w * j) % 2 ^ w = if j = i then v else 0 := by
  by_cases e : j = i
  · subst e
    rw [if_pos rfl, Nat.mul_div_cancel _ (Nat.two_pow_pos _), Nat.mod_eq_of_lt hv]
  · rw [if_neg e]
    rcases Nat.lt_or_ge j i with l | l
    · obtain ⟨t, rfl⟩ : ∃ t, i = j + 1 + t := ⟨i - j - 1, by omega⟩
      have e2 : v * 2 ^ (w * (j + 1 + t)) = v * 2 ^ (w * t) * 2 ^ w * 2 ^ (w * j) := by
        have e3 : w * (j + 1 + t) = w * t + (w + w * j) := by rw [Nat.mul_add, Nat.mul_add, Nat.mul_one]; omega
        rw [e3, Nat.pow_add, Nat.pow_add, Nat.mul_assoc, Nat.mul_assoc]
      rw [e2, Nat.mul_div_cancel _ (Nat.two_pow_pos _), Nat.mul_mod_left]
    · have hlt : i + 1 ≤ j := by omega
      have h1 : v * 2 ^ (w * i) < 2 ^ w * 2 ^ (w * i) := Nat.mul_lt_mul_of_pos_right hv (Nat.two_pow_pos _)
      have h2 : 2 ^ w * 2 ^ (w * i) ≤ 2 ^ (w * j) := by
        rw [← Nat.pow_add]
        have := Nat.mul_le_mul_left w hlt
        rw [Nat.mul_add, Nat.mul_one] at this
        exact Nat.pow_le_pow_right (by decide) (by omega)
      rw [Nat.div_eq_of_lt (Nat.lt_of_lt_of_le h1 h2), Nat.zero_mod]
theorem pf_or (w n v i j : Nat) (hv : v < 2 ^ w) : pf_F w (n ||| v * 2 ^ (w * i)) j = pf_F w n j ||| (if j = i then v else 0) := by
  unfold pf_F
  rw [← pf_sh w v i j hv, ← Nat.shiftRight_eq_div_pow, ← Nat.shiftRight_eq_div_pow, ← Nat.shiftRight_eq_div_pow, Nat.shiftRight_or_distrib, Nat.or_mod_two_pow]
theorem lf_field {post : Int32 → Prop} {n j : Nat} (hn : n < 2 ^ 64) (hj : j < 4) (h : post (nI (pf_F 16 n j))) : wpL_field post () (lN n) (nI j) := by
  unfold wpL_field
  rw [show (16 : Int32) * nI j = nI (16 * j) from pk_mul 16 j, wb_shr hn (by omega), show (65535 : Int64) = lN (2 ^ 16 - 1) from rfl, wb_mask (Nat.lt_of_le_of_lt (Nat.div_le_self _ _) hn) (by decide), lN_i]
  exact h
def pf_has (n : Nat) (x : Int32) : Prop := ∃ j, j < 4 ∧ nI (pf_F 16 n j) = x
theorem lf_hasL {post : Int32 → Prop} {n : Nat} {x : Int32} (hn : n < 2 ^ 64) : ∀ d j, j + d = 4 → ((∃ i, j ≤ i ∧ i < 4 ∧ nI (pf_F 16 n i) = x) → post 1) → ((∀ i, j ≤ i → i < 4 → ¬ nI (pf_F 16 n i) = x) → post 0) → wL_has_2 post (lN n) x (d + 1) (nI j) := by
  intro d
  induction d with
  | zero =>
    intro j hj _ h0
    have e : j = 4 := by omega
    subst e
    exact br_t (by decide) (h0 (fun i a b => by omega))
  | succ d ih =>
    intro j hj h1 h0
    refine br_f (nI_ge (b := 4) (by omega) (by decide)) (lf_field hn (by omega) ?_)
    by_cases c : nI (pf_F 16 n j) = x
    · exact br_t c (h1 ⟨j, Nat.le_refl j, by omega, c⟩)
    · refine br_f c (nm_r (nI_1 j) (ih (j + 1) (by omega) (fun ⟨i, a, b, e⟩ => h1 ⟨i, by omega, b, e⟩) (fun hh => h0 (fun i a b => ?_))))
      by_cases e : i = j
      · subst e; exact c
      · exact hh i (by omega) b
theorem lf_has {post : Int32 → Prop} {n : Nat} {x : Int32} (hn : n < 2 ^ 64) (h1 : pf_has n x → post 1) (h0 : ¬ pf_has n x → post 0) : wpL_has post () (lN n) x :=
  ⟨5, lf_hasL hn 4 0 rfl (fun ⟨i, _, b, e⟩ => h1 ⟨i, b, e⟩) (fun hh => h0 (fun ⟨i, b, e⟩ => hh i (Nat.zero_le i) b e))⟩
theorem lf_fitsL {post : Int32 → Prop} {n : Nat} (hn : n < 2 ^ 64) (h0 : post 0) : ∀ d j, j + d = 4 → ((∃ i, i < 4 ∧ pf_F 16 n i = 0) → post 1) → wL_fits_12 post (lN n) (d + 1) (nI j) := by
  intro d
  induction d with
  | zero =>
    intro j hj _
    have e : j = 4 := by omega
    subst e
    exact br_t (by decide) h0
  | succ d ih =>
    intro j hj h1
    refine br_f (nI_ge (b := 4) (by omega) (by decide)) (lf_field hn (by omega) ?_)
    have hl := pf_lt 16 n j
    by_cases c : pf_F 16 n j = 0
    · exact br_t (by rw [c]; rfl) (h1 ⟨j, by omega, c⟩)
    · exact br_f (nI_ne0 (by omega) (by omega)) (nm_r (nI_1 j) (ih (j + 1) (by omega) h1))
theorem lf_fits {post : Int32 → Prop} {n : Nat} {x : Int32} (hn : n < 2 ^ 64) (h1 : (pf_has n x ∨ ∃ i, i < 4 ∧ pf_F 16 n i = 0) → post 1) (h0 : post 0) : wpL_fits post () (lN n) x := by
  unfold wpL_fits
  exact lf_has hn (fun c => br_f (by decide) (h1 (Or.inl c))) (fun _ => br_t rfl ⟨5, lf_fitsL hn h0 4 0 rfl (fun c => h1 (Or.inr c))⟩)
theorem lf_putL {post : Int64 → Prop} {n v : Nat} (hn : n < 2 ^ 64) (hv : v < 65536) (h : ∀ n', n' < 2 ^ 64 → pf_has n' (nI v) → (∀ y : Int32, ¬ y = 0 → pf_has n y → pf_has n' y) → post (lN n')) : ∀ d j, j + d = 4 → (∃ i, j ≤ i ∧ i < 4 ∧ pf_F 16 n i = 0) → wL_put_12 post (lN n) (nI v) (d + 1) (nI j) := by
  intro d
  induction d with
  | zero =>
    intro j hj hz
    obtain ⟨i, a, b, _⟩ := hz
    omega
  | succ d ih =>
    intro j hj hz
    refine br_f (nI_ge (b := 4) (by omega) (by decide)) (lf_field hn (by omega) ?_)
    have hl := pf_lt 16 n j
    by_cases c : pf_F 16 n j = 0
    · refine br_t (by rw [c]; rfl) ?_
      have hm : v * 2 ^ (16 * j) < 2 ^ 64 := by
        have a : v * 2 ^ (16 * j) < 2 ^ 16 * 2 ^ (16 * j) := Nat.mul_lt_mul_of_pos_right hv (Nat.two_pow_pos _)
        have b : 2 ^ 16 * 2 ^ (16 * j) ≤ 2 ^ 64 := by
          rw [← Nat.pow_add]
          exact Nat.pow_le_pow_right (by decide) (by omega)
        exact Nat.lt_of_lt_of_le a b
      rw [nI_l (by omega), show (16 : Int32) * nI j = nI (16 * j) from pk_mul 16 j, wb_shl _ (by omega), wb_or hn hm]
      refine h _ (Nat.or_lt_two_pow hn hm) ⟨j, by omega, ?_⟩ (fun y hy hh => ?_)
      · rw [pf_or 16 n v j j hv, c, if_pos rfl, Nat.zero_or]
      · obtain ⟨i, hi, e⟩ := hh
        refine ⟨i, hi, ?_⟩
        rw [pf_or 16 n v j i hv]
        by_cases ij : i = j
        · subst ij
          rw [c] at e
          exact absurd e.symm hy
        · rw [if_neg ij, Nat.or_zero]; exact e
    · refine br_f (nI_ne0 (by omega) (by omega)) (nm_r (nI_1 j) (ih (j + 1) (by omega) ?_))
      obtain ⟨i, a, b, z⟩ := hz
      refine ⟨i, ?_, b, z⟩
      rcases Nat.lt_or_ge j i with l | l
      · exact l
      · have : i = j := by omega
        subst this
        exact absurd z c
theorem lf_put {post : Int64 → Prop} {n v : Nat} (hn : n < 2 ^ 64) (hv : v < 65536) (hz : pf_has n (nI v) ∨ ∃ i, i < 4 ∧ pf_F 16 n i = 0) (h : ∀ n', n' < 2 ^ 64 → pf_has n' (nI v) → (∀ y : Int32, ¬ y = 0 → pf_has n y → pf_has n' y) → post (lN n')) : wpL_put post () (lN n) (nI v) := by
  unfold wpL_put
  refine lf_has hn (fun c => br_f (by decide) (h n hn c (fun y _ hh => hh))) (fun c => br_t rfl ⟨5, lf_putL hn hv h 4 0 rfl ?_⟩)
  rcases hz with a | ⟨i, b, z⟩
  · exact absurd a c
  · exact ⟨i, Nat.zero_le i, b, z⟩
/-! the script's cells, and remainders made positive -/
theorem lf_cell {post : Int32 → Prop} {L : Nat} {xs : Nat → Int32} (hL : L ≤ 260) {i : Nat} (hi : i < 2 ^ 30) (h : ∀ r, post r) : wpL_cell post L xs () (nI i) := by
  unfold wpL_cell
  by_cases c : L ≤ i
  · exact br_t (nI_le c (by omega)) (h 0)
  · exact br_f (nI_ge (by omega) (by omega)) ⟨vp_in_nI (by omega) (by omega), h _⟩
theorem lf_pos {post : Int32 → Prop} {a : Int32} {M : Nat} (h0 : 0 < M) (hM : M < 2 ^ 30) (h : ∀ t, t < M → post (nI t)) : wpL_pos post () a (nI M) := by
  unfold wpL_pos
  have eM : (nI M).toInt = (M : Int) := nI_toInt (by omega)
  have e0 : (0 : Int32).toInt = 0 := by decide
  refine ⟨nI_ne0 h0 (by omega), fun x ex => ?_⟩
  have hx : x.toInt = a.toInt.tmod M := by
    rw [ex, irem_eq_mod, Int32.toInt_mod, eM]
  have hlt : x.toInt < M := by
    rw [hx]
    exact Int.tmod_lt_of_pos _ (by omega)
  have hgt : -(M : Int) < x.toInt := by
    rw [hx]
    exact Int.lt_tmod_of_pos _ (by omega)
  by_cases c : 0 ≤ x
  · obtain ⟨t, ht, e⟩ := nI_of (x := x) (Int32.not_lt.mpr c)
    refine br_t c ?_
    rw [e, nI_toInt ht] at hlt
    rw [e]
    exact h t (by omega)
  · refine br_f c ?_
    have hneg : x.toInt < 0 := by
      rw [Int32.le_iff_toInt_le, e0] at c
      omega
    have es : (x + nI M).toInt = x.toInt + M := by
      rw [Int32.toInt_add, eM]
      exact Int.bmod_eq_of_le (by omega) (by omega)
    have hn : ¬ x + nI M < 0 := by
      rw [Int32.lt_iff_toInt_lt, es, e0]
      omega
    obtain ⟨t, ht, e⟩ := nI_of hn
    rw [e, nI_toInt ht] at es
    rw [e]
    exact h t (by omega)
end PG13
