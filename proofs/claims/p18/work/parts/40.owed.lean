section PG20
theorem i_vc (xs : Nat → Int32) (L : Nat) (hL : L ≤ 260) : wpL_law (fun r => r = 1) L xs := by
  unfold wpL_law
  refine lf_cell (i := 0) hL (by omega) (fun _ => lf_pos (M := 6) (by omega) (by omega) (fun t1 h1 => nm_r (nI_add 3 t1) ?_))
  refine lf_cell (i := 1) hL (by omega) (fun _ => lf_pos (M := 5) (by omega) (by omega) (fun t2 h2 => nm_r (nI_add 2 t2) ?_))
  refine lf_cell (i := 2) hL (by omega) (fun _ => lf_pos (by omega) (by omega) (fun t3 h3 => nm_r (nI_add 1 t3) ?_))
  refine lf_cell (i := 3) hL (by omega) (fun _ => lf_pos (by omega) (by omega) (fun t4 h4 => nm_r (nI_add 1 t4) ?_))
  refine ⟨19, 1472, by omega, by omega, ?_⟩
  refine xw_init (nI_le (a := 3) (by omega) (by omega)) (nI_le (b := 16) (by omega) (by omega)) (nI_le (a := 2) (by omega) (by omega)) (nI_le (b := 6) (by omega) (by omega)) (nI_le (a := 1) (by omega) (by omega)) (nI_le (by omega) (by omega)) (nI_le (a := 1) (by omega) (by omega)) (nI_le (by omega) (by omega)) ?_
  exact lf_first (post := fun r => r = 1) (L := L) (xs := xs) (x3 := nI (1 + t3)) (x4 := nI (1 + t4)) (kc := 1 + 19) (ks := 22 + 1472) (f := (1 <<< (nI (3 + t1) &&& 31)) - 1) (r := nI (2 + t2)) (nn := 3 + t1) hL rfl (by omega) (by omega) (K := 2 + t2) (by omega) rfl
end PG20
