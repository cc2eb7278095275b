set_option maxRecDepth 20000
section ZNUM
variable {N z : Nat} {fo : Nat → Int64}
theorem zmul2 : (Int32.ofNat N) * 2 = Int32.ofNat (2 * N) := by
  rw [Nat.mul_comm, Int32.ofNat_mul]
  rfl
theorem zmin2 (hN : N < 320000) : (if (Int32.ofNat 320000) < ((Int32.ofNat N) * 2) then (Int32.ofNat 320000) else ((Int32.ofNat N) * 2)) = Int32.ofNat (Nat.min (2 * N) 320000) := by
  rw [zmul2]
  by_cases h : 320000 < 2 * N
  · rw [if_pos ((zk_lt (by omega) (by omega)).mpr h)]
    exact congrArg Int32.ofNat (show 320000 = Nat.min (2 * N) 320000 from (Nat.min_eq_right (show 320000 ≤ 2 * N by omega)).symm)
  · rw [if_neg (fun y => h ((zk_lt (by omega) (by omega)).mp y))]
    exact congrArg Int32.ofNat (show 2 * N = Nat.min (2 * N) 320000 from (Nat.min_eq_left (show 2 * N ≤ 320000 by omega)).symm)
theorem zmin7 (hN : N < 320000) : Nat.min (2 * N) 320000 < 2147483648 := Nat.lt_of_le_of_lt (Nat.min_le_right _ _) (by omega)
theorem zmin8 : Nat.min (2 * N) 320000 ≤ 67108864 := Nat.le_trans (Nat.min_le_right _ _) (by omega)
theorem zmin_gt (hN : N < 320000) (h0 : 0 < N) : N < Nat.min (2 * N) 320000 := Nat.lt_min.mpr ⟨by omega, hN⟩
theorem zmin3 (hN : N < 320000) : (if (Int32.ofNat (Nat.min (2 * N) 320000)) < (Int32.ofNat N) then (Int32.ofNat (Nat.min (2 * N) 320000)) else (Int32.ofNat N)) = Int32.ofNat N := by
  refine if_neg (fun y => ?_)
  have h1 := (zk_lt (zmin7 hN) (by omega)).mp y
  have h2 : N ≤ Nat.min (2 * N) 320000 := Nat.le_min.mpr ⟨by omega, by omega⟩
  omega
theorem zmin4 (hN : N < 320000) (hz : z = N) : xcd .lt (Int32.ofNat z) (Int32.ofNat N) = false := decide_eq_false (fun y => by
  have := (zk_lt (by omega) (by omega)).mp y
  omega)
theorem zmin5 (hN : N < 320000) (h0 : 0 < N) : xcd .ne (Int32.ofNat (Nat.min (2 * N) 320000)) (Int32.ofNat N) = true := decide_eq_true (fun y => by
  have h1 := congrArg Int32.toInt y
  rw [zk_int (zmin7 hN), zk_int (by omega)] at h1
  have := zmin_gt hN h0
  omega)
theorem zmin6 (hN : N < 320000) (h0 : 0 < N) (hz : z = N) : xcd .ge (Int32.ofNat z) (Int32.ofNat (Nat.min (2 * N) 320000)) = false := by
  subst hz
  exact zx_ge (zmin7 hN) (zmin_gt hN h0)
theorem zmin9 (hN : N < 320000) (h0 : 0 < N) (hz : z = N) : ¬ (Int32.ofNat z < 0 ∨ Nat.min (2 * N) 320000 ≤ (Int32.ofNat z).toNatClampNeg) := by
  subst hz
  exact zbd (zmin7 hN) (zmin_gt hN h0)
theorem z00 : (0 : Int32).toNatClampNeg = 0 := by decide
theorem zcp_b (hN : N < 320000) (h0 : 0 < N) : (0 : Int32).toNatClampNeg + (Int32.ofNat N).toNatClampNeg ≤ N ∧ (0 : Int32).toNatClampNeg + (Int32.ofNat N).toNatClampNeg ≤ Nat.min (2 * N) 320000 := by
  rw [z00, zk_nat (by omega)]
  have := zmin_gt hN h0
  exact ⟨by omega, by omega⟩
theorem zcp_l {h : xH} {cis : List Nat} (_ : N < 320000) : xcpk h cis 1 (zJ fo) (0 : Int32).toNatClampNeg (Int32.ofNat N).toNatClampNeg = true := List.all_eq_true.mpr (fun _ _ => rfl)
theorem zcp_e (hN : N < 320000) : xcpy (zJ fo) (zJ (fun _ => 0)) (0 : Int32).toNatClampNeg (0 : Int32).toNatClampNeg (Int32.ofNat N).toNatClampNeg = zJ (fun j => if j < N then fo j else 0) := by
  rw [z00, zk_nat (by omega)]
  funext j
  show (if 0 ≤ j ∧ j < 0 + N then zJ fo (0 + (j - 0)) else zJ (fun _ => 0) j) = Sum.inl (Value.long (if j < N then fo j else 0))
  by_cases hj : j < N
  · rw [if_pos ⟨by omega, by omega⟩, if_pos hj]
    show Sum.inl (Value.long (fo (0 + (j - 0)))) = _
    rw [show 0 + (j - 0) = j from by omega]
  · rw [if_neg (fun y => hj (by omega)), if_neg hj]
end ZNUM
