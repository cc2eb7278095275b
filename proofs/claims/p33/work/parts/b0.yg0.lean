set_option maxRecDepth 100000
section YB0
/-- a long's bits -/
abbrev zb (x : Int64) (i : Nat) : Bool := x.toBitVec.getLsbD i
theorem zsh_bv (x : Int64) : (zsh x 56).toBitVec = (x.toBitVec >>> 56).signExtend 32 := rfl
theorem zback_bv : (Int64.ofNat 1152921504606846976).toBitVec = BitVec.twoPow 64 60 := by decide
theorem zb_nat (N i : Nat) : (N.testBit i).toNat = N / 2 ^ i % 2 := Nat.toNat_testBit N i
theorem zvw_bits (x : Int64) : zvw x = (zb x 56).toNat + 2 * (zb x 57).toNat + 4 * (zb x 58).toNat := by
  have h1 : zvw x = ((zsh x 56).toBitVec &&& BitVec.ofNat 32 7).toNat := rfl
  rw [h1, BitVec.toNat_and, BitVec.toNat_ofNat, show 7 % 2 ^ 32 = 2 ^ 3 - 1 from rfl, Nat.and_two_pow_sub_one_eq_mod]
  have hb : ∀ i, i < 3 → (zsh x 56).toBitVec.toNat / 2 ^ i % 2 = (zb x (56 + i)).toNat := fun i hi => by
    rw [← zb_nat]
    congr 1
    show (zsh x 56).toBitVec.getLsbD i = _
    rw [zsh_bv, BitVec.getLsbD_signExtend, if_pos (by omega), BitVec.getLsbD_ushiftRight]
    simp [show i < 32 by omega]
  have h0 := hb 0 (by omega)
  have h2 := hb 1 (by omega)
  have h3 := hb 2 (by omega)
  rw [← h0, ← h2, ← h3]
  generalize (zsh x 56).toBitVec.toNat = N
  omega
theorem zand_back (x : Int64) : x &&& Int64.ofNat 1152921504606846976 = 0 ↔ zb x 60 = false := by
  constructor
  · intro h
    have h2 := congrArg (fun y => zb y 60) h
    have h3 : zb (x &&& Int64.ofNat 1152921504606846976) 60 = (zb x 60 && (Int64.ofNat 1152921504606846976).toBitVec.getLsbD 60) := BitVec.getLsbD_and
    have h4 : (Int64.ofNat 1152921504606846976).toBitVec.getLsbD 60 = true := by decide
    rw [h4, Bool.and_true] at h3
    rw [← h3]
    exact h2
  · intro h
    apply Int64.toBitVec_inj.mp
    show x.toBitVec &&& (Int64.ofNat 1152921504606846976).toBitVec = 0#64
    rw [zback_bv]
    apply BitVec.eq_of_getLsbD_eq
    intro i hi
    rw [BitVec.getLsbD_and, BitVec.getLsbD_twoPow]
    by_cases h60 : i = 60
    · subst h60
      rw [show x.toBitVec.getLsbD 60 = false from h]
      simp
    · simp [show ¬ 60 = i from fun z => h60 z.symm]
theorem zsg_bit (x : Int64) : zsg x = if zb x 60 = true then -1 else 1 := by
  unfold zsg
  by_cases h : zb x 60 = true
  · rw [if_pos h, if_neg]
    intro z
    rw [(zand_back x).mp z] at h
    cases h
  · rw [if_neg h, if_pos]
    exact (zand_back x).mpr (by simpa using h)
theorem zback_b (x : Int64) (i : Nat) : zb (zback x) i = (zb x i || decide (i = 60)) := by
  show (x.toBitVec ||| (Int64.ofNat 1152921504606846976).toBitVec).getLsbD i = _
  rw [zback_bv, BitVec.getLsbD_or, BitVec.getLsbD_twoPow]
  by_cases h60 : i = 60
  · subst h60
    simp
  · simp [h60, show ¬ 60 = i from fun z => h60 z.symm]
theorem zback_vw (x : Int64) : zvw (zback x) = zvw x := by
  rw [zvw_bits, zvw_bits, zback_b, zback_b, zback_b]
  simp
theorem zback_sg (x : Int64) : zsg (zback x) = -1 := by
  rw [zsg_bit, zback_b]
  simp
/-- a result of the v-th view that is told -/
def zgd (v : Nat) (x : Int64) : Prop := ¬ x = 0 ∧ zvw x = v ∧ zsg x = 1
theorem zro_bv {a b f t : Int} {y : Int32} : (zro a b f t y).toBitVec = ((((((576460752303423488#64) ||| ((((BitVec.ofInt 32 a &&& BitVec.ofInt 32 7).signExtend 64)) <<< 56)) ||| ((((BitVec.ofInt 32 b &&& BitVec.ofInt 32 7).signExtend 64)) <<< 53)) ||| ((((BitVec.ofInt 32 f &&& BitVec.ofInt 32 1023).signExtend 64)) <<< 43)) ||| ((((BitVec.ofInt 32 (t + 1) &&& BitVec.ofInt 32 2047).signExtend 64)) <<< 32)) ||| (y.toBitVec.signExtend 64 &&& 4294967295#64)) := rfl
theorem zro_b56 {a b f t : Int} {y : Int32} : zb (zro a b f t y) 56 = (BitVec.ofInt 32 a).getLsbD 0 := by
  show (zro a b f t y).toBitVec.getLsbD 56 = _
  rw [zro_bv]
  simp only [BitVec.getLsbD_or, BitVec.getLsbD_shiftLeft, BitVec.getLsbD_signExtend, BitVec.getLsbD_and]
  have h1 : (576460752303423488#64).getLsbD 56 = false := by decide
  have h2 : (4294967295#64).getLsbD 56 = false := by decide
  have h3 : (BitVec.ofInt 32 7).getLsbD (56 - 53) = false := by decide
  have h4 : (BitVec.ofInt 32 1023).getLsbD (56 - 43) = false := by decide
  have h5 : (BitVec.ofInt 32 2047).getLsbD (56 - 32) = false := by decide
  have h6 : (BitVec.ofInt 32 7).getLsbD (56 - 56) = true := by decide
  rw [h1, h2]
  simp [h3, h4, h5, h6]
theorem zro_b57 {a b f t : Int} {y : Int32} : zb (zro a b f t y) 57 = (BitVec.ofInt 32 a).getLsbD 1 := by
  show (zro a b f t y).toBitVec.getLsbD 57 = _
  rw [zro_bv]
  simp only [BitVec.getLsbD_or, BitVec.getLsbD_shiftLeft, BitVec.getLsbD_signExtend, BitVec.getLsbD_and]
  have h1 : (576460752303423488#64).getLsbD 57 = false := by decide
  have h2 : (4294967295#64).getLsbD 57 = false := by decide
  have h3 : (BitVec.ofInt 32 7).getLsbD (57 - 53) = false := by decide
  have h4 : (BitVec.ofInt 32 1023).getLsbD (57 - 43) = false := by decide
  have h5 : (BitVec.ofInt 32 2047).getLsbD (57 - 32) = false := by decide
  have h6 : (BitVec.ofInt 32 7).getLsbD (57 - 56) = true := by decide
  rw [h1, h2]
  simp [h3, h4, h5, h6]
theorem zro_b58 {a b f t : Int} {y : Int32} : zb (zro a b f t y) 58 = (BitVec.ofInt 32 a).getLsbD 2 := by
  show (zro a b f t y).toBitVec.getLsbD 58 = _
  rw [zro_bv]
  simp only [BitVec.getLsbD_or, BitVec.getLsbD_shiftLeft, BitVec.getLsbD_signExtend, BitVec.getLsbD_and]
  have h1 : (576460752303423488#64).getLsbD 58 = false := by decide
  have h2 : (4294967295#64).getLsbD 58 = false := by decide
  have h3 : (BitVec.ofInt 32 7).getLsbD (58 - 53) = false := by decide
  have h4 : (BitVec.ofInt 32 1023).getLsbD (58 - 43) = false := by decide
  have h5 : (BitVec.ofInt 32 2047).getLsbD (58 - 32) = false := by decide
  have h6 : (BitVec.ofInt 32 7).getLsbD (58 - 56) = true := by decide
  rw [h1, h2]
  simp [h3, h4, h5, h6]
theorem zro_b60 {a b f t : Int} {y : Int32} : zb (zro a b f t y) 60 = false := by
  show (zro a b f t y).toBitVec.getLsbD 60 = _
  rw [zro_bv]
  simp only [BitVec.getLsbD_or, BitVec.getLsbD_shiftLeft, BitVec.getLsbD_signExtend, BitVec.getLsbD_and]
  have h1 : (576460752303423488#64).getLsbD 60 = false := by decide
  have h2 : (4294967295#64).getLsbD 60 = false := by decide
  have h3 : (BitVec.ofInt 32 7).getLsbD (60 - 53) = false := by decide
  have h4 : (BitVec.ofInt 32 1023).getLsbD (60 - 43) = false := by decide
  have h5 : (BitVec.ofInt 32 2047).getLsbD (60 - 32) = false := by decide
  have h6 : (BitVec.ofInt 32 7).getLsbD (60 - 56) = false := by decide
  rw [h1, h2]
  simp [h3, h4, h5, h6]
theorem zro_gd {v : Nat} {b f t : Int} {y : Int32} (hv : v < 5) : zgd v (zro (v : Int) b f t y) := by
  refine ⟨zro_nz, ?_, ?_⟩
  · rw [zvw_bits, zro_b56, zro_b57, zro_b58]
    match v, hv with
    | 0, _ => decide
    | 1, _ => decide
    | 2, _ => decide
    | 3, _ => decide
    | 4, _ => decide
  · rw [zsg_bit, zro_b60]
    rfl
/-- the sum of the signs of a view's outputs -/
def zsS (v : Nat) : List Int64 → Int
  | [] => 0
  | x :: r => (if zvw x = v then zsg x else 0) + zsS v r
theorem zsS_app (v : Nat) (a b : List Int64) : zsS v (a ++ b) = zsS v a + zsS v b := by
  induction a with
  | nil => exact (Int.zero_add _).symm
  | cons x r ih =>
    show _ + zsS v (r ++ b) = _ + zsS v r + zsS v b
    rw [ih]
    omega
theorem zsS_gd {v : Nat} {x : Int64} (h : zgd v x) (u : Nat) : zsS u [x] = if u = v then 1 else 0 := by
  show (if zvw x = u then zsg x else 0) + 0 = _
  rw [h.2.1, h.2.2]
  by_cases hu : v = u
  · rw [if_pos hu, if_pos hu.symm]; rfl
  · rw [if_neg hu, if_neg (fun z => hu z.symm)]; rfl
theorem zsS_bk {v : Nat} {x : Int64} (h : zgd v x) (u : Nat) : zsS u [zback x] = if u = v then -1 else 0 := by
  show (if zvw (zback x) = u then zsg (zback x) else 0) + 0 = _
  rw [zback_vw, zback_sg, h.2.1]
  by_cases hu : v = u
  · rw [if_pos hu, if_pos hu.symm]; rfl
  · rw [if_neg hu, if_neg (fun z => hu z.symm)]; rfl
theorem zsgs_eq (i : Nat) : ∀ (l : List Int64) (a : Int32), zsgs i l a = a + Int32.ofInt (zsS i l) := by
  intro l
  induction l with
  | nil => intro a; show a = a + Int32.ofInt 0; exact (Int32.add_zero a).symm
  | cons x r ih =>
    intro a
    show zsgs i r (a + (if zvw x = i then Int32.ofInt (zsg x) else Int32.ofInt 0)) = _
    rw [ih]
    show _ = a + Int32.ofInt ((if zvw x = i then zsg x else 0) + zsS i r)
    rw [Int32.ofInt_add, Int32.add_assoc]
    split <;> rfl
theorem zcp_eq {v : Nat} (hv : v < 5) : ∀ (l : List Int64) (ps : Nat → Int32), zcp l ps v = ps v + Int32.ofInt (zsS v l) := by
  intro l
  induction l with
  | nil => intro ps; show ps v = ps v + Int32.ofInt 0; exact (Int32.add_zero _).symm
  | cons x r ih =>
    intro ps
    show zcp r (zcp1 ps x) v = _
    rw [ih]
    show _ = ps v + Int32.ofInt ((if zvw x = v then zsg x else 0) + zsS v r)
    rw [Int32.ofInt_add, ← Int32.add_assoc]
    congr 1
    unfold zcp1
    by_cases h : zvw x = v
    · rw [if_pos (by omega), if_pos h]
      show (if v = zvw x then ps (zvw x) + _ else ps v) = _
      rw [if_pos h.symm, h]
    · rw [if_neg h]
      rw [show ps v + Int32.ofInt 0 = ps v from Int32.add_zero _]
      split
      · show (if v = zvw x then ps (zvw x) + _ else ps v) = _
        rw [if_neg (fun z => h z.symm)]
      · rfl
/-- all that is told is of the view -/
def zGo (v : Nat) (fa : Nat → Int64) : Prop := ∀ k, fa k = 0 ∨ zgd v (fa k)
/-- what a view's telling does: outputs are put behind, their signs are what is told more -/
def zTs (v L B : Nat) (T T1 : (Nat → Int64) × List Int64) : Prop := zGo v T.1 → zGo v T1.1 ∧ ∃ o, T1.2 = T.2 ++ o ∧ o.length ≤ B ∧ (∀ u, u ≠ v → zsS u o = 0) ∧ zsS v o + (zcnt T.1 L : Int) = (zcnt T1.1 L : Int)
theorem zTs.rf {v L B : Nat} {T : (Nat → Int64) × List Int64} : zTs v L B T T := fun h => ⟨h, [], (List.append_nil _).symm, Nat.zero_le _, fun _ _ => rfl, Int.zero_add _⟩
theorem zTs.tr {v L B B2 : Nat} {T T1 T2 : (Nat → Int64) × List Int64} (a : zTs v L B T T1) (b : zTs v L B2 T1 T2) : zTs v L (B + B2) T T2 := fun h => by
  obtain ⟨h1, o1, a1, a2, a3, a4⟩ := a h
  obtain ⟨h2, o2, b1, b2, b3, b4⟩ := b h1
  refine ⟨h2, o1 ++ o2, by rw [b1, a1, List.append_assoc], by rw [List.length_append]; omega, fun u hu => by rw [zsS_app, a3 u hu, b3 u hu]; rfl, by rw [zsS_app]; omega⟩
theorem zTs.le {v L B B2 : Nat} {T T1 : (Nat → Int64) × List Int64} (a : zTs v L B T T1) (h : B ≤ B2) : zTs v L B2 T T1 := fun hg => by
  obtain ⟨h1, o1, a1, a2, a3, a4⟩ := a hg
  exact ⟨h1, o1, a1, by omega, a3, a4⟩
theorem zGo.set {v k : Nat} {fa : Nat → Int64} {y : Int64} (h : zGo v fa) (hy : y = 0 ∨ zgd v y) : zGo v (zfi fa k y) := fun j => by
  show (if j = k then y else fa j) = 0 ∨ zgd v (if j = k then y else fa j)
  split
  · exact hy
  · exact h j
/-- to take back -/
theorem zTs.back {v L k : Nat} {fa : Nat → Int64} {out : List Int64} (hk : k < L) : zTs v L 1 (fa, out) (zbkF fa k, out ++ zbkL fa k) := fun h => by
  unfold zbkF zbkL
  by_cases h0 : fa k = 0
  · rw [if_pos h0, if_pos h0]
    exact ⟨h, [], rfl, Nat.zero_le _, fun _ _ => rfl, Int.zero_add _⟩
  · rw [if_neg h0, if_neg h0]
    have hg : zgd v (fa k) := by
      rcases h k with z | z
      · exact absurd z h0
      · exact z
    refine ⟨h.set (Or.inl rfl), [zback (fa k)], rfl, Nat.le_refl _, fun u hu => by rw [zsS_bk hg, if_neg hu], ?_⟩
    have := zcnt_set (f := fa) (n := L) (k := k) (x := 0) hk
    rw [if_neg h0, if_pos rfl] at this
    rw [zsS_bk hg, if_pos rfl]
    show -1 + (zcnt fa L : Int) = (zcnt (zfi fa k 0) L : Int)
    omega
/-- to tell where nothing is told -/
theorem zTs.tell {v L k : Nat} {fa : Nat → Int64} {out : List Int64} {y : Int64} (hk : k < L) (h0 : fa k = 0) (hy : zgd v y) : zTs v L 1 (fa, out) (zfi fa k y, out ++ [y]) := fun h => by
  refine ⟨h.set (Or.inr hy), [y], rfl, Nat.le_refl _, fun u hu => by rw [zsS_gd hy, if_neg hu], ?_⟩
  have := zcnt_set (f := fa) (n := L) (k := k) (x := y) hk
  rw [if_pos h0, if_neg hy.1] at this
  rw [zsS_gd hy, if_pos rfl]
  show 1 + (zcnt fa L : Int) = (zcnt (zfi fa k y) L : Int)
  omega
/-- to tell anew -/
theorem zTs.anew {v L k j : Nat} {fa : Nat → Int64} {out : List Int64} {y : Int64} (hk : k < L) (hj : j < L) (h0 : j = k ∨ fa j = 0) (hy : zgd v y) : zTs v L 2 (fa, out) (zanF fa k j y, out ++ zanL fa k y) := by
  unfold zanF zanL
  by_cases he : fa k = y
  · rw [if_pos he, if_pos he, List.append_nil]
    exact zTs.rf
  · rw [if_neg he, if_neg he, ← List.append_assoc]
    refine (zTs.back hk).tr (zTs.tell hj ?_ hy)
    unfold zbkF
    split
    next hz =>
      rcases h0 with z | z
      · rw [z]; exact hz
      · exact z
    next hz =>
      show (if j = k then (0 : Int64) else fa j) = 0
      split
      · rfl
      next hne =>
        rcases h0 with z | z
        · exact absurd z hne
        · exact z
/-- what is told behind telling anew in the same slot -/
theorem zanF_at {fa : Nat → Int64} {k : Nat} {y : Int64} (j : Nat) : zanF fa k k y j = if j = k then y else fa j := by
  unfold zanF zbkF
  by_cases he : fa k = y
  · rw [if_pos he]
    split
    next h => rw [h, he]
    next => rfl
  · rw [if_neg he]
    show (if j = k then y else (if fa k = 0 then fa else zfi fa k 0) j) = _
    by_cases hj : j = k
    · rw [if_pos hj, if_pos hj]
    · rw [if_neg hj, if_neg hj]
      split
      · rfl
      · exact if_neg hj
end YB0
