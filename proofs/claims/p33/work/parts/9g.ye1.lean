set_option maxRecDepth 100000
section YD9g
variable {d : Nat} {Q : xR → Nat → Nat → xH → Prop}
/-- a number's lowest bits -/
def zmsk (x : Int32) (m : Nat) : Nat := (x.toBitVec &&& BitVec.ofNat 32 m).toNat
theorem zmsk_le (x : Int32) {m : Nat} (hm : m < 4294967296) : zmsk x m ≤ m := by
  unfold zmsk
  rw [BitVec.toNat_and, BitVec.toNat_ofNat, Nat.mod_eq_of_lt (by omega)]
  exact Nat.and_le_right
theorem zmsk_eq (x : Int32) (m : Nat) : x &&& Int32.ofInt (m : Int) = Int32.ofInt ((zmsk x m : Nat) : Int) := by
  apply Int32.toBitVec_inj.mp
  show x.toBitVec &&& (Int32.ofInt (m : Int)).toBitVec = BitVec.ofInt 32 ((zmsk x m : Nat) : Int)
  rw [BitVec.ofInt_natCast]
  unfold zmsk
  rw [BitVec.ofNat_toNat, BitVec.setWidth_eq]
  show x.toBitVec &&& BitVec.ofInt 32 (m : Int) = _
  rw [BitVec.ofInt_natCast]
def zsh (x : Int64) (k : Int) : Int32 := Int64.toInt32 ((Int64.toUInt64 x >>> (Int64.toUInt64 (Int32.toInt64 (Int32.ofInt k)) &&& Int64.toUInt64 63)).toInt64)
/-- a result's view, key, from; an output's sign -/
def zvw (x : Int64) : Nat := zmsk (zsh x 56) 7
def zky (x : Int64) : Nat := zmsk (zsh x 53) 7
def zfm (x : Int64) : Nat := zmsk (zsh x 43) 1023
def zsg (x : Int64) : Int := if x &&& Int64.ofNat 1152921504606846976 = 0 then 1 else -1
theorem zvw_le (x : Int64) : zvw x ≤ 7 := zmsk_le _ (by omega)
theorem zky_le (x : Int64) : zky x ≤ 7 := zmsk_le _ (by omega)
theorem zfm_le (x : Int64) : zfm x ≤ 1023 := zmsk_le _ (by omega)
theorem s_viewIn {c s : Nat} {h : xH} {x : Int64} (q : Q (.inl (some (zi (zvw x : Int)))) c s h) : zX d 15 0 [(0, .inl (.long x))] [] c s h Q := by
  refine zX.sn 1 (pc2 := 1) (l2 := [(0, .inl (.long x))]) (st2 := [.inl (.long x)]) rfl ?_
  refine zX.sn 1 (pc2 := 3) (l2 := [(0, .inl (.long x))]) (st2 := [zi 56, .inl (.long x)]) rfl ?_
  refine zX.sn 1 (pc2 := 4) (l2 := [(0, .inl (.long x))]) (st2 := [.inl (.long ((Int64.toUInt64 x >>> (Int64.toUInt64 (Int32.toInt64 (Int32.ofInt 56)) &&& Int64.toUInt64 63)).toInt64))]) rfl ?_
  refine zX.sn 1 (pc2 := 5) (l2 := [(0, .inl (.long x))]) (st2 := [.inl (.int (Int64.toInt32 ((Int64.toUInt64 x >>> (Int64.toUInt64 (Int32.toInt64 (Int32.ofInt 56)) &&& Int64.toUInt64 63)).toInt64)))]) rfl ?_
  refine zX.sn 1 (pc2 := 7) (l2 := [(0, .inl (.long x))]) (st2 := [zi 7, .inl (.int (Int64.toInt32 ((Int64.toUInt64 x >>> (Int64.toUInt64 (Int32.toInt64 (Int32.ofInt 56)) &&& Int64.toUInt64 63)).toInt64)))]) rfl ?_
  refine zX.sn 1 (pc2 := 8) (l2 := [(0, .inl (.long x))]) (st2 := [.inl (.int ((Int64.toInt32 ((Int64.toUInt64 x >>> (Int64.toUInt64 (Int32.toInt64 (Int32.ofInt 56)) &&& Int64.toUInt64 63)).toInt64)) &&& (Int32.ofInt 7)))]) rfl ?_
  have hz : ((.inl (.int (zsh x 56 &&& Int32.ofInt ((7 : Nat) : Int))) : xV)) = zi (zvw x : Int) := congrArg (fun z => (.inl (.int z) : xV)) (zmsk_eq _ _)
  show zX _ 15 8 [(0, .inl (.long x))] [.inl (.int (zsh x 56 &&& Int32.ofInt ((7 : Nat) : Int)))] c s h _
  rw [hz]
  refine zX.ret rfl rfl ?_
  exact q
theorem s_keyIn {c s : Nat} {h : xH} {x : Int64} (q : Q (.inl (some (zi (zky x : Int)))) c s h) : zX d 16 0 [(0, .inl (.long x))] [] c s h Q := by
  refine zX.sn 1 (pc2 := 1) (l2 := [(0, .inl (.long x))]) (st2 := [.inl (.long x)]) rfl ?_
  refine zX.sn 1 (pc2 := 3) (l2 := [(0, .inl (.long x))]) (st2 := [zi 53, .inl (.long x)]) rfl ?_
  refine zX.sn 1 (pc2 := 4) (l2 := [(0, .inl (.long x))]) (st2 := [.inl (.long ((Int64.toUInt64 x >>> (Int64.toUInt64 (Int32.toInt64 (Int32.ofInt 53)) &&& Int64.toUInt64 63)).toInt64))]) rfl ?_
  refine zX.sn 1 (pc2 := 5) (l2 := [(0, .inl (.long x))]) (st2 := [.inl (.int (Int64.toInt32 ((Int64.toUInt64 x >>> (Int64.toUInt64 (Int32.toInt64 (Int32.ofInt 53)) &&& Int64.toUInt64 63)).toInt64)))]) rfl ?_
  refine zX.sn 1 (pc2 := 7) (l2 := [(0, .inl (.long x))]) (st2 := [zi 7, .inl (.int (Int64.toInt32 ((Int64.toUInt64 x >>> (Int64.toUInt64 (Int32.toInt64 (Int32.ofInt 53)) &&& Int64.toUInt64 63)).toInt64)))]) rfl ?_
  refine zX.sn 1 (pc2 := 8) (l2 := [(0, .inl (.long x))]) (st2 := [.inl (.int ((Int64.toInt32 ((Int64.toUInt64 x >>> (Int64.toUInt64 (Int32.toInt64 (Int32.ofInt 53)) &&& Int64.toUInt64 63)).toInt64)) &&& (Int32.ofInt 7)))]) rfl ?_
  have hz : ((.inl (.int (zsh x 53 &&& Int32.ofInt ((7 : Nat) : Int))) : xV)) = zi (zky x : Int) := congrArg (fun z => (.inl (.int z) : xV)) (zmsk_eq _ _)
  show zX _ 16 8 [(0, .inl (.long x))] [.inl (.int (zsh x 53 &&& Int32.ofInt ((7 : Nat) : Int)))] c s h _
  rw [hz]
  refine zX.ret rfl rfl ?_
  exact q
theorem s_fromIn {c s : Nat} {h : xH} {x : Int64} (q : Q (.inl (some (zi (zfm x : Int)))) c s h) : zX d 17 0 [(0, .inl (.long x))] [] c s h Q := by
  refine zX.sn 1 (pc2 := 1) (l2 := [(0, .inl (.long x))]) (st2 := [.inl (.long x)]) rfl ?_
  refine zX.sn 1 (pc2 := 3) (l2 := [(0, .inl (.long x))]) (st2 := [zi 43, .inl (.long x)]) rfl ?_
  refine zX.sn 1 (pc2 := 4) (l2 := [(0, .inl (.long x))]) (st2 := [.inl (.long ((Int64.toUInt64 x >>> (Int64.toUInt64 (Int32.toInt64 (Int32.ofInt 43)) &&& Int64.toUInt64 63)).toInt64))]) rfl ?_
  refine zX.sn 1 (pc2 := 5) (l2 := [(0, .inl (.long x))]) (st2 := [.inl (.int (Int64.toInt32 ((Int64.toUInt64 x >>> (Int64.toUInt64 (Int32.toInt64 (Int32.ofInt 43)) &&& Int64.toUInt64 63)).toInt64)))]) rfl ?_
  refine zX.sn 1 (pc2 := 8) (l2 := [(0, .inl (.long x))]) (st2 := [zi 1023, .inl (.int (Int64.toInt32 ((Int64.toUInt64 x >>> (Int64.toUInt64 (Int32.toInt64 (Int32.ofInt 43)) &&& Int64.toUInt64 63)).toInt64)))]) rfl ?_
  refine zX.sn 1 (pc2 := 9) (l2 := [(0, .inl (.long x))]) (st2 := [.inl (.int ((Int64.toInt32 ((Int64.toUInt64 x >>> (Int64.toUInt64 (Int32.toInt64 (Int32.ofInt 43)) &&& Int64.toUInt64 63)).toInt64)) &&& (Int32.ofInt 1023)))]) rfl ?_
  have hz : ((.inl (.int (zsh x 43 &&& Int32.ofInt ((1023 : Nat) : Int))) : xV)) = zi (zfm x : Int) := congrArg (fun z => (.inl (.int z) : xV)) (zmsk_eq _ _)
  show zX _ 17 9 [(0, .inl (.long x))] [.inl (.int (zsh x 43 &&& Int32.ofInt ((1023 : Nat) : Int)))] c s h _
  rw [hz]
  refine zX.ret rfl rfl ?_
  exact q
theorem s_signIn {c s : Nat} {h : xH} {x : Int64} (q : Q (.inl (some (zi (zsg x)))) c s h) : zX d 20 0 [(0, .inl (.long x))] [] c s h Q := by
  refine zX.sn 1 (pc2 := 1) (l2 := [(0, .inl (.long x))]) (st2 := [.inl (.long x)]) rfl ?_
  refine zX.s2 [] (pc2 := 4) (l2 := [(0, .inl (.long x))]) (st2 := [.inl (.long (Int64.ofNat 1152921504606846976)), .inl (.long x)]) ⟨rfl, rfl⟩ (fun _ => rfl) rfl (fun _ => rfl) ?_
  refine zX.sn 1 (pc2 := 5) (l2 := [(0, .inl (.long x))]) (st2 := [.inl (.long (x &&& (Int64.ofNat 1152921504606846976)))]) rfl ?_
  refine zX.sn 1 (pc2 := 6) (l2 := [(0, .inl (.long x))]) (st2 := [.inl (.long 0), .inl (.long (x &&& (Int64.ofNat 1152921504606846976)))]) rfl ?_
  refine zX.sn 1 (pc2 := 7) (l2 := [(0, .inl (.long x))]) (st2 := [.inl (.int (lg_cmp (x &&& (Int64.ofNat 1152921504606846976)) 0))]) rfl ?_
  refine zX.lne (tgt := 14) ⟨rfl, rfl⟩ rfl (fun (z : ¬ (x &&& (Int64.ofNat 1152921504606846976)) = 0) => ?_) (fun (z : (x &&& (Int64.ofNat 1152921504606846976)) = 0) => ?_)
  · refine zX.sn 1 (pc2 := 15) (l2 := [(0, .inl (.long x))]) (st2 := [zi (-1)]) rfl ?_
    refine zX.ret rfl rfl ?_
    rw [show zsg x = (-1) from if_neg z] at q
    exact q
  · refine zX.sn 1 (pc2 := 11) (l2 := [(0, .inl (.long x))]) (st2 := [zi 1]) rfl ?_
    refine zX.sn 1 (pc2 := 15) (l2 := [(0, .inl (.long x))]) (st2 := [zi 1]) rfl ?_
    refine zX.ret rfl rfl ?_
    rw [show zsg x = 1 from if_pos z] at q
    exact q
abbrev zhK (x : Int64) (k : Int) : Prop := ¬ x = 0 ∧ (zky x : Int) = k
theorem s_hasKey {c s : Nat} {h : xH} {x : Int64} {k : Int} (hk : 0 ≤ k ∧ k < 1000) (q0 : ¬ zhK x k → Q (.inl (some (zi 0))) c s h) (q1 : zhK x k → Q (.inl (some (zi 1))) c s h) : zX (d + 1) 33 0 [(0, .inl (.long x)), (2, zi k)] [] c s h Q := by
  refine zX.sn 1 (pc2 := 1) (l2 := [(0, .inl (.long x)), (2, zi k)]) (st2 := [.inl (.long x)]) rfl ?_
  refine zX.sn 1 (pc2 := 2) (l2 := [(0, .inl (.long x)), (2, zi k)]) (st2 := [.inl (.long 0), .inl (.long x)]) rfl ?_
  refine zX.sn 1 (pc2 := 3) (l2 := [(0, .inl (.long x)), (2, zi k)]) (st2 := [.inl (.int (lg_cmp x 0))]) rfl ?_
  refine zX.leq (tgt := 18) ⟨rfl, rfl⟩ rfl (fun (z : x = 0) => ?_) (fun (z : ¬ x = 0) => ?_)
  · refine zX.sn 1 (pc2 := 19) (l2 := [(0, .inl (.long x)), (2, zi k)]) (st2 := [zi 0]) rfl ?_
    refine zX.ret rfl (zret_z rfl (by decide)) ?_
    exact q0 (fun y => y.1 z)
  · refine zX.sn 1 (pc2 := 7) (l2 := [(0, .inl (.long x)), (2, zi k)]) (st2 := [.inl (.long x)]) rfl ?_
    refine zX.call (mid2 := 16) (as := [.inl (.long x)]) (rest := []) ⟨rfl, rfl⟩ (fun _ => rfl) rfl ⟨Nat.le_of_ble_eq_true rfl, Nat.le_of_ble_eq_true rfl⟩ ?_
    refine s_keyIn ?_
    show zX _ 33 10 [(0, .inl (.long x)), (2, zi k)] [zi (zky x : Int)] c s _ _
    refine zX.sn 1 (pc2 := 11) (l2 := [(0, .inl (.long x)), (2, zi k)]) (st2 := [zi k, zi (zky x : Int)]) rfl ?_
    have hk7 := zky_le x
    refine zX.icmp (tgt := 18) ⟨rfl, rfl⟩ rfl (by omega) (by omega) (fun (z2 : ¬ (zky x : Int) = k) => ?_) (fun (z2 : (zky x : Int) = k) => ?_)
    · refine zX.sn 1 (pc2 := 19) (l2 := [(0, .inl (.long x)), (2, zi k)]) (st2 := [zi 0]) rfl ?_
      refine zX.ret rfl (zret_z rfl (by decide)) ?_
      exact q0 (fun y => z2 y.2)
    · refine zX.sn 1 (pc2 := 15) (l2 := [(0, .inl (.long x)), (2, zi k)]) (st2 := [zi 1]) rfl ?_
      refine zX.sn 1 (pc2 := 19) (l2 := [(0, .inl (.long x)), (2, zi k)]) (st2 := [zi 1]) rfl ?_
      refine zX.ret rfl (zret_z rfl (by decide)) ?_
      exact q1 ⟨z, z2⟩
/-- how many results of a key are told, from the i-th slot on -/
def zck (fa : Nat → Int64) (k : Int) : Nat → Nat → Nat → Nat
  | 0, _, a => a
  | n + 1, i, a => zck fa k n (i + 1) (if zhK (fa i) k then a + 1 else a)
theorem zck_le {fa : Nat → Int64} {k : Int} : ∀ n i a, zck fa k n i a ≤ a + n := by
  intro n
  induction n with
  | zero => intro i a; exact Nat.le_refl _
  | succ n ih =>
    intro i a
    have h1 := ih (i + 1) (if zhK (fa i) k then a + 1 else a)
    show zck fa k n (i + 1) (if zhK (fa i) k then a + 1 else a) ≤ _
    split at h1
    · rw [if_pos (by assumption)]; omega
    · rw [if_neg (by assumption)]; omega
theorem zck_9 {fa : Nat → Int64} : ∀ n i a, zck fa 9 n i a = a := by
  intro n
  induction n with
  | zero => intro i a; rfl
  | succ n ih =>
    intro i a
    have h7 := zky_le (fa i)
    show zck fa 9 n (i + 1) (if zhK (fa i) 9 then a + 1 else a) = a
    rw [if_neg (fun z => by have := z.2; omega)]
    exact ih _ _
theorem l_countOf {ro i0 L c s : Nat} {fa : Nat → Int64} {h : xH} {k : Int} (h0 : 0 < ro) (hL : L ≤ 67108864) (hk : 0 ≤ k ∧ k < 1000) (hR : zRes h ro i0 L fa) : ∀ n i a : Nat, i + n = L → a ≤ i → Q (.inl (some (zi (zck fa k n i a : Int)))) c s h → zX (d + 2) 29 4 [(0, .inr (ro, i0)), (1, zi k), (2, zi (a : Int)), (3, zi (i : Int))] [] c s h Q := by
  intro n
  induction n with
  | zero =>
    intro i a hi ha q
    refine zX.sn 1 (pc2 := 5) (l2 := [(0, .inr (ro, i0)), (1, zi k), (2, zi (a : Int)), (3, zi (i : Int))]) (st2 := [zi (i : Int)]) rfl ?_
    refine zX.sn 1 (pc2 := 6) (l2 := [(0, .inr (ro, i0)), (1, zi k), (2, zi (a : Int)), (3, zi (i : Int))]) (st2 := [.inr (ro, i0), zi (i : Int)]) rfl ?_
    refine zX.getf ⟨rfl, rfl⟩ hR.1 rfl rfl ?_
    refine zX.alen ⟨rfl, rfl⟩ hR.2.1 ?_
    refine zX.icmp (tgt := 35) ⟨rfl, rfl⟩ rfl (by omega) (by omega) (fun _ => ?_) (fun (zz : (i : Int) < (L : Int)) => absurd zz (by omega))
    refine zX.sn 1 (pc2 := 36) (l2 := [(0, .inr (ro, i0)), (1, zi k), (2, zi (a : Int)), (3, zi (i : Int))]) (st2 := [zi (a : Int)]) rfl ?_
    refine zX.ret rfl rfl ?_
    exact q
  | succ n ih =>
    intro i a hi ha q
    refine zX.sn 1 (pc2 := 5) (l2 := [(0, .inr (ro, i0)), (1, zi k), (2, zi (a : Int)), (3, zi (i : Int))]) (st2 := [zi (i : Int)]) rfl ?_
    refine zX.sn 1 (pc2 := 6) (l2 := [(0, .inr (ro, i0)), (1, zi k), (2, zi (a : Int)), (3, zi (i : Int))]) (st2 := [.inr (ro, i0), zi (i : Int)]) rfl ?_
    refine zX.getf ⟨rfl, rfl⟩ hR.1 rfl rfl ?_
    refine zX.alen ⟨rfl, rfl⟩ hR.2.1 ?_
    refine zX.icmp (tgt := 35) ⟨rfl, rfl⟩ rfl (by omega) (by omega) (fun (zz : (L : Int) ≤ (i : Int)) => absurd zz (by omega)) (fun _ => ?_)
    refine zX.sn 1 (pc2 := 14) (l2 := [(0, .inr (ro, i0)), (1, zi k), (2, zi (a : Int)), (3, zi (i : Int))]) (st2 := [.inr (ro, i0)]) rfl ?_
    refine zX.getf ⟨rfl, rfl⟩ hR.1 rfl rfl ?_
    refine zX.sn 1 (pc2 := 18) (l2 := [(0, .inr (ro, i0)), (1, zi k), (2, zi (a : Int)), (3, zi (i : Int))]) (st2 := [zi (i : Int), .inr (ro + 1, i0)]) rfl ?_
    refine zX.lald (j := i) ⟨rfl, rfl⟩ hR.2.1 rfl (by omega) (by omega) ?_
    show zX _ 29 19 [(0, .inr (ro, i0)), (1, zi k), (2, zi (a : Int)), (3, zi (i : Int))] [.inl (.long (fa i))] c s _ _
    refine zX.sn 1 (pc2 := 20) (l2 := [(0, .inr (ro, i0)), (1, zi k), (2, zi (a : Int)), (3, zi (i : Int))]) (st2 := [zi k, .inl (.long (fa i))]) rfl ?_
    have stp : zck fa k (n + 1) i a = zck fa k n (i + 1) (if zhK (fa i) k then a + 1 else a) := rfl
    rw [stp] at q
    refine zX.call (mid2 := 33) (as := [.inl (.long (fa i)), zi k]) (rest := []) ⟨rfl, rfl⟩ (fun _ => rfl) rfl ⟨Nat.le_of_ble_eq_true rfl, Nat.le_of_ble_eq_true rfl⟩ ?_
    refine s_hasKey (d := d) hk (fun z => ?_) (fun z => ?_)
    · show zX _ 29 23 [(0, .inr (ro, i0)), (1, zi k), (2, zi (a : Int)), (3, zi (i : Int))] [zi 0] c s _ _
      refine zX.icmp0 (x := 0) (tgt := 29) ⟨rfl, rfl⟩ rfl (by omega) (fun _ => ?_) (fun (zz : ¬ (0 : Int) = 0) => absurd zz (by omega))
      refine zX.s1 (pc2 := 32) (l2 := [(3, zi ((i : Int) + 1)), (0, .inr (ro, i0)), (1, zi k), (2, zi (a : Int))]) (st2 := []) ⟨rfl, rfl⟩ (by rw [show (zi ((i : Int) + 1) : xV) = .inl (.int (Int32.ofInt (i : Int) + 1)) from congrArg (fun z => (.inl (.int z) : xV)) (Int32.ofInt_add _ _)]; rfl) ?_
      refine zX.sn 1 (pc2 := 4) (l2 := [(3, zi ((i : Int) + 1)), (0, .inr (ro, i0)), (1, zi k), (2, zi (a : Int))]) (st2 := []) rfl ?_
      refine zX.re [(0, .inr (ro, i0)), (1, zi k), (2, zi (a : Int)), (3, zi ((i : Int) + 1))] [1, 2, 3, 0] [3, 0, 1, 2] rfl rfl (by decide) ?_
      rw [if_neg z] at q
      exact ih (i + 1) a (by omega) (by omega) q
    · show zX _ 29 23 [(0, .inr (ro, i0)), (1, zi k), (2, zi (a : Int)), (3, zi (i : Int))] [zi 1] c s _ _
      refine zX.icmp0 (x := 1) (tgt := 29) ⟨rfl, rfl⟩ rfl (by omega) (fun (zz : (1 : Int) = 0) => absurd zz (by omega)) (fun _ => ?_)
      refine zX.s1 (pc2 := 29) (l2 := [(2, zi ((a : Int) + 1)), (0, .inr (ro, i0)), (1, zi k), (3, zi (i : Int))]) (st2 := []) ⟨rfl, rfl⟩ (by rw [show (zi ((a : Int) + 1) : xV) = .inl (.int (Int32.ofInt (a : Int) + 1)) from congrArg (fun z => (.inl (.int z) : xV)) (Int32.ofInt_add _ _)]; rfl) ?_
      refine zX.s1 (pc2 := 32) (l2 := [(3, zi ((i : Int) + 1)), (2, zi ((a : Int) + 1)), (0, .inr (ro, i0)), (1, zi k)]) (st2 := []) ⟨rfl, rfl⟩ (by rw [show (zi ((i : Int) + 1) : xV) = .inl (.int (Int32.ofInt (i : Int) + 1)) from congrArg (fun z => (.inl (.int z) : xV)) (Int32.ofInt_add _ _)]; rfl) ?_
      refine zX.sn 1 (pc2 := 4) (l2 := [(3, zi ((i : Int) + 1)), (2, zi ((a : Int) + 1)), (0, .inr (ro, i0)), (1, zi k)]) (st2 := []) rfl ?_
      refine zX.re [(0, .inr (ro, i0)), (1, zi k), (2, zi ((a : Int) + 1)), (3, zi ((i : Int) + 1))] [2, 3, 1, 0] [3, 2, 0, 1] rfl rfl (by decide) ?_
      rw [if_pos z] at q
      exact ih (i + 1) (a + 1) (by omega) (by omega) q
theorem s_countOf {ro i0 L c s : Nat} {fa : Nat → Int64} {h : xH} {k : Int} (h0 : 0 < ro) (hL : L ≤ 67108864) (hk : 0 ≤ k ∧ k < 1000) (hR : zRes h ro i0 L fa) (q : Q (.inl (some (zi (zck fa k L 0 0 : Int)))) c s h) : zX (d + 2) 29 0 [(0, .inr (ro, i0)), (1, zi k)] [] c s h Q := by
  refine zX.sn 1 (pc2 := 1) (l2 := [(0, .inr (ro, i0)), (1, zi k)]) (st2 := [zi 0]) rfl ?_
  refine zX.sn 1 (pc2 := 2) (l2 := [(2, zi 0), (0, .inr (ro, i0)), (1, zi k)]) (st2 := []) rfl ?_
  refine zX.sn 1 (pc2 := 3) (l2 := [(2, zi 0), (0, .inr (ro, i0)), (1, zi k)]) (st2 := [zi 0]) rfl ?_
  refine zX.sn 1 (pc2 := 4) (l2 := [(3, zi 0), (2, zi 0), (0, .inr (ro, i0)), (1, zi k)]) (st2 := []) rfl ?_
  refine zX.re [(0, .inr (ro, i0)), (1, zi k), (2, zi 0), (3, zi 0)] [2, 3, 1, 0] [3, 2, 0, 1] rfl rfl (by decide) ?_
  exact l_countOf h0 hL hk hR L 0 0 (by omega) (by omega) q
/-- the least from of a key's results -/
def zlf (fa : Nat → Int64) (k : Int) : Nat → Nat → Int → Int
  | 0, _, a => a
  | n + 1, i, a => zlf fa k n (i + 1) (if zhK (fa i) k then (if (zfm (fa i) : Int) < a then (zfm (fa i) : Int) else a) else a)
theorem l_leastF {ro i0 L c s : Nat} {fa : Nat → Int64} {h : xH} {k : Int} (h0 : 0 < ro) (hL : L ≤ 67108864) (hk : 0 ≤ k ∧ k < 1000) (hR : zRes h ro i0 L fa) : ∀ (n i : Nat) (a : Int), i + n = L → 0 ≤ a ∧ a ≤ 1000 → Q (.inl (some (zi (zlf fa k n i a)))) c s h → zX (d + 2) 31 6 [(0, .inr (ro, i0)), (1, zi k), (2, zi a), (3, zi (i : Int))] [] c s h Q := by
  intro n
  induction n with
  | zero =>
    intro i a hi ha q
    refine zX.sn 1 (pc2 := 7) (l2 := [(0, .inr (ro, i0)), (1, zi k), (2, zi a), (3, zi (i : Int))]) (st2 := [zi (i : Int)]) rfl ?_
    refine zX.sn 1 (pc2 := 8) (l2 := [(0, .inr (ro, i0)), (1, zi k), (2, zi a), (3, zi (i : Int))]) (st2 := [.inr (ro, i0), zi (i : Int)]) rfl ?_
    refine zX.getf ⟨rfl, rfl⟩ hR.1 rfl rfl ?_
    refine zX.alen ⟨rfl, rfl⟩ hR.2.1 ?_
    refine zX.icmp (tgt := 48) ⟨rfl, rfl⟩ rfl (by omega) (by omega) (fun _ => ?_) (fun (zz : (i : Int) < (L : Int)) => absurd zz (by omega))
    refine zX.sn 1 (pc2 := 49) (l2 := [(0, .inr (ro, i0)), (1, zi k), (2, zi a), (3, zi (i : Int))]) (st2 := [zi a]) rfl ?_
    refine zX.ret rfl rfl ?_
    exact q
  | succ n ih =>
    intro i a hi ha q
    refine zX.sn 1 (pc2 := 7) (l2 := [(0, .inr (ro, i0)), (1, zi k), (2, zi a), (3, zi (i : Int))]) (st2 := [zi (i : Int)]) rfl ?_
    refine zX.sn 1 (pc2 := 8) (l2 := [(0, .inr (ro, i0)), (1, zi k), (2, zi a), (3, zi (i : Int))]) (st2 := [.inr (ro, i0), zi (i : Int)]) rfl ?_
    refine zX.getf ⟨rfl, rfl⟩ hR.1 rfl rfl ?_
    refine zX.alen ⟨rfl, rfl⟩ hR.2.1 ?_
    refine zX.icmp (tgt := 48) ⟨rfl, rfl⟩ rfl (by omega) (by omega) (fun (zz : (L : Int) ≤ (i : Int)) => absurd zz (by omega)) (fun _ => ?_)
    refine zX.sn 1 (pc2 := 16) (l2 := [(0, .inr (ro, i0)), (1, zi k), (2, zi a), (3, zi (i : Int))]) (st2 := [.inr (ro, i0)]) rfl ?_
    refine zX.getf ⟨rfl, rfl⟩ hR.1 rfl rfl ?_
    refine zX.sn 1 (pc2 := 20) (l2 := [(0, .inr (ro, i0)), (1, zi k), (2, zi a), (3, zi (i : Int))]) (st2 := [zi (i : Int), .inr (ro + 1, i0)]) rfl ?_
    refine zX.lald (j := i) ⟨rfl, rfl⟩ hR.2.1 rfl (by omega) (by omega) ?_
    show zX _ 31 21 [(0, .inr (ro, i0)), (1, zi k), (2, zi a), (3, zi (i : Int))] [.inl (.long (fa i))] c s _ _
    refine zX.sn 1 (pc2 := 22) (l2 := [(0, .inr (ro, i0)), (1, zi k), (2, zi a), (3, zi (i : Int))]) (st2 := [zi k, .inl (.long (fa i))]) rfl ?_
    have stp : zlf fa k (n + 1) i a = zlf fa k n (i + 1) (if zhK (fa i) k then (if (zfm (fa i) : Int) < a then (zfm (fa i) : Int) else a) else a) := rfl
    rw [stp] at q
    refine zX.call (mid2 := 33) (as := [.inl (.long (fa i)), zi k]) (rest := []) ⟨rfl, rfl⟩ (fun _ => rfl) rfl ⟨Nat.le_of_ble_eq_true rfl, Nat.le_of_ble_eq_true rfl⟩ ?_
    refine s_hasKey (d := d) hk (fun z => ?_) (fun z => ?_)
    · show zX _ 31 25 [(0, .inr (ro, i0)), (1, zi k), (2, zi a), (3, zi (i : Int))] [zi 0] c s _ _
      refine zX.icmp0 (x := 0) (tgt := 42) ⟨rfl, rfl⟩ rfl (by omega) (fun _ => ?_) (fun (zz : ¬ (0 : Int) = 0) => absurd zz (by omega))
      refine zX.s1 (pc2 := 45) (l2 := [(3, zi ((i : Int) + 1)), (0, .inr (ro, i0)), (1, zi k), (2, zi a)]) (st2 := []) ⟨rfl, rfl⟩ (by rw [show (zi ((i : Int) + 1) : xV) = .inl (.int (Int32.ofInt (i : Int) + 1)) from congrArg (fun z => (.inl (.int z) : xV)) (Int32.ofInt_add _ _)]; rfl) ?_
      refine zX.sn 1 (pc2 := 6) (l2 := [(3, zi ((i : Int) + 1)), (0, .inr (ro, i0)), (1, zi k), (2, zi a)]) (st2 := []) rfl ?_
      refine zX.re [(0, .inr (ro, i0)), (1, zi k), (2, zi a), (3, zi ((i : Int) + 1))] [1, 2, 3, 0] [3, 0, 1, 2] rfl rfl (by decide) ?_
      rw [if_neg z] at q
      exact ih (i + 1) a (by omega) ha q
    · show zX _ 31 25 [(0, .inr (ro, i0)), (1, zi k), (2, zi a), (3, zi (i : Int))] [zi 1] c s _ _
      refine zX.icmp0 (x := 1) (tgt := 42) ⟨rfl, rfl⟩ rfl (by omega) (fun (zz : (1 : Int) = 0) => absurd zz (by omega)) (fun _ => ?_)
      refine zX.sn 1 (pc2 := 29) (l2 := [(0, .inr (ro, i0)), (1, zi k), (2, zi a), (3, zi (i : Int))]) (st2 := [zi a]) rfl ?_
      refine zX.sn 1 (pc2 := 30) (l2 := [(0, .inr (ro, i0)), (1, zi k), (2, zi a), (3, zi (i : Int))]) (st2 := [.inr (ro, i0), zi a]) rfl ?_
      refine zX.getf ⟨rfl, rfl⟩ hR.1 rfl rfl ?_
      refine zX.sn 1 (pc2 := 34) (l2 := [(0, .inr (ro, i0)), (1, zi k), (2, zi a), (3, zi (i : Int))]) (st2 := [zi (i : Int), .inr (ro + 1, i0), zi a]) rfl ?_
      refine zX.lald (j := i) ⟨rfl, rfl⟩ hR.2.1 rfl (by omega) (by omega) ?_
      show zX _ 31 35 [(0, .inr (ro, i0)), (1, zi k), (2, zi a), (3, zi (i : Int))] [.inl (.long (fa i)), zi a] c s _ _
      refine zX.call (mid2 := 17) (as := [.inl (.long (fa i))]) (rest := [zi a]) ⟨rfl, rfl⟩ (fun _ => rfl) rfl ⟨Nat.le_of_ble_eq_true rfl, Nat.le_of_ble_eq_true rfl⟩ ?_
      refine s_fromIn ?_
      show zX _ 31 38 [(0, .inr (ro, i0)), (1, zi k), (2, zi a), (3, zi (i : Int))] [zi (zfm (fa i) : Int), zi a] c s _ _
      have hfm := zfm_le (fa i)
      refine zX.mini ⟨rfl, rfl⟩ (by omega) (by omega) (Nat.le_of_ble_eq_true rfl) ?_
      refine zX.sn 1 (pc2 := 42) (l2 := [(2, zi (if (zfm (fa i) : Int) < a then (zfm (fa i) : Int) else a)), (0, .inr (ro, i0)), (1, zi k), (3, zi (i : Int))]) (st2 := []) rfl ?_
      refine zX.s1 (pc2 := 45) (l2 := [(3, zi ((i : Int) + 1)), (2, zi (if (zfm (fa i) : Int) < a then (zfm (fa i) : Int) else a)), (0, .inr (ro, i0)), (1, zi k)]) (st2 := []) ⟨rfl, rfl⟩ (by rw [show (zi ((i : Int) + 1) : xV) = .inl (.int (Int32.ofInt (i : Int) + 1)) from congrArg (fun z => (.inl (.int z) : xV)) (Int32.ofInt_add _ _)]; rfl) ?_
      refine zX.sn 1 (pc2 := 6) (l2 := [(3, zi ((i : Int) + 1)), (2, zi (if (zfm (fa i) : Int) < a then (zfm (fa i) : Int) else a)), (0, .inr (ro, i0)), (1, zi k)]) (st2 := []) rfl ?_
      refine zX.re [(0, .inr (ro, i0)), (1, zi k), (2, zi (if (zfm (fa i) : Int) < a then (zfm (fa i) : Int) else a)), (3, zi ((i : Int) + 1))] [2, 3, 1, 0] [3, 2, 0, 1] rfl rfl (by decide) ?_
      rw [if_pos z] at q
      exact ih (i + 1) _ (by omega) (by split <;> omega) q
theorem s_leastF {ro i0 L c s : Nat} {fa : Nat → Int64} {h : xH} {k : Int} (h0 : 0 < ro) (hL : L ≤ 67108864) (hk : 0 ≤ k ∧ k < 1000) (hR : zRes h ro i0 L fa) (q : Q (.inl (some (zi (zlf fa k L 0 1000)))) c s h) : zX (d + 2) 31 0 [(0, .inr (ro, i0)), (1, zi k)] [] c s h Q := by
  refine zX.sn 1 (pc2 := 3) (l2 := [(0, .inr (ro, i0)), (1, zi k)]) (st2 := [zi 1000]) rfl ?_
  refine zX.sn 1 (pc2 := 4) (l2 := [(2, zi 1000), (0, .inr (ro, i0)), (1, zi k)]) (st2 := []) rfl ?_
  refine zX.sn 1 (pc2 := 5) (l2 := [(2, zi 1000), (0, .inr (ro, i0)), (1, zi k)]) (st2 := [zi 0]) rfl ?_
  refine zX.sn 1 (pc2 := 6) (l2 := [(3, zi 0), (2, zi 1000), (0, .inr (ro, i0)), (1, zi k)]) (st2 := []) rfl ?_
  refine zX.re [(0, .inr (ro, i0)), (1, zi k), (2, zi 1000), (3, zi 0)] [2, 3, 1, 0] [3, 2, 0, 1] rfl rfl (by decide) ?_
  exact l_leastF h0 hL hk hR L 0 1000 (by omega) (by omega) q
theorem s_first {N capv i c s : Nat} {fs : List xV} {L : zVL} {out : List Int64} {K : zKp} {h : xH} {C : zCf} {S : zSt} {k : Int} (hk : 0 ≤ k ∧ k < 1000) (hx : L[i]? = some (C, S)) (hf : h (10, 0) = some (.inl (10, zFn fs))) (hA : zAL h 13 0 capv (zVn L)) (hV : zVa h N K L out)
    (q0 : zck S.1 k (zuL C) 0 0 = 0 → Q (.inr "java/util/NoSuchElementException") (c + 1) (s + 6) h) (q1 : ¬ zck S.1 k (zuL C) 0 0 = 0 → Q (.inl (some (zi (zlf S.1 k (zuL C) 0 1000)))) c s h) : zX (d + 9) 112 0 [(0, .inr (10, 0)), (1, zi (i : Int)), (2, zi k)] [] c s h Q := by
  refine zX.sn 1 (pc2 := 1) (l2 := [(0, .inr (10, 0)), (1, zi (i : Int)), (2, zi k)]) (st2 := [.inr (10, 0)]) rfl ?_
  refine zX.sn 1 (pc2 := 2) (l2 := [(0, .inr (10, 0)), (1, zi (i : Int)), (2, zi k)]) (st2 := [zi (i : Int), .inr (10, 0)]) rfl ?_
  refine zX.call (mid2 := 130) (as := [.inr (10, 0), zi (i : Int)]) (rest := []) ⟨rfl, rfl⟩ (fun _ => rfl) (zX.inv rfl hf rfl rfl) ⟨Nat.le_of_ble_eq_true rfl, Nat.le_of_ble_eq_true rfl⟩ ?_
  refine s_viewOf (d := d + 5) hx hf hA hV ?_
  show zX _ 112 5 [(0, .inr (10, 0)), (1, zi (i : Int)), (2, zi k)] [.inr (20, i)] c s _ _
  have hVi := hV.2.2 i C S hx
  obtain ⟨fs2, ho, hc, f6, f7, f9⟩ := hVi.of9
  have hb := hVi.big
  have ht := hVi.told
  refine zX.getf ⟨rfl, rfl⟩ ho (by rcases hc with z | z | z | z <;> (rw [z]; rfl)) f6 ?_
  refine zX.sn 1 (pc2 := 9) (l2 := [(3, .inr (21, i)), (0, .inr (10, 0)), (1, zi (i : Int)), (2, zi k)]) (st2 := []) rfl ?_
  refine zX.sn 1 (pc2 := 10) (l2 := [(3, .inr (21, i)), (0, .inr (10, 0)), (1, zi (i : Int)), (2, zi k)]) (st2 := [.inr (21, i)]) rfl ?_
  refine zX.sn 1 (pc2 := 11) (l2 := [(3, .inr (21, i)), (0, .inr (10, 0)), (1, zi (i : Int)), (2, zi k)]) (st2 := [zi k, .inr (21, i)]) rfl ?_
  refine zX.call (mid2 := 29) (as := [.inr (21, i), zi k]) (rest := []) ⟨rfl, rfl⟩ (fun _ => rfl) (zX.inv rfl ht.1 rfl rfl) ⟨Nat.le_of_ble_eq_true rfl, Nat.le_of_ble_eq_true rfl⟩ ?_
  refine s_countOf (d := d + 6) (by omega) hb hk ht ?_
  show zX _ 112 14 [(3, .inr (21, i)), (0, .inr (10, 0)), (1, zi (i : Int)), (2, zi k)] [zi (zck S.1 k (zuL C) 0 0 : Int)] c s _ _
  have hcl := zck_le (fa := S.1) (k := k) (zuL C) 0 0
  refine zX.icmp0 (tgt := 27) ⟨rfl, rfl⟩ rfl (by omega) (fun (z : ¬ (zck S.1 k (zuL C) 0 0 : Int) = 0) => ?_) (fun (z : (zck S.1 k (zuL C) 0 0 : Int) = 0) => ?_)
  · refine zX.sn 1 (pc2 := 28) (l2 := [(3, .inr (21, i)), (0, .inr (10, 0)), (1, zi (i : Int)), (2, zi k)]) (st2 := [.inr (21, i)]) rfl ?_
    refine zX.sn 1 (pc2 := 29) (l2 := [(3, .inr (21, i)), (0, .inr (10, 0)), (1, zi (i : Int)), (2, zi k)]) (st2 := [zi k, .inr (21, i)]) rfl ?_
    refine zX.call (mid2 := 31) (as := [.inr (21, i), zi k]) (rest := []) ⟨rfl, rfl⟩ (fun _ => rfl) (zX.inv rfl ht.1 rfl rfl) ⟨Nat.le_of_ble_eq_true rfl, Nat.le_of_ble_eq_true rfl⟩ ?_
    refine s_leastF (d := d + 6) (by omega) hb hk ht ?_
    show zX _ 112 32 [(3, .inr (21, i)), (0, .inr (10, 0)), (1, zi (i : Int)), (2, zi k)] [zi (zlf S.1 k (zuL C) 0 1000)] c s _ _
    refine zX.ret rfl rfl ?_
    exact q1 (by omega)
  · refine zX.thr (E := "java/util/NoSuchElementException") rfl rfl (by omega) (Nat.le_of_ble_eq_true rfl) ?_
    exact q0 (by omega)
end YD9g
