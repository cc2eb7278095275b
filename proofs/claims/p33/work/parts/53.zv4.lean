set_option maxRecDepth 100000
section ZV53
/-- a result in one number: view, key, from, to, value -/
def zro (a b f t : Int) (y : Int32) : Int64 := ((((((Int64.ofNat 576460752303423488) ||| ((Int32.toInt64 ((Int32.ofInt a) &&& (Int32.ofInt 7))) <<< (Int32.toInt64 (Int32.ofInt 56) &&& 63))) ||| ((Int32.toInt64 ((Int32.ofInt b) &&& (Int32.ofInt 7))) <<< (Int32.toInt64 (Int32.ofInt 53) &&& 63))) ||| ((Int32.toInt64 ((Int32.ofInt f) &&& (Int32.ofInt 1023))) <<< (Int32.toInt64 (Int32.ofInt 43) &&& 63))) ||| ((Int32.toInt64 ((Int32.ofInt (t + 1)) &&& (Int32.ofInt 2047))) <<< (Int32.toInt64 (Int32.ofInt 32) &&& 63))) ||| ((Int32.toInt64 y) &&& (Int64.ofNat 4294967295)))
theorem s_of {d c s : Nat} {h : xH} {Q : xR → Nat → Nat → xH → Prop} {a b f t : Int} {y : Int32} (q : Q (.inl (some (.inl (.long (zro a b f t y))))) c s h) : zX d 14 0 [(0, zi a), (1, zi b), (2, zi f), (3, zi t), (4, .inl (.int y))] [] c s h Q := r_of q
theorem zfg {a : UInt32} (h : FP.Core.fIsNaN a = false) : a &&& 0x7fffffff ≤ 0x7f800000 := by
  have h1 : ¬ 2139095040 < a.toNat % 2 ^ 31 := fun z => by
    rw [(FP.Core.isNaN_bits32 a).mpr z] at h
    cases h
  rw [UInt32.le_iff_toNat_le, UInt32.toNat_and]
  show a.toNat &&& 2 ^ 31 - 1 ≤ 2139095040
  rw [Nat.and_two_pow_sub_one_eq_mod]
  omega
theorem zff_2 : FP.Core.FFin FP.fconst2 := (FP.Core.fin_bits32 _).mpr (by decide)
theorem zff_1 : FP.Core.FFin FP.fconst1 := (FP.Core.fin_bits32 _).mpr (by decide)
theorem zff_b : FP.Core.FFin (UInt32.ofNat 1258291200) := (FP.Core.fin_bits32 _).mpr (by decide)
theorem zfn_2 : ¬ FP.Core.FZero FP.fconst2 := fun z => absurd ((FP.Core.zero_bits232 _).mp z) (by decide)
theorem zfn_b : ¬ FP.Core.FZero (UInt32.ofNat 1258291200) := fun z => absurd ((FP.Core.zero_bits232 _).mp z) (by decide)
theorem zfi_n {n : Int32} (h : 0 < n) : ¬ FP.Core.FZero (FP.i2f n) := fun z => by
  refine FP.Core.i2f_ne_zero (v := n) (fun e => ?_) ((FP.Core.zero_bits232 _).mp z)
  subst e
  exact absurd h (by decide)
theorem zfneg {x : UInt32} (h : FP.Core.fIsNaN x = false) : FP.Core.fIsNaN (FP.fneg x) = false := by
  have e : (FP.fneg x).toNat % 2 ^ 31 = x.toNat % 2 ^ 31 := by
    show (x ^^^ 0x80000000).toNat % 2 ^ 31 = _
    rw [UInt32.toNat_xor, Nat.xor_mod_two_pow]
    show x.toNat % 2 ^ 31 ^^^ 0 = _
    rw [Nat.xor_zero]
  cases hb : FP.Core.fIsNaN (FP.fneg x) with
  | false => rfl
  | true =>
    have h1 := (FP.Core.isNaN_bits32 (FP.fneg x)).mp hb
    rw [e] at h1
    rw [(FP.Core.isNaN_bits32 x).mpr h1] at h
    cases h
theorem l_bits2 {x : UInt32} : ∀ (n j : Nat) (f : UInt32) (sg : Int32) (ex : Int), j + n = 256 → FP.Core.fIsNaN f = false → ∃ y : Int32, ∀ {d c s : Nat} {h : xH} {Q : xR → Nat → Nat → xH → Prop}, Q (.inl (some (.inl (.int y)))) c s h → zX d 59 70 [(0, .inl (.float x)), (1, .inl (.int sg)), (2, .inl (.float f)), (3, zi ex), (4, zi (j : Int))] [] c s h Q := by
  intro n
  induction n with
  | zero =>
    intro j f sg ex hj hf
    exact ⟨_, fun q => r_bits2 (by omega) (zfg (FP.Core.fmul_out' hf zff_2 zfn_2)) (zfg (FP.Core.fsub_out hf zff_1)) (zfg (FP.Core.fmul_out' (FP.Core.fsub_out hf zff_1) zff_b zfn_b)) (fun _ => q) (fun e _ => by omega) (fun e _ => by omega)⟩
  | succ n ih =>
    intro j f sg ex hj hf
    have g1 := FP.Core.fmul_out' hf zff_2 zfn_2
    by_cases hc : Op.cmpValue (FP.fcmp f FP.fconst1) .g < 0
    · obtain ⟨y, hy⟩ := ih (j + 1) (FP.fmul f FP.fconst2) sg (ex + (-1)) (by omega) g1
      exact ⟨y, fun q => r_bits2 (by omega) (zfg g1) (zfg (FP.Core.fsub_out hf zff_1)) (zfg (FP.Core.fmul_out' (FP.Core.fsub_out hf zff_1) zff_b zfn_b)) (fun e => by omega) (fun _ z => absurd hc z) (fun _ _ => hy q)⟩
    · exact ⟨_, fun q => r_bits2 (by omega) (zfg g1) (zfg (FP.Core.fsub_out hf zff_1)) (zfg (FP.Core.fmul_out' (FP.Core.fsub_out hf zff_1) zff_b zfn_b)) (fun e => by omega) (fun _ _ => q) (fun _ z => absurd z hc)⟩
theorem l_bits1 {x : UInt32} : ∀ (n j : Nat) (f : UInt32) (sg : Int32) (ex : Int), j + n = 256 → FP.Core.fIsNaN f = false → ∃ y : Int32, ∀ {d c s : Nat} {h : xH} {Q : xR → Nat → Nat → xH → Prop}, Q (.inl (some (.inl (.int y)))) c s h → zX d 59 40 [(0, .inl (.float x)), (1, .inl (.int sg)), (2, .inl (.float f)), (3, zi ex), (4, zi (j : Int))] [] c s h Q := by
  intro n
  induction n with
  | zero =>
    intro j f sg ex hj hf
    obtain ⟨y, hy⟩ := l_bits2 (x := x) 256 0 f sg ex (by omega) hf
    exact ⟨y, fun q => r_bits1 (by omega) (zfg (FP.Core.fdiv_out hf zff_2 zfn_2)) (fun _ => hy q) (fun e _ => by omega) (fun e _ => by omega)⟩
  | succ n ih =>
    intro j f sg ex hj hf
    have g1 := FP.Core.fdiv_out hf zff_2 zfn_2
    by_cases hc : Op.cmpValue (FP.fcmp f FP.fconst2) .l < 0
    · obtain ⟨y, hy⟩ := l_bits2 (x := x) 256 0 f sg ex (by omega) hf
      exact ⟨y, fun q => r_bits1 (by omega) (zfg g1) (fun e => by omega) (fun _ _ => hy q) (fun _ z => absurd hc z)⟩
    · obtain ⟨y, hy⟩ := ih (j + 1) (FP.fdiv f FP.fconst2) sg (ex + 1) (by omega) g1
      exact ⟨y, fun q => r_bits1 (by omega) (zfg g1) (fun e => by omega) (fun _ z => absurd z hc) (fun _ _ => hy q)⟩
theorem s_bits {x : UInt32} (hx : FP.Core.fIsNaN x = false) : ∃ y : Int32, ∀ {d c s : Nat} {h : xH} {Q : xR → Nat → Nat → xH → Prop}, Q (.inl (some (.inl (.int y)))) c s h → zX d 59 0 [(0, .inl (.float x))] [] c s h Q := by
  by_cases h0 : Op.cmpValue (FP.fcmp x FP.fconst0) .l = 0
  · exact ⟨_, fun q => r_bits0 (fun e _ => absurd h0 e) (fun e _ => absurd h0 e) (fun _ => q)⟩
  · by_cases h1 : Op.cmpValue (FP.fcmp x FP.fconst0) .g < 0
    · obtain ⟨y, hy⟩ := l_bits1 (x := x) 256 0 (FP.fneg x) (Int32.ofInt (-2147483648)) 127 (by omega) (zfneg hx)
      exact ⟨y, fun q => r_bits0 (fun _ e => absurd h1 e) (fun _ _ => hy q) (fun e => absurd e h0)⟩
    · obtain ⟨y, hy⟩ := l_bits1 (x := x) 256 0 x (Int32.ofInt 0) 127 (by omega) hx
      exact ⟨y, fun q => r_bits0 (fun _ _ => hy q) (fun _ e => absurd e h1) (fun e => absurd e h0)⟩
/-- the bits of a mean -/
noncomputable def zbt (s n : Int32) : Int32 := if hx : FP.Core.fIsNaN (FP.fdiv (FP.i2f s) (FP.i2f n)) = false then Classical.choose (s_bits hx) else 0
/-- the measure of rows: their number n, the sum s of their values -/
noncomputable def zme (me : Int) (n s : Int32) : Int32 := if 0 < n then (if me = 99 then n else if me = 115 then s else zbt s n) else 0
theorem s_meas {d c s : Nat} {h : xH} {Q : xR → Nat → Nat → xH → Prop} {ro i L k : Nat} {fn fs fg : Nat → Int32} {x1 me : Int} (hx1 : x1 = (k : Int)) (h0 : 0 < ro) (hL : L ≤ 67108864) (hk : k < L) (hme : me = 99 ∨ me = 115 ∨ me = 109) (hR : zTal h ro i L fn fs fg) (q : Q (.inl (some (.inl (.int (zme me (fn k) (fs k)))))) c s h) : zX (d + 1) 58 0 [(0, .inr (ro, i)), (1, zi x1), (2, zi me)] [] c s h Q := by
  obtain ⟨a1, a2, a3, a4, -⟩ := hR
  unfold zme at q
  by_cases hn : 0 < fn k
  · rw [if_pos hn] at q
    rcases hme with rfl | rfl | rfl
    · exact r_meas_c hx1 h0 hL hk hn a1 a2 a3 a4 q
    · exact r_meas_s hx1 h0 hL hk hn a1 a2 a3 a4 q
    · have hf : FP.Core.fIsNaN (FP.fdiv (FP.i2f (fs k)) (FP.i2f (fn k))) = false := FP.Core.fdiv_out (FP.Core.i2f_fin _).notNaN (FP.Core.i2f_fin _) (zfi_n hn)
      rw [if_neg (by omega), if_neg (by omega)] at q
      unfold zbt at q
      rw [dif_pos hf] at q
      exact r_meas_m hx1 h0 hL hk hn (zfg hf) (Classical.choose_spec (s_bits hf)) a1 a2 a3 a4 q
  · rw [if_neg hn] at q
    exact r_meas0 hx1 h0 hL hk hn (by omega) a1 a2 a3 a4 q
end ZV53
