set_option maxRecDepth 100000
section YB1
/-- how many numbers below n have it -/
def znb (p : Nat → Bool) : Nat → Nat
  | 0 => 0
  | n + 1 => znb p n + (p n).toNat
theorem znb_le (p : Nat → Bool) : ∀ n, znb p n ≤ n := by
  intro n
  induction n with
  | zero => exact Nat.le_refl _
  | succ n ih =>
    show znb p n + (p n).toNat ≤ n + 1
    cases p n <;> simp <;> omega
theorem znb_same {p q : Nat → Bool} : ∀ n, (∀ u, u < n → p u = q u) → znb p n = znb q n := by
  intro n
  induction n with
  | zero => intro _; rfl
  | succ n ih =>
    intro h
    show znb p n + (p n).toNat = znb q n + (q n).toNat
    rw [ih (fun u hu => h u (by omega)), h n (by omega)]
theorem znb_one {p q : Nat → Bool} {w : Nat} : ∀ n, w < n → (∀ u, u < n → u ≠ w → p u = q u) → znb p n + (q w).toNat = znb q n + (p w).toNat := by
  intro n
  induction n with
  | zero => intro h; omega
  | succ n ih =>
    intro h hs
    show znb p n + (p n).toNat + (q w).toNat = znb q n + (q n).toNat + (p w).toNat
    by_cases hw : w = n
    · subst hw
      rw [znb_same w (fun u hu => hs u (by omega) (by omega))]
      omega
    · have := ih (by omega) (fun u hu hne => hs u (by omega) hne)
      rw [hs n (by omega) (fun z => hw z.symm)]
      omega
theorem zfe_iff {sz sp w : Nat} {t : Int} (hs : 1 ≤ sp) : w < zfe sz sp t ↔ (w : Int) * (sp : Int) + (sz : Int) ≤ t := by
  unfold zfe
  have h0 := zmul_0 w sp
  split
  next h => exact ⟨fun z => absurd z (Nat.not_lt_zero _), fun z => by omega⟩
  next h =>
    have hq : 0 ≤ (t - (sz : Int)) / (sp : Int) := Int.ediv_nonneg (by omega) (by omega)
    have h1 : (w : Int) ≤ (t - (sz : Int)) / (sp : Int) ↔ (w : Int) * (sp : Int) ≤ t - (sz : Int) := Int.le_ediv_iff_mul_le (by omega)
    constructor
    · intro z
      have := h1.mp (by omega)
      omega
    · intro z
      have := h1.mpr (by omega)
      omega
variable {v sz gr sp : Nat} {me fi m b : Int}
/-- a window's result where it is told -/
noncomputable def zwTl (v sz sp : Nat) (me : Int) (fn fs : Nat → Int32) (m : Int) (j : Nat) : Int64 :=
  if j / 8 < zwi sp ∧ ((j / 8 : Nat) : Int) * (sp : Int) + (sz : Int) ≤ m ∧ 0 < fn j then zwRes v sz sp me fn fs (j / 8) (j % 8) else 0
/-- how many windows of a key are held -/
def zwHn (fn : Nat → Int32) (sz gr sp : Nat) (m : Int) (k : Nat) : Nat := znb (fun u => decide (0 < fn (u * 8 + k)) && decide (m < (u : Int) * (sp : Int) + (sz : Int) + (gr : Int))) (zwi sp)
/-- a window view's state, as its numbers and sums say -/
def zwCo (v sz gr sp : Nat) (me m : Int) (B : Nat) (X : zWX) : Prop := (∀ j, ∃ n : Nat, n ≤ B ∧ X.2.2.2.1 j = Int32.ofInt (n : Int)) ∧ (∀ j, X.1 j = zwTl v sz sp me X.2.2.2.1 X.2.2.2.2.1 m j) ∧ (∀ k, k < 8 → X.2.1 k = Int32.ofInt (zwHn X.2.2.2.1 sz gr sp m k : Int)) ∧ ∀ t, 8 ≤ t → X.2.1 t = 0
theorem zpos {n : Nat} (h : n < 2147483648) : 0 < Int32.ofInt (n : Int) ↔ 0 < n := by
  rw [show (0 : Int32) = Int32.ofInt 0 from rfl, zI_lt (by omega) (by omega)]
  omega
theorem zAd_at (f : Nat → Int32) (k : Nat) (x : Int32) (j : Nat) : zAd f k x j = if j = k then f k + x else f j := rfl
theorem zwRes_same {fn fs fn2 fs2 : Nat → Int32} {w k : Nat} (h1 : fn (w * 8 + k) = fn2 (w * 8 + k)) (h2 : fs (w * 8 + k) = fs2 (w * 8 + k)) : zwRes v sz sp me fn fs w k = zwRes v sz sp me fn2 fs2 w k := by
  unfold zwRes
  rw [h1, h2]
theorem zwTl_same {fn fs fn2 fs2 : Nat → Int32} {j : Nat} (h1 : fn j = fn2 j) (h2 : fs j = fs2 j) : zwTl v sz sp me fn fs m j = zwTl v sz sp me fn2 fs2 m j := by
  unfold zwTl
  have hj : j / 8 * 8 + j % 8 = j := by omega
  have hr : zwRes v sz sp me fn fs (j / 8) (j % 8) = zwRes v sz sp me fn2 fs2 (j / 8) (j % 8) := zwRes_same (by rw [hj]; exact h1) (by rw [hj]; exact h2)
  rw [h1, hr]
/-- a row goes into one window -/
theorem zwRow_co {B w : Nat} {e : zE} {X : zWX} (hB : B < 1000000) (hw : w < zwi sp) (hk : zeK e < 8) (hm : zeA e = m) (h : zwCo v sz gr sp me m B X) : zwCo v sz gr sp me m (B + 1) (zwRow v sz gr sp me e w X) ∧ (v < 5 → zTs v (zwi sp * 8) 2 (X.1, X.2.2.2.2.2) ((zwRow v sz gr sp me e w X).1, (zwRow v sz gr sp me e w X).2.2.2.2.2)) ∧ ((zwRow v sz gr sp me e w X).2.2.2.1, (zwRow v sz gr sp me e w X).2.2.2.2.1) = zwA1 sz gr sp e w (X.2.2.2.1, X.2.2.2.2.1) := by
  obtain ⟨h1, h2, h3, h4⟩ := h
  unfold zwRow zwA1
  by_cases hl : (w : Int) * (sp : Int) + (sz : Int) + (gr : Int) ≤ zeA e
  · rw [if_pos hl, if_pos hl]
    exact ⟨⟨fun j => (by obtain ⟨n, hn, hj⟩ := h1 j; exact ⟨n, by omega, hj⟩), h2, h3, h4⟩, fun _ => zTs.rf, rfl⟩
  · rw [if_neg hl, if_neg hl]
    obtain ⟨n0, hn0, hj0⟩ := h1 (w * 8 + zeK e)
    have hd8 : (w * 8 + zeK e) / 8 = w := by omega
    have hm8 : (w * 8 + zeK e) % 8 = zeK e := by omega
    have hpn : 0 < zAd X.2.2.2.1 (w * 8 + zeK e) 1 (w * 8 + zeK e) := by
      rw [zAd_at, if_pos rfl, hj0, show (1 : Int32) = Int32.ofInt ((1 : Nat) : Int) from rfl, ← Int32.ofInt_add, show (n0 : Int) + ((1 : Nat) : Int) = ((n0 + 1 : Nat) : Int) from rfl, zpos (by omega)]
      omega
    refine ⟨⟨fun j => ?_, fun j => ?_, fun k hk8 => ?_, fun t ht => ?_⟩, fun hv => ?_, rfl⟩
    · show ∃ n : Nat, n ≤ B + 1 ∧ zAd X.2.2.2.1 (w * 8 + zeK e) 1 j = Int32.ofInt (n : Int)
      rw [zAd_at]
      split
      · refine ⟨n0 + 1, by omega, ?_⟩
        rw [hj0, show (1 : Int32) = Int32.ofInt ((1 : Nat) : Int) from rfl, ← Int32.ofInt_add]
        rfl
      · obtain ⟨n, hn, hj⟩ := h1 j
        exact ⟨n, by omega, hj⟩
    · show (if (w : Int) * (sp : Int) + (sz : Int) ≤ zeA e then zanF X.1 (w * 8 + zeK e) (w * 8 + zeK e) (zwRes v sz sp me (zAd X.2.2.2.1 (w * 8 + zeK e) 1) (zAd X.2.2.2.2.1 (w * 8 + zeK e) (Int32.ofInt (zeV e))) w (zeK e)) else X.1) j = zwTl v sz sp me (zAd X.2.2.2.1 (w * 8 + zeK e) 1) (zAd X.2.2.2.2.1 (w * 8 + zeK e) (Int32.ofInt (zeV e))) m j
      by_cases hj : j = w * 8 + zeK e
      · subst hj
        by_cases hd : (w : Int) * (sp : Int) + (sz : Int) ≤ zeA e
        · rw [if_pos hd, zanF_at, if_pos rfl]
          unfold zwTl
          rw [hd8, hm8, if_pos ⟨hw, by omega, hpn⟩]
        · rw [if_neg hd, h2]
          unfold zwTl
          rw [hd8, if_neg (fun z => hd (by omega)), if_neg (fun z => hd (by omega))]
      · have hs := zwTl_same (v := v) (sz := sz) (sp := sp) (me := me) (m := m) (fn := zAd X.2.2.2.1 (w * 8 + zeK e) 1) (fs := zAd X.2.2.2.2.1 (w * 8 + zeK e) (Int32.ofInt (zeV e))) (fn2 := X.2.2.2.1) (fs2 := X.2.2.2.2.1) (j := j) (if_neg hj) (if_neg hj)
        rw [hs, ← h2 j]
        split
        · rw [zanF_at, if_neg hj]
        · rfl
    · show (if 0 < X.2.2.2.1 (w * 8 + zeK e) then X.2.1 else zAd X.2.1 (zeK e) (Int32.ofInt 1)) k = Int32.ofInt (zwHn (zAd X.2.2.2.1 (w * 8 + zeK e) 1) sz gr sp m k : Int)
      by_cases hkk : k = zeK e
      · have hone := znb_one (p := fun u => decide (0 < zAd X.2.2.2.1 (w * 8 + zeK e) 1 (u * 8 + k)) && decide (m < (u : Int) * (sp : Int) + (sz : Int) + (gr : Int))) (q := fun u => decide (0 < X.2.2.2.1 (u * 8 + k)) && decide (m < (u : Int) * (sp : Int) + (sz : Int) + (gr : Int))) (w := w) (zwi sp) hw (fun u _ hne => by rw [zAd_at, if_neg (by omega)])
        rw [hkk] at hone ⊢
        have hpw : (decide (0 < zAd X.2.2.2.1 (w * 8 + zeK e) 1 (w * 8 + zeK e)) && decide (m < (w : Int) * (sp : Int) + (sz : Int) + (gr : Int))) = true := by
          rw [decide_eq_true hpn, decide_eq_true (by omega : m < (w : Int) * (sp : Int) + (sz : Int) + (gr : Int))]
          rfl
        have h3 := h3 (zeK e) hk
        by_cases hp0 : 0 < X.2.2.2.1 (w * 8 + zeK e)
        · have hqw : (decide (0 < X.2.2.2.1 (w * 8 + zeK e)) && decide (m < (w : Int) * (sp : Int) + (sz : Int) + (gr : Int))) = true := by
            rw [decide_eq_true hp0, decide_eq_true (by omega : m < (w : Int) * (sp : Int) + (sz : Int) + (gr : Int))]
            rfl
          rw [hpw, hqw] at hone
          rw [if_pos hp0, h3]
          have : zwHn X.2.2.2.1 sz gr sp m (zeK e) = zwHn (zAd X.2.2.2.1 (w * 8 + zeK e) 1) sz gr sp m (zeK e) := by
            unfold zwHn
            omega
          rw [this]
        · have hqw : (decide (0 < X.2.2.2.1 (w * 8 + zeK e)) && decide (m < (w : Int) * (sp : Int) + (sz : Int) + (gr : Int))) = false := by
            rw [decide_eq_false hp0]
            rfl
          rw [hpw, hqw] at hone
          rw [if_neg hp0, zAd_at, if_pos rfl, h3, ← Int32.ofInt_add]
          have : zwHn (zAd X.2.2.2.1 (w * 8 + zeK e) 1) sz gr sp m (zeK e) = zwHn X.2.2.2.1 sz gr sp m (zeK e) + 1 := by
            unfold zwHn
            simp only [Bool.toNat_true, Bool.toNat_false] at hone
            omega
          rw [this]
          rfl
      · have hsame : zwHn (zAd X.2.2.2.1 (w * 8 + zeK e) 1) sz gr sp m k = zwHn X.2.2.2.1 sz gr sp m k := znb_same _ (fun u _ => by rw [zAd_at, if_neg (by omega)])
        rw [hsame, ← h3 k hk8]
        split
        · rfl
        · exact if_neg hkk
    · show (if 0 < X.2.2.2.1 (w * 8 + zeK e) then X.2.1 else zAd X.2.1 (zeK e) (Int32.ofInt 1)) t = 0
      split
      · exact h4 t ht
      · rw [zAd_at, if_neg (by omega)]
        exact h4 t ht
    · show zTs v (zwi sp * 8) 2 (X.1, X.2.2.2.2.2) (_, _)
      unfold zwInto
      dsimp only
      split
      · exact zTs.anew (by omega) (by omega) (Or.inl rfl) (zro_gd hv)
      · exact zTs.rf.le (Nat.zero_le _)
theorem zwTakeN_co {e : zE} (hk : zeK e < 8) (hm : zeA e = m) : ∀ (n w B : Nat) (X : zWX), w + n ≤ zwi sp → B + n < 1000000 → zwCo v sz gr sp me m B X → zwCo v sz gr sp me m (B + n) (zwTakeN v sz gr sp me e n w X) ∧ (v < 5 → zTs v (zwi sp * 8) (2 * n) (X.1, X.2.2.2.2.2) ((zwTakeN v sz gr sp me e n w X).1, (zwTakeN v sz gr sp me e n w X).2.2.2.2.2)) ∧ ((zwTakeN v sz gr sp me e n w X).2.2.2.1, (zwTakeN v sz gr sp me e n w X).2.2.2.2.1) = zwAN sz gr sp e n w (X.2.2.2.1, X.2.2.2.2.1) := by
  intro n
  induction n with
  | zero => intro w B X _ _ h; exact ⟨h, fun _ => zTs.rf, rfl⟩
  | succ n ih =>
    intro w B X hw hB h
    obtain ⟨a1, a2, a3⟩ := zwRow_co (w := w) (e := e) (by omega) (by omega) hk hm h
    obtain ⟨b1, b2, b3⟩ := ih (w + 1) (B + 1) (zwRow v sz gr sp me e w X) (by omega) (by omega) a1
    refine ⟨?_, fun hv => ((a2 hv).tr (b2 hv)).le (by omega), ?_⟩
    · rw [show B + (n + 1) = B + 1 + n from by omega]
      exact b1
    · rw [a3] at b3
      exact b3
theorem zwTake_co {e : zE} {B : Nat} {X : zWX} (hs : 1 ≤ sp) (ht : zeT e < 1000) (hk : zeK e < 8) (hm : zeA e = m) (hB : B + 1000 < 1000000) (h : zwCo v sz gr sp me m B X) : zwCo v sz gr sp me m (B + 1000) (zwTake v sz gr sp me e X) ∧ (v < 5 → zTs v (zwi sp * 8) (2 * (zeT e / sp + 1 - zfe sz sp (zeT e : Int))) (X.1, X.2.2.2.2.2) ((zwTake v sz gr sp me e X).1, (zwTake v sz gr sp me e X).2.2.2.2.2)) ∧ ((zwTake v sz gr sp me e X).2.2.2.1, (zwTake v sz gr sp me e X).2.2.2.2.1) = zwAga sz gr sp e (X.2.2.2.1, X.2.2.2.2.1) := by
  have h1 : zeT e / sp ≤ 999 / sp := Nat.div_le_div_right (by omega)
  have hz : zwi sp = 999 / sp + 1 := rfl
  have h2 := zwi_le hs
  by_cases hle : zfe sz sp (zeT e : Int) ≤ zeT e / sp + 1
  · obtain ⟨a1, a2, a3⟩ := zwTakeN_co (v := v) (sz := sz) (gr := gr) (sp := sp) (me := me) hk hm (zeT e / sp + 1 - zfe sz sp (zeT e : Int)) (zfe sz sp (zeT e : Int)) B X (by omega) (by omega) h
    obtain ⟨c1, c2⟩ := a1
    exact ⟨⟨fun j => (by obtain ⟨n, hn, hj⟩ := c1 j; exact ⟨n, by omega, hj⟩), c2⟩, a2, a3⟩
  · have h0 : zeT e / sp + 1 - zfe sz sp (zeT e : Int) = 0 := by omega
    unfold zwTake zwAga
    rw [h0]
    obtain ⟨c1, c2⟩ := h
    exact ⟨⟨fun j => (by obtain ⟨n, hn, hj⟩ := c1 j; exact ⟨n, by omega, hj⟩), c2⟩, fun _ => zTs.rf, rfl⟩
/-- due windows are told -/
theorem zwTK_at {fn fs : Nat → Int32} {w : Nat} : ∀ (n k : Nat) (T : (Nat → Int64) × List Int64), k + n ≤ 8 → w < zwi sp → (∀ j, (zwTK v sz sp me fn fs w n k T).1 j = if j / 8 = w ∧ k ≤ j % 8 ∧ j % 8 < k + n ∧ 0 < fn j then zwRes v sz sp me fn fs (j / 8) (j % 8) else T.1 j) ∧ (v < 5 → zTs v (zwi sp * 8) (2 * n) T (zwTK v sz sp me fn fs w n k T)) := by
  intro n
  induction n with
  | zero => intro k T _ _; exact ⟨fun j => (if_neg (by omega)).symm, fun _ => zTs.rf⟩
  | succ n ih =>
    intro k T hk hw
    obtain ⟨a1, a2⟩ := ih (k + 1) (zwT1 v sz sp me fn fs w k T) (by omega) hw
    refine ⟨fun j => ?_, fun hv => ?_⟩
    · show (zwTK v sz sp me fn fs w n (k + 1) (zwT1 v sz sp me fn fs w k T)).1 j = _
      rw [a1 j]
      have hT : (zwT1 v sz sp me fn fs w k T).1 j = if j = w * 8 + k ∧ 0 < fn j then zwRes v sz sp me fn fs (j / 8) (j % 8) else T.1 j := by
        unfold zwT1
        by_cases hf : 0 < fn (w * 8 + k)
        · rw [if_pos hf]
          show zanF T.1 (w * 8 + k) (w * 8 + k) _ j = _
          rw [zanF_at]
          by_cases hj : j = w * 8 + k
          · subst hj
            rw [if_pos rfl, if_pos ⟨rfl, hf⟩, show (w * 8 + k) / 8 = w from by omega, show (w * 8 + k) % 8 = k from by omega]
          · rw [if_neg hj, if_neg (fun z => hj z.1)]
        · rw [if_neg hf]
          refine (if_neg (fun z => hf ?_)).symm
          rw [← z.1]
          exact z.2
      rw [hT]
      by_cases c1 : j / 8 = w ∧ k + 1 ≤ j % 8 ∧ j % 8 < k + 1 + n ∧ 0 < fn j
      · rw [if_pos c1, if_pos ⟨c1.1, by omega, by omega, c1.2.2.2⟩]
      · rw [if_neg c1]
        by_cases c2 : j = w * 8 + k ∧ 0 < fn j
        · rw [if_pos c2, if_pos ⟨by omega, by omega, by omega, c2.2⟩]
        · rw [if_neg c2, if_neg (fun z => ?_)]
          by_cases h8 : k = j % 8
          · exact c2 ⟨by omega, z.2.2.2⟩
          · exact c1 ⟨z.1, by omega, by omega, z.2.2.2⟩
    · have h1 : zTs v (zwi sp * 8) 2 T (zwT1 v sz sp me fn fs w k T) := by
        unfold zwT1
        split
        · exact zTs.anew (by omega) (by omega) (Or.inl rfl) (zro_gd hv)
        · exact zTs.rf.le (Nat.zero_le _)
      exact (h1.tr (a2 hv)).le (by omega)
theorem zwTW_at {fn fs : Nat → Int32} : ∀ (n w : Nat) (T : (Nat → Int64) × List Int64), w + n ≤ zwi sp → (∀ j, (zwTW v sz sp me fn fs n w T).1 j = if w ≤ j / 8 ∧ j / 8 < w + n ∧ 0 < fn j then zwRes v sz sp me fn fs (j / 8) (j % 8) else T.1 j) ∧ (v < 5 → zTs v (zwi sp * 8) (16 * n) T (zwTW v sz sp me fn fs n w T)) := by
  intro n
  induction n with
  | zero => intro w T _; exact ⟨fun j => (if_neg (by omega)).symm, fun _ => zTs.rf⟩
  | succ n ih =>
    intro w T hw
    obtain ⟨k1, k2⟩ := zwTK_at (v := v) (sz := sz) (sp := sp) (me := me) (fn := fn) (fs := fs) (w := w) 8 0 T (by omega) (by omega)
    obtain ⟨a1, a2⟩ := ih (w + 1) (zwTK v sz sp me fn fs w 8 0 T) (by omega)
    refine ⟨fun j => ?_, fun hv => ((k2 hv).tr (a2 hv)).le (by omega)⟩
    show (zwTW v sz sp me fn fs n (w + 1) (zwTK v sz sp me fn fs w 8 0 T)).1 j = _
    rw [a1 j, k1 j]
    have h8 : j % 8 < 8 := Nat.mod_lt _ (by omega)
    by_cases c1 : w + 1 ≤ j / 8 ∧ j / 8 < w + 1 + n ∧ 0 < fn j
    · rw [if_pos c1, if_pos ⟨by omega, by omega, c1.2.2⟩]
    · rw [if_neg c1]
      by_cases c2 : j / 8 = w ∧ 0 ≤ j % 8 ∧ j % 8 < 0 + 8 ∧ 0 < fn j
      · rw [if_pos c2, if_pos ⟨by omega, by omega, c2.2.2.2⟩]
      · rw [if_neg c2, if_neg (fun z => ?_)]
        by_cases h9 : j / 8 = w
        · exact c2 ⟨h9, by omega, by omega, z.2.2⟩
        · exact c1 ⟨by omega, by omega, z.2.2⟩
theorem zwSpan {t : Int} (hs : 1 ≤ sp) (hb : -1 ≤ b) (hbm : b ≤ m) : (zwStop sz sp m : Int) - (zfe sz sp b : Int) ≤ m - b := by
  unfold zwStop zfe
  split
  next h => split <;> omega
  next h =>
    have hmin : Nat.min (zwi sp) (((m - (sz : Int)) / (sp : Int)).toNat + 1) ≤ ((m - (sz : Int)) / (sp : Int)).toNat + 1 := Nat.min_le_right _ _
    have hq : 0 ≤ (m - (sz : Int)) / (sp : Int) := Int.ediv_nonneg (by omega) (by omega)
    have hq2 : (m - (sz : Int)) / (sp : Int) ≤ m - (sz : Int) := Int.ediv_le_self _ (by omega)
    split
    next h2 => omega
    next h2 =>
      have hq3 : 0 ≤ (b - (sz : Int)) / (sp : Int) := Int.ediv_nonneg (by omega) (by omega)
      have hq4 : (m - (sz : Int)) / (sp : Int) ≤ (b - (sz : Int)) / (sp : Int) + (m - b) := by
        have e1 : m - (sz : Int) = (b - (sz : Int)) + (m - b) := by omega
        have e2 : (m - (sz : Int)) / (sp : Int) ≤ ((b - (sz : Int)) + (m - b) * (sp : Int)) / (sp : Int) := by
          apply Int.ediv_le_ediv (by omega)
          have : (m - b) * 1 ≤ (m - b) * (sp : Int) := Int.mul_le_mul_of_nonneg_left (by omega) (by omega)
          omega
        rw [Int.add_mul_ediv_right _ _ (by omega)] at e2
        exact e2
      omega
/-- the due ones are told, and what need not be held is let go -/
theorem zwDue_co {B : Nat} {X : zWX} (hs : 1 ≤ sp) (hb : -1 ≤ b) (hbm : b ≤ m) (h : zwCo v sz gr sp me b B X) : (∀ j, (zwDue v sz sp me b m X).1 j = zwTl v sz sp me X.2.2.2.1 X.2.2.2.2.1 m j) ∧ (v < 5 → zTs v (zwi sp * 8) (16 * (m - b).toNat) (X.1, X.2.2.2.2.2) ((zwDue v sz sp me b m X).1, (zwDue v sz sp me b m X).2.2.2.2.2)) := by
  obtain ⟨h1, h2, h3, h4⟩ := h
  have hspan := zwSpan (sz := sz) (t := 0) hs hb hbm
  have hst : zwStop sz sp m ≤ zwi sp := zwStop_le
  have key : ∀ j, ¬ (zfe sz sp b ≤ j / 8 ∧ j / 8 < zwStop sz sp m ∧ 0 < X.2.2.2.1 j) → X.1 j = zwTl v sz sp me X.2.2.2.1 X.2.2.2.2.1 m j := fun j hj => by
    rw [h2 j]
    unfold zwTl
    have e1 := zfe_iff (sz := sz) (w := j / 8) (t := b) hs
    have e2 := zwStop_iff (sz := sz) (u := j / 8) (m := m) hs
    by_cases c1 : j / 8 < zwi sp ∧ ((j / 8 : Nat) : Int) * (sp : Int) + (sz : Int) ≤ b ∧ 0 < X.2.2.2.1 j
    · rw [if_pos c1, if_pos ⟨c1.1, by omega, c1.2.2⟩]
    · rw [if_neg c1, if_neg (fun z => ?_)]
      refine hj ⟨?_, e2.mpr ⟨z.1, z.2.1⟩, z.2.2⟩
      by_cases c2 : j / 8 < zfe sz sp b
      · exact absurd ⟨z.1, e1.mp c2, z.2.2⟩ c1
      · omega
  by_cases hle : zfe sz sp b ≤ zwStop sz sp m
  · obtain ⟨a1, a2⟩ := zwTW_at (v := v) (sz := sz) (sp := sp) (me := me) (fn := X.2.2.2.1) (fs := X.2.2.2.2.1) (zwStop sz sp m - zfe sz sp b) (zfe sz sp b) (X.1, X.2.2.2.2.2) (by omega)
    refine ⟨fun j => ?_, fun hv => (a2 hv).le (by omega)⟩
    show (zwTW v sz sp me X.2.2.2.1 X.2.2.2.2.1 (zwStop sz sp m - zfe sz sp b) (zfe sz sp b) (X.1, X.2.2.2.2.2)).1 j = _
    rw [a1 j]
    by_cases c : zfe sz sp b ≤ j / 8 ∧ j / 8 < zfe sz sp b + (zwStop sz sp m - zfe sz sp b) ∧ 0 < X.2.2.2.1 j
    · rw [if_pos c]
      have e2 := (zwStop_iff (sz := sz) (u := j / 8) (m := m) hs).mp (by omega)
      unfold zwTl
      rw [if_pos ⟨e2.1, e2.2, c.2.2⟩]
    · rw [if_neg c]
      exact key j (fun z => c ⟨z.1, by omega, z.2.2⟩)
  · have h0 : zwStop sz sp m - zfe sz sp b = 0 := by omega
    unfold zwDue
    rw [h0]
    refine ⟨fun j => ?_, fun _ => zTs.rf.le (Nat.zero_le _)⟩
    show X.1 j = _
    exact key j (fun z => by omega)
theorem zwGK_at {fn : Nat → Int32} {w : Nat} : ∀ (n k : Nat) (hd : Nat → Int32) (t : Nat), zwGK fn w n k hd t = if k ≤ t ∧ t < k + n ∧ 0 < fn (w * 8 + t) then hd t + Int32.ofInt (-1) else hd t := by
  intro n
  induction n with
  | zero => intro k hd t; exact (if_neg (by omega)).symm
  | succ n ih =>
    intro k hd t
    show zwGK fn w n (k + 1) (zwG1 fn w k hd) t = _
    rw [ih]
    have h1 : zwG1 fn w k hd t = if t = k ∧ 0 < fn (w * 8 + t) then hd t + Int32.ofInt (-1) else hd t := by
      unfold zwG1
      by_cases ht : t = k
      · subst ht
        by_cases hf : 0 < fn (w * 8 + t)
        · rw [if_pos hf, if_pos ⟨rfl, hf⟩, zAd_at, if_pos rfl]
        · rw [if_neg hf, if_neg (fun z => hf z.2)]
      · have hc : ¬ (t = k ∧ 0 < fn (w * 8 + t)) := fun z => ht z.1
        rw [if_neg hc]
        split
        · rw [zAd_at, if_neg ht]
        · rfl
    rw [h1]
    by_cases c1 : k + 1 ≤ t ∧ t < k + 1 + n ∧ 0 < fn (w * 8 + t)
    · rw [if_pos c1, if_neg (by omega), if_pos ⟨by omega, by omega, c1.2.2⟩]
    · rw [if_neg c1]
      by_cases c2 : t = k ∧ 0 < fn (w * 8 + t)
      · rw [if_pos c2, if_pos ⟨by omega, by omega, c2.2⟩]
      · rw [if_neg c2, if_neg (fun z => ?_)]
        by_cases ht : t = k
        · exact c2 ⟨ht, z.2.2⟩
        · exact c1 ⟨by omega, by omega, z.2.2⟩
theorem zwGW_at {fn : Nat → Int32} {k : Nat} (hk : k < 8) (P : Nat → Bool) : ∀ (n w : Nat) (hd : Nat → Int32), w + n ≤ zwi sp → hd k = Int32.ofInt (znb (fun u => decide (0 < fn (u * 8 + k)) && (decide (w ≤ u ∧ u < w + n) || P u)) (zwi sp) : Int) → (∀ u, w ≤ u → u < w + n → P u = false) → zwGW fn n w hd k = Int32.ofInt (znb (fun u => decide (0 < fn (u * 8 + k)) && P u) (zwi sp) : Int) := by
  intro n
  induction n with
  | zero =>
    intro w hd _ h _
    show hd k = _
    rw [h]
    congr 2
    congr 1
    funext u
    rw [decide_eq_false (by omega : ¬ (w ≤ u ∧ u < w + 0))]
    rfl
  | succ n ih =>
    intro w hd hw h hP
    show zwGW fn n (w + 1) (zwGK fn w 8 0 hd) k = _
    refine ih (w + 1) _ (by omega) ?_ (fun u h1 h2 => hP u (by omega) (by omega))
    rw [zwGK_at]
    have hone := znb_one (p := fun u => decide (0 < fn (u * 8 + k)) && (decide (w + 1 ≤ u ∧ u < w + 1 + n) || P u)) (q := fun u => decide (0 < fn (u * 8 + k)) && (decide (w ≤ u ∧ u < w + (n + 1)) || P u)) (w := w) (zwi sp) (by omega) (fun u _ hne => by
      congr 2
      apply decide_eq_decide.mpr
      omega)
    have hpw : (decide (0 < fn (w * 8 + k)) && (decide (w + 1 ≤ w ∧ w < w + 1 + n) || P w)) = false := by
      rw [decide_eq_false (by omega : ¬ (w + 1 ≤ w ∧ w < w + 1 + n)), hP w (by omega) (by omega)]
      simp
    by_cases hf : 0 < fn (w * 8 + k)
    · rw [if_pos ⟨by omega, by omega, hf⟩, h, ← Int32.ofInt_add]
      have hqw : (decide (0 < fn (w * 8 + k)) && (decide (w ≤ w ∧ w < w + (n + 1)) || P w)) = true := by
        rw [decide_eq_true hf, decide_eq_true (by omega : w ≤ w ∧ w < w + (n + 1))]
        rfl
      rw [hpw, hqw] at hone
      simp only [Bool.toNat_true, Bool.toNat_false] at hone
      congr 1
      omega
    · rw [if_neg (fun z => hf z.2.2), h]
      have hqw : (decide (0 < fn (w * 8 + k)) && (decide (w ≤ w ∧ w < w + (n + 1)) || P w)) = false := by
        rw [decide_eq_false hf]
        rfl
      rw [hpw, hqw] at hone
      simp only [Bool.toNat_false] at hone
      congr 1
      omega
theorem zwGW_8 {fn : Nat → Int32} {t : Nat} (ht : 8 ≤ t) : ∀ (n w : Nat) (hd : Nat → Int32), zwGW fn n w hd t = hd t := by
  intro n
  induction n with
  | zero => intro w hd; rfl
  | succ n ih =>
    intro w hd
    show zwGW fn n (w + 1) (zwGK fn w 8 0 hd) t = _
    rw [ih, zwGK_at, if_neg (by omega)]
/-- letting go -/
theorem zwGo_hd {fn hd : Nat → Int32} {k : Nat} (hs : 1 ≤ sp) (hk : k < 8) (hbm : b ≤ m) (h : hd k = Int32.ofInt (zwHn fn sz gr sp b k : Int)) : zwGW fn (zwStop sz sp (m - (gr : Int)) - zfe sz sp (b - (gr : Int))) (zfe sz sp (b - (gr : Int))) hd k = Int32.ofInt (zwHn fn sz gr sp m k : Int) := by
  have hst : zwStop sz sp (m - (gr : Int)) ≤ zwi sp := zwStop_le
  have e1 : ∀ u, u < zfe sz sp (b - (gr : Int)) ↔ (u : Int) * (sp : Int) + (sz : Int) ≤ b - (gr : Int) := fun u => zfe_iff hs
  have e2 : ∀ u, u < zwStop sz sp (m - (gr : Int)) ↔ u < zwi sp ∧ (u : Int) * (sp : Int) + (sz : Int) ≤ m - (gr : Int) := fun u => zwStop_iff hs
  by_cases hle : zfe sz sp (b - (gr : Int)) ≤ zwStop sz sp (m - (gr : Int))
  · refine zwGW_at hk (fun u => decide (m < (u : Int) * (sp : Int) + (sz : Int) + (gr : Int))) _ _ hd (by omega) ?_ (fun u h1 h2 => ?_)
    · rw [h]
      unfold zwHn
      congr 2
      refine znb_same _ (fun u hu => ?_)
      have h1 := e1 u
      have h2 := e2 u
      congr 1
      by_cases c : m < (u : Int) * (sp : Int) + (sz : Int) + (gr : Int)
      · rw [decide_eq_true c, decide_eq_true (by omega), Bool.or_true]
      · rw [decide_eq_false c, Bool.or_false]
        apply decide_eq_decide.mpr
        omega
    · have h2 := (e2 u).mp (by omega)
      exact decide_eq_false (by omega)
  · have h0 : zwStop sz sp (m - (gr : Int)) - zfe sz sp (b - (gr : Int)) = 0 := by omega
    rw [h0]
    show hd k = _
    rw [h]
    unfold zwHn
    congr 2
    refine znb_same _ (fun u hu => ?_)
    have h1 := e1 u
    have h2 := e2 u
    congr 1
    apply decide_eq_decide.mpr
    omega
theorem zwDG_co {B : Nat} {X : zWX} (hs : 1 ≤ sp) (hb : -1 ≤ b) (hbm : b ≤ m) (h : zwCo v sz gr sp me b B X) : zwCo v sz gr sp me m B (zwGo sz gr sp b m (zwDue v sz sp me b m X)) := by
  obtain ⟨d1, -⟩ := zwDue_co hs hb hbm h
  obtain ⟨h1, h2, h3, h4⟩ := h
  refine ⟨h1, d1, fun k hk => ?_, fun t ht => ?_⟩
  · show zwGW X.2.2.2.1 _ _ X.2.1 k = _
    exact zwGo_hd hs hk hbm (h3 k hk)
  · show zwGW X.2.2.2.1 _ _ X.2.1 t = 0
    rw [zwGW_8 ht]
    exact h4 t ht
/-- what is found -/
theorem zwFK_at {fn fs : Nat → Int32} {w : Nat} : ∀ (n k : Nat) (fb : Nat → Int64), k + n ≤ 8 → ∀ j, zwFK v sz sp me fn fs w n k fb j = if j / 8 = w ∧ k ≤ j % 8 ∧ j % 8 < k + n ∧ 0 < fn j then zwRes v sz sp me fn fs (j / 8) (j % 8) else fb j := by
  intro n
  induction n with
  | zero => intro k fb _ j; exact (if_neg (by omega)).symm
  | succ n ih =>
    intro k fb hk j
    show zwFK v sz sp me fn fs w n (k + 1) (zwF1 v sz sp me fn fs w k fb) j = _
    rw [ih (k + 1) _ (by omega) j]
    have hT : zwF1 v sz sp me fn fs w k fb j = if j = w * 8 + k ∧ 0 < fn j then zwRes v sz sp me fn fs (j / 8) (j % 8) else fb j := by
      unfold zwF1
      by_cases hf : 0 < fn (w * 8 + k)
      · rw [if_pos hf]
        show (if j = w * 8 + k then _ else fb j) = _
        by_cases hj : j = w * 8 + k
        · subst hj
          rw [if_pos rfl, if_pos ⟨rfl, hf⟩, show (w * 8 + k) / 8 = w from by omega, show (w * 8 + k) % 8 = k from by omega]
        · rw [if_neg hj, if_neg (fun z => hj z.1)]
      · rw [if_neg hf]
        refine (if_neg (fun z => hf ?_)).symm
        rw [← z.1]
        exact z.2
    rw [hT]
    by_cases c1 : j / 8 = w ∧ k + 1 ≤ j % 8 ∧ j % 8 < k + 1 + n ∧ 0 < fn j
    · rw [if_pos c1, if_pos ⟨c1.1, by omega, by omega, c1.2.2.2⟩]
    · rw [if_neg c1]
      by_cases c2 : j = w * 8 + k ∧ 0 < fn j
      · rw [if_pos c2, if_pos ⟨by omega, by omega, by omega, c2.2⟩]
      · rw [if_neg c2, if_neg (fun z => ?_)]
        by_cases h8 : k = j % 8
        · exact c2 ⟨by omega, z.2.2.2⟩
        · exact c1 ⟨z.1, by omega, by omega, z.2.2.2⟩
theorem zwFW_at {fn fs : Nat → Int32} : ∀ (n w : Nat) (fb : Nat → Int64) (j : Nat), zwFW v sz sp me fn fs n w fb j = if w ≤ j / 8 ∧ j / 8 < w + n ∧ 0 < fn j then zwRes v sz sp me fn fs (j / 8) (j % 8) else fb j := by
  intro n
  induction n with
  | zero => intro w fb j; exact (if_neg (by omega)).symm
  | succ n ih =>
    intro w fb j
    show zwFW v sz sp me fn fs n (w + 1) (zwFK v sz sp me fn fs w 8 0 fb) j = _
    rw [ih, zwFK_at 8 0 fb (by omega) j]
    have h8 : j % 8 < 8 := Nat.mod_lt _ (by omega)
    by_cases c1 : w + 1 ≤ j / 8 ∧ j / 8 < w + 1 + n ∧ 0 < fn j
    · rw [if_pos c1, if_pos ⟨by omega, by omega, c1.2.2⟩]
    · rw [if_neg c1]
      by_cases c2 : j / 8 = w ∧ 0 ≤ j % 8 ∧ j % 8 < 0 + 8 ∧ 0 < fn j
      · rw [if_pos c2, if_pos ⟨by omega, by omega, c2.2.2.2⟩]
      · rw [if_neg c2, if_neg (fun z => ?_)]
        by_cases h9 : j / 8 = w
        · exact c2 ⟨h9, by omega, by omega, z.2.2⟩
        · exact c1 ⟨by omega, by omega, z.2.2⟩
/-- a window view behind a journal -/
def zwIv (v sz gr sp : Nat) (me fi : Int) (J : List zE) (m : Int) (X : zWX) : Prop := zwCo v sz gr sp me m (1000 * J.length) X ∧ (X.2.2.2.1, X.2.2.2.2.1) = zwJ sz gr sp fi J (fun _ => 0, fun _ => 0)
theorem zwIv.found {J : List zE} {X : zWX} (hs : 1 ≤ sp) (h : zwIv v sz gr sp me fi J m X) : zwFound v sz gr sp me fi J m = X.1 := by
  obtain ⟨⟨h1, h2, h3, h4⟩, h5⟩ := h
  funext j
  unfold zwFound
  rw [← h5, zwFW_at, h2 j]
  dsimp only
  unfold zwTl
  have e2 := zwStop_iff (sz := sz) (u := j / 8) (m := m) hs
  by_cases c : j / 8 < zwi sp ∧ ((j / 8 : Nat) : Int) * (sp : Int) + (sz : Int) ≤ m ∧ 0 < X.2.2.2.1 j
  · rw [if_pos c, if_pos ⟨Nat.zero_le _, by have := e2.mpr ⟨c.1, c.2.1⟩; omega, c.2.2⟩]
  · rw [if_neg c, if_neg (fun z => c ?_)]
    have := e2.mp (by omega)
    exact ⟨this.1, this.2, z.2.2⟩
end YB1
