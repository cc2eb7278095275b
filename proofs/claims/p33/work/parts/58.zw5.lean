set_option maxRecDepth 100000
section ZW58
variable {d v sz gr sp : Nat} {fi me : Int} {Q : xR → Nat → Nat → xH → Prop}
/-- the windows that end by a time are those before this one -/
def zwStop (sz sp : Nat) (m : Int) : Nat := if m < (sz : Int) then 0 else Nat.min (zwi sp) (((m - (sz : Int)) / (sp : Int)).toNat + 1)
theorem zwStop_iff {m : Int} {u : Nat} (hs : 1 ≤ sp) : u < zwStop sz sp m ↔ u < zwi sp ∧ (u : Int) * (sp : Int) + (sz : Int) ≤ m := by
  unfold zwStop
  have h0 := zmul_0 u sp
  split
  next h => exact ⟨fun z => absurd z (Nat.not_lt_zero _), fun z => by omega⟩
  next h =>
    have hq : 0 ≤ (m - (sz : Int)) / (sp : Int) := Int.ediv_nonneg (by omega) (by omega)
    have key : u < ((m - (sz : Int)) / (sp : Int)).toNat + 1 ↔ (u : Int) * (sp : Int) + (sz : Int) ≤ m := by
      have h1 : (u : Int) ≤ (m - (sz : Int)) / (sp : Int) ↔ (u : Int) * (sp : Int) ≤ m - (sz : Int) := Int.le_ediv_iff_mul_le (by omega)
      constructor
      · intro z
        have := h1.mp (by omega)
        omega
      · intro z
        have := h1.mpr (by omega)
        omega
    rw [show Nat.min (zwi sp) (((m - (sz : Int)) / (sp : Int)).toNat + 1) = min (zwi sp) (((m - (sz : Int)) / (sp : Int)).toNat + 1) from rfl, Nat.lt_min, key]
theorem zwStop_le {m : Int} : zwStop sz sp m ≤ zwi sp := by
  unfold zwStop
  split
  · exact Nat.zero_le _
  · exact Nat.min_le_left _ _
/-- a due window of a key is told -/
noncomputable def zwT1 (v sz sp : Nat) (me : Int) (fn fs : Nat → Int32) (w k : Nat) (T : (Nat → Int64) × List Int64) : (Nat → Int64) × List Int64 := if 0 < fn (w * 8 + k) then (zanF T.1 (w * 8 + k) (w * 8 + k) (zwRes v sz sp me fn fs w k), T.2 ++ zanL T.1 (w * 8 + k) (zwRes v sz sp me fn fs w k)) else T
noncomputable def zwTK (v sz sp : Nat) (me : Int) (fn fs : Nat → Int32) (w : Nat) : Nat → Nat → (Nat → Int64) × List Int64 → (Nat → Int64) × List Int64
  | 0, _, T => T
  | n + 1, k, T => zwTK v sz sp me fn fs w n (k + 1) (zwT1 v sz sp me fn fs w k T)
noncomputable def zwTW (v sz sp : Nat) (me : Int) (fn fs : Nat → Int32) : Nat → Nat → (Nat → Int64) × List Int64 → (Nat → Int64) × List Int64
  | 0, _, T => T
  | n + 1, w, T => zwTW v sz sp me fn fs n (w + 1) (zwTK v sz sp me fn fs w 8 0 T)
theorem zwT1_len {fn fs : Nat → Int32} {w k : Nat} {T : (Nat → Int64) × List Int64} : (zwT1 v sz sp me fn fs w k T).2.length ≤ T.2.length + 2 := by
  unfold zwT1
  split
  · dsimp only
    rw [List.length_append]
    have := zanL_le T.1 (w * 8 + k) (zwRes v sz sp me fn fs w k)
    omega
  · exact Nat.le_add_right _ _
theorem zwTK_len {fn fs : Nat → Int32} {w : Nat} : ∀ (n k : Nat) (T : (Nat → Int64) × List Int64), (zwTK v sz sp me fn fs w n k T).2.length ≤ T.2.length + 2 * n := by
  intro n
  induction n with
  | zero => intro k T; exact Nat.le_refl _
  | succ n ih =>
    intro k T
    have h1 := ih (k + 1) (zwT1 v sz sp me fn fs w k T)
    have h2 := zwT1_len (v := v) (sz := sz) (sp := sp) (me := me) (fn := fn) (fs := fs) (w := w) (k := k) (T := T)
    show (zwTK v sz sp me fn fs w n (k + 1) (zwT1 v sz sp me fn fs w k T)).2.length ≤ _
    omega
abbrev zwPut (X : zWX) (T : (Nat → Int64) × List Int64) : zWX := (T.1, X.2.1, X.2.2.1, X.2.2.2.1, X.2.2.2.2.1, T.2)
theorem l_wtdK {b m : Int} {w : Nat} {X : zWX} (hr : zWr v fi sz gr me sp) (hb : -1 ≤ b ∧ b < 1000) (hm : -1 ≤ m ∧ m < 1000) (hwz : w < zwi sp) : ∀ (n k : Nat) (T : (Nat → Int64) × List Int64) (h : xH) (N c s : Nat), k + n = 8 → T.2.length + 2 * n < 190000 → zVW h N v fi sz gr me sp (zwPut X T) →
    (∀ h1 N1 c1 s1, zVW h1 N1 v fi sz gr me sp (zwPut X (zwTK v sz sp me X.2.2.2.1 X.2.2.2.2.1 w n k T)) → zFv v h h1 → zCo N c s N1 c1 s1 → zX (d + 4) 94 6 [(0, .inr (20, v)), (1, zi b), (2, zi m), (3, zi ((w : Int) + 1))] [] c1 s1 h1 Q) → zX (d + 4) 94 26 [(0, .inr (20, v)), (1, zi b), (2, zi m), (3, zi (w : Int)), (4, zi (k : Int))] [] c s h Q := by
  obtain ⟨hvr, hme, hs1, hs2⟩ := id hr
  obtain ⟨r1, r2, r3, r4⟩ := id hvr
  have hwi := zwi_le hs1
  have hmw := zwi_mul hs1 hwz
  have hm2 := zmul_c w sp
  intro n
  induction n with
  | zero =>
    intro k T h N c s hk ho hV q
    obtain ⟨v1, v2, v3, ⟨fg, v4⟩, v5, v6⟩ := id hV
    exact r_wtd2 (L := zwi sp * 8) (wi := zwi sp) hvr r1 r3 r4 ⟨hs1, by omega⟩ rfl hwi hme hb hm (by omega) (by omega) (zmul_0 _ _) (by omega) hwz (by have : T.2.length < 190000 := ho; exact (by omega : T.2.length + 2 < 200000)) v1 v2 v5 v4 (fun _ => q h N c s hV (fun _ _ _ => rfl) zCo.rf) (fun e => by omega) (fun e => by omega)
  | succ n ih =>
    intro k T h N c s hk ho hV q
    obtain ⟨v1, v2, v3, ⟨fg, v4⟩, v5, ⟨fb, v6⟩, gn, gs, gg, v7⟩ := id hV
    refine r_wtd2 (L := zwi sp * 8) (wi := zwi sp) hvr r1 r3 r4 ⟨hs1, by omega⟩ rfl hwi hme hb hm (by omega) (by omega) (zmul_0 _ _) (by omega) hwz (by have : T.2.length + 2 * (n + 1) < 190000 := ho; exact (by omega : T.2.length + 2 < 200000)) v1 v2 v5 v4 (fun e => by omega) (fun _ e => ?_) (fun _ e N1 c1 s1 hb h1 a1 a2 a3 => ?_)
    · have hT : zwT1 v sz sp me X.2.2.2.1 X.2.2.2.2.1 w k T = T := if_neg e
      refine ih (k + 1) T h N c s (by omega) (by omega) hV (fun h1 N1 c1 s1 b1 => q h1 N1 c1 s1 ?_)
      show zVW h1 N1 v fi sz gr me sp (zwPut X (zwTK v sz sp me X.2.2.2.1 X.2.2.2.2.1 w n (k + 1) (zwT1 v sz sp me X.2.2.2.1 X.2.2.2.2.1 w k T)))
      rw [hT]
      exact b1
    · have hT : zwT1 v sz sp me X.2.2.2.1 X.2.2.2.2.1 w k T = (zanF T.1 (w * 8 + k) (w * 8 + k) (zwRes v sz sp me X.2.2.2.1 X.2.2.2.2.1 w k), T.2 ++ zanL T.1 (w * 8 + k) (zwRes v sz sp me X.2.2.2.1 X.2.2.2.2.1 w k)) := if_pos e
      have hF : zFv v h h1 := fun a b hn => a3 a b (by omega)
      have hV1 : zVW h1 N1 v fi sz gr me sp (zwPut X (zwT1 v sz sp me X.2.2.2.1 X.2.2.2.2.1 w k T)) := by
        rw [hT]
        exact ⟨(a3 _ _ (by omega)).trans v1, a1, (a3 _ _ (by omega)).trans v3, ⟨fg, v4.fr (fun a b z => a3 a b (by omega))⟩, a2, ⟨fb, v6.fr (fun a b z => a3 a b (by omega))⟩, gn, gs, gg, v7.fr (fun a b z => a3 a b (by omega))⟩
      exact ih (k + 1) _ h1 N1 c1 s1 (by omega) (by have := zwT1_len (v := v) (sz := sz) (sp := sp) (me := me) (fn := X.2.2.2.1) (fs := X.2.2.2.2.1) (w := w) (k := k) (T := T); omega) hV1 (fun h2 N2 c2 s2 b1 b2 b3 => q h2 N2 c2 s2 b1 (hF.tr b2) (hb.tr b3))
theorem l_wtdW {b m : Int} {X : zWX} (hr : zWr v fi sz gr me sp) (hb : -1 ≤ b ∧ b < 1000) (hm : -1 ≤ m ∧ m < 1000) : ∀ (n w : Nat) (T : (Nat → Int64) × List Int64) (h : xH) (N c s : Nat), w ≤ 1101 → n = zwStop sz sp m - w → T.2.length + 16 * n < 189000 → zVW h N v fi sz gr me sp (zwPut X T) →
    (∀ h1 N1 c1 s1, zVW h1 N1 v fi sz gr me sp (zwPut X (zwTW v sz sp me X.2.2.2.1 X.2.2.2.2.1 n w T)) → zFv v h h1 → zCo N c s N1 c1 s1 → Q (.inl none) c1 s1 h1) → zX (d + 4) 94 6 [(0, .inr (20, v)), (1, zi b), (2, zi m), (3, zi (w : Int))] [] c s h Q := by
  obtain ⟨hvr, hme, hs1, hs2⟩ := id hr
  obtain ⟨r1, r2, r3, r4⟩ := id hvr
  have hwi := zwi_le hs1
  intro n
  induction n with
  | zero =>
    intro w T h N c s hw hn ho hV q
    have hst : ¬ w < zwStop sz sp m := by omega
    rw [zwStop_iff hs1] at hst
    have hp : (w : Int) * (sp : Int) ≤ 400000 := by
      rw [zmul_c]
      have h1 : w * sp ≤ 1101 * 200 := Nat.mul_le_mul hw (by omega)
      omega
    exact r_wtd1 (d := d + 3) (L := zwi sp * 8) (wi := zwi sp) hvr r1 r3 r4 ⟨hs1, by omega⟩ rfl hwi hme hb hm (by omega) hp (zmul_0 _ _) hV.1 (fun _ => q h N c s hV (fun _ _ _ => rfl) zCo.rf) (fun _ _ => q h N c s hV (fun _ _ _ => rfl) zCo.rf) (fun e1 e2 => absurd ⟨by omega, e2⟩ hst)
  | succ n ih =>
    intro w T h N c s hw hn ho hV q
    have hst : w < zwStop sz sp m := by omega
    obtain ⟨hwz, hle⟩ := (zwStop_iff hs1).mp hst
    have hmw := zwi_mul hs1 hwz
    have hm2 := zmul_c w sp
    refine r_wtd1 (d := d + 3) (L := zwi sp * 8) (wi := zwi sp) hvr r1 r3 r4 ⟨hs1, by omega⟩ rfl hwi hme hb hm (by omega) (by omega) (zmul_0 _ _) hV.1 (fun e => by omega) (fun _ e => by omega) (fun _ _ => ?_)
    refine l_wtdK hr hb hm hwz 8 0 T h N c s rfl (by omega) hV (fun h1 N1 c1 s1 a1 a2 a3 => ?_)
    exact ih (w + 1) _ h1 N1 c1 s1 (by omega) (by omega) (by have := zwTK_len (v := v) (sz := sz) (sp := sp) (me := me) (fn := X.2.2.2.1) (fs := X.2.2.2.2.1) (w := w) 8 0 T; omega) a1 (fun h2 N2 c2 s2 b1 b2 b3 => q h2 N2 c2 s2 b1 (zFv.tr a2 b2) (a3.tr b3))
/-- windows that are due are told -/
noncomputable def zwDue (v sz sp : Nat) (me : Int) (b m : Int) (X : zWX) : zWX := zwPut X (zwTW v sz sp me X.2.2.2.1 X.2.2.2.2.1 (zwStop sz sp m - zfe sz sp b) (zfe sz sp b) (X.1, X.2.2.2.2.2))
theorem zfe_le {t : Int} (hs : 1 ≤ sp) (ht : t < 1000) : zfe sz sp t ≤ 1001 := by
  unfold zfe
  split
  · omega
  · have h1 : (t - (sz : Int)) / (sp : Int) ≤ t - (sz : Int) := Int.ediv_le_self _ (by omega)
    omega
theorem s_wtd {b m : Int} {c s N : Nat} {h : xH} {X : zWX} (hr : zWr v fi sz gr me sp) (hb : -1 ≤ b ∧ b < 1000) (hm : -1 ≤ m ∧ m < 1000) (ho : X.2.2.2.2.2.length < 170000) (hV : zVW h N v fi sz gr me sp X)
    (q : ∀ h1 N1 c1 s1, zVW h1 N1 v fi sz gr me sp (zwDue v sz sp me b m X) → zFv v h h1 → zCo N c s N1 c1 s1 → Q (.inl none) c1 s1 h1) : zX (d + 4) 94 0 [(0, .inr (20, v)), (1, zi b), (2, zi m)] [] c s h Q := by
  obtain ⟨hvr, hme, hs1, hs2⟩ := id hr
  obtain ⟨r1, r2, r3, r4⟩ := id hvr
  have hwi := zwi_le hs1
  refine r_wtd0 (d := d + 3) (L := zwi sp * 8) (wi := zwi sp) hvr r1 r3 r4 ⟨hs1, by omega⟩ rfl hwi hme hb hm hV.1 ?_
  have h1 := zfe_le (sz := sz) hs1 hb.2
  have h2 := zwStop_le (sz := sz) (sp := sp) (m := m)
  exact l_wtdW hr hb hm _ _ (X.1, X.2.2.2.2.2) h N c s (by omega) rfl (by dsimp only; omega) hV q
/-- letting go -/
def zwG1 (fn : Nat → Int32) (w k : Nat) (hd : Nat → Int32) : Nat → Int32 := if 0 < fn (w * 8 + k) then zAd hd k (Int32.ofInt (-1)) else hd
def zwGK (fn : Nat → Int32) (w : Nat) : Nat → Nat → (Nat → Int32) → Nat → Int32
  | 0, _, hd => hd
  | n + 1, k, hd => zwGK fn w n (k + 1) (zwG1 fn w k hd)
def zwGW (fn : Nat → Int32) : Nat → Nat → (Nat → Int32) → Nat → Int32
  | 0, _, hd => hd
  | n + 1, w, hd => zwGW fn n (w + 1) (zwGK fn w 8 0 hd)
abbrev zwHd (X : zWX) (hd : Nat → Int32) : zWX := (X.1, hd, X.2.2)
theorem l_wlgK {m : Int} {w N : Nat} {X : zWX} (hr : zWr v fi sz gr me sp) (hm : -1 ≤ m ∧ m < 1000) (hwz : w < zwi sp) {c s : Nat} : ∀ (n k : Nat) (hd : Nat → Int32) (h : xH), k + n = 8 → zVW h N v fi sz gr me sp (zwHd X hd) →
    (∀ h1, zVW h1 N v fi sz gr me sp (zwHd X (zwGK X.2.2.2.1 w n k hd)) → zFv v h h1 → zX (d + 2) 95 14 [(0, .inr (20, v)), (2, zi m), (4, zi ((w : Int) + 1))] [] c s h1 Q) → zX (d + 2) 95 41 [(0, .inr (20, v)), (2, zi m), (4, zi (w : Int)), (5, zi (k : Int))] [] c s h Q := by
  obtain ⟨hvr, hme, hs1, hs2⟩ := id hr
  obtain ⟨r1, r2, r3, r4⟩ := id hvr
  have hwi := zwi_le hs1
  have hmw := zwi_mul hs1 hwz
  have hm2 := zmul_c w sp
  intro n
  induction n with
  | zero =>
    intro k hd h hk hV q
    obtain ⟨v1, v2, v3, ⟨fg, v4⟩, v5, v6⟩ := id hV
    exact r_wlg2 (L := zwi sp * 8) (wi := zwi sp) hvr r1 r3 r4 ⟨hs1, by omega⟩ rfl hwi hme hm (by omega) (by omega) (zmul_0 _ _) (by omega) hwz v1 v3 v4 (fun _ => q h hV (fun _ _ _ => rfl)) (fun e => by omega) (fun e => by omega)
  | succ n ih =>
    intro k hd h hk hV q
    obtain ⟨v1, v2, v3, ⟨fg, v4⟩, v5, ⟨fb, v6⟩, gn, gs, gg, v7⟩ := id hV
    refine r_wlg2 (L := zwi sp * 8) (wi := zwi sp) hvr r1 r3 r4 ⟨hs1, by omega⟩ rfl hwi hme hm (by omega) (by omega) (zmul_0 _ _) (by omega) hwz v1 v3 v4 (fun e => by omega) (fun _ e => ?_) (fun _ e h1 a1 a3 => ?_)
    · refine ih (k + 1) hd h (by omega) hV (fun h1 b1 => q h1 ?_)
      show zVW h1 N v fi sz gr me sp (zwHd X (zwGK X.2.2.2.1 w n (k + 1) (zwG1 X.2.2.2.1 w k hd)))
      rw [show zwG1 X.2.2.2.1 w k hd = hd from if_neg e]
      exact b1
    · have hF : zFv v h h1 := fun a b hn => a3 a b (by omega)
      have hV1 : zVW h1 N v fi sz gr me sp (zwHd X (zwG1 X.2.2.2.1 w k hd)) := by
        rw [show zwG1 X.2.2.2.1 w k hd = zAd hd k (Int32.ofInt (-1)) from if_pos e]
        exact ⟨(a3 _ _ (by omega)).trans v1, v2.fr (fun a b z => a3 a b (by omega)), a1, ⟨fg, v4.fr (fun a b z => a3 a b (by omega))⟩, v5.fr (fun a b z => a3 a b (by omega)), ⟨fb, v6.fr (fun a b z => a3 a b (by omega))⟩, gn, gs, gg, v7.fr (fun a b z => a3 a b (by omega))⟩
      exact ih (k + 1) _ h1 (by omega) hV1 (fun h2 b1 b2 => q h2 b1 (hF.tr b2))
theorem l_wlgW {m : Int} {N : Nat} {X : zWX} (hr : zWr v fi sz gr me sp) (hm : -1 ≤ m ∧ m < 1000) {c s : Nat} : ∀ (n w : Nat) (hd : Nat → Int32) (h : xH), w ≤ 1101 → n = zwStop sz sp (m - (gr : Int)) - w → zVW h N v fi sz gr me sp (zwHd X hd) →
    (∀ h1, zVW h1 N v fi sz gr me sp (zwHd X (zwGW X.2.2.2.1 n w hd)) → zFv v h h1 → Q (.inl none) c s h1) → zX (d + 2) 95 14 [(0, .inr (20, v)), (2, zi m), (4, zi (w : Int))] [] c s h Q := by
  obtain ⟨hvr, hme, hs1, hs2⟩ := id hr
  obtain ⟨r1, r2, r3, r4⟩ := id hvr
  have hwi := zwi_le hs1
  intro n
  induction n with
  | zero =>
    intro w hd h hw hn hV q
    have hst : ¬ w < zwStop sz sp (m - (gr : Int)) := by omega
    rw [zwStop_iff hs1] at hst
    have hp : (w : Int) * (sp : Int) ≤ 400000 := by
      rw [zmul_c]
      have h1 : w * sp ≤ 1101 * 200 := Nat.mul_le_mul hw (by omega)
      omega
    exact r_wlg1 (d := d + 1) (L := zwi sp * 8) (wi := zwi sp) hvr r1 r3 r4 ⟨hs1, by omega⟩ rfl hwi hme hm (by omega) hp (zmul_0 _ _) hV.1 (fun _ => q h hV (fun _ _ _ => rfl)) (fun _ _ => q h hV (fun _ _ _ => rfl)) (fun e1 e2 => absurd ⟨by omega, by omega⟩ hst)
  | succ n ih =>
    intro w hd h hw hn hV q
    have hst : w < zwStop sz sp (m - (gr : Int)) := by omega
    obtain ⟨hwz, hle⟩ := (zwStop_iff hs1).mp hst
    have hmw := zwi_mul hs1 hwz
    have hm2 := zmul_c w sp
    refine r_wlg1 (d := d + 1) (L := zwi sp * 8) (wi := zwi sp) hvr r1 r3 r4 ⟨hs1, by omega⟩ rfl hwi hme hm (by omega) (by omega) (zmul_0 _ _) hV.1 (fun e => by omega) (fun _ e => by omega) (fun _ _ => ?_)
    refine l_wlgK hr hm hwz 8 0 hd h rfl hV (fun h1 a1 a2 => ?_)
    exact ih (w + 1) _ h1 (by omega) (by omega) a1 (fun h2 b1 b2 => q h2 b1 (zFv.tr a2 b2))
def zwGo (sz gr sp : Nat) (b m : Int) (X : zWX) : zWX := zwHd X (zwGW X.2.2.2.1 (zwStop sz sp (m - (gr : Int)) - zfe sz sp (b - (gr : Int))) (zfe sz sp (b - (gr : Int))) X.2.1)
theorem s_wlg {b m : Int} {c s N : Nat} {h : xH} {X : zWX} (hr : zWr v fi sz gr me sp) (hb : -1 ≤ b ∧ b < 1000) (hm : -1 ≤ m ∧ m < 1000) (hV : zVW h N v fi sz gr me sp X)
    (q : ∀ h1, zVW h1 N v fi sz gr me sp (zwGo sz gr sp b m X) → zFv v h h1 → Q (.inl none) c s h1) : zX (d + 2) 95 0 [(0, .inr (20, v)), (1, zi b), (2, zi m)] [] c s h Q := by
  obtain ⟨hvr, hme, hs1, hs2⟩ := id hr
  obtain ⟨r1, r2, r3, r4⟩ := id hvr
  have hwi := zwi_le hs1
  refine r_wlg0 (d := d + 1) (L := zwi sp * 8) (wi := zwi sp) hvr r1 r3 r4 ⟨hs1, by omega⟩ rfl hwi hme hb hm hV.1 ?_
  have h1 := zfe_le (sz := sz) (t := b - (gr : Int)) hs1 (by omega)
  exact l_wlgW hr hm _ _ X.2.1 h (by omega) rfl hV q
end ZW58
