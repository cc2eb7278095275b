set_option maxRecDepth 100000
section ZX65
variable {d v sz gr : Nat} {fi me : Int} {Q : xR → Nat → Nat → xH → Prop}
/-- sessions: what is told, what is held, drops, numbers and sums of the rows, first times, the outputs -/
abbrev zSX : Type := (Nat → Int64) × (Nat → Int32) × Int32 × (Nat → Int32) × (Nat → Int32) × (Nat → Int) × List Int64
def zVS (h : xH) (N v : Nat) (fi : Int) (sz gr : Nat) (me : Int) (X : zSX) : Prop :=
  zVo h 6 v false fi sz gr X.2.2.1 [zi me, .inr (26, v), .inr (30, v), .inr (34, v), .inr (35, v)] ∧ zRes h 21 v 8000 X.1 ∧ h (25, v) = some (.inr (0, 8, zI X.2.1)) ∧ (∃ fg, zTal h 26 v 8001 X.2.2.2.1 X.2.2.2.2.1 fg) ∧ h (34, v) = some (.inr (0, 8000, zA X.2.2.2.2.2.1)) ∧ (∃ jj : Nat → Int, h (35, v) = some (.inr (0, 2, zA jj))) ∧ zOut h N X.2.2.2.2.2.2 ∧ (∃ fb, zRes h 23 v 8000 fb) ∧ (∃ gn gs gg, zTal h 30 v 8000 gn gs gg) ∧ ∀ j, 0 ≤ X.2.2.2.2.2.1 j ∧ X.2.2.2.2.2.1 j ≤ 1000
theorem zVS.fr {h h1 : xH} {N v : Nat} {fi : Int} {sz gr : Nat} {me : Int} {X : zSX} (hv : v < 8) (hV : zVS h N v fi sz gr me X) (e : ∀ a b : Nat, (20 ≤ a ∧ a < 60 ∧ b % 8 = v) ∨ (2 ≤ a ∧ a < 4) → h1 (a, b) = h (a, b)) : zVS h1 N v fi sz gr me X := by
  obtain ⟨v1, v2, v3, ⟨fg, v4⟩, v5, ⟨jj, v6⟩, v7, ⟨fb, v8⟩, ⟨gn, gs, gg, v9⟩, v10⟩ := hV
  exact ⟨(e _ _ (by omega)).trans v1, v2.fr (fun a b z => e a b (by omega)), (e _ _ (by omega)).trans v3, ⟨fg, v4.fr (fun a b z => e a b (by omega))⟩, (e _ _ (by omega)).trans v5, ⟨jj, (e _ _ (by omega)).trans v6⟩, v7.fr (fun a b z => e a b (by omega)), ⟨fb, v8.fr (fun a b z => e a b (by omega))⟩, ⟨gn, gs, gg, v9.fr (fun a b z => e a b (by omega))⟩, v10⟩
def zSr (v : Nat) (fi : Int) (sz gr : Nat) (me : Int) : Prop := zVr v fi sz gr ∧ (me = 99 ∨ me = 115 ∨ me = 109)
/-- a row into the sessions that it joins -/
noncomputable def zsInto (v sz : Nat) (me : Int) (e : zE) (js : List Nat) (X : zSX) : zSX :=
  ((zsTj v sz me e js (zsK e js) (zaaN (zsJs e js X.2.2.2.1 X.2.2.2.2.1).1 (zsK e js) 8000) (zaaS (zsJs e js X.2.2.2.1 X.2.2.2.2.1).1 (zsJs e js X.2.2.2.1 X.2.2.2.2.1).2 (zsK e js) 8000) (zfi X.2.2.2.2.2.1 (zsK e js) (zsFi e js X.2.2.2.2.2.1)) (X.1, X.2.2.2.2.2.2)).1,
   zAd X.2.1 (zeK e) (Int32.ofInt (1 - (js.length : Int))), X.2.2.1,
   zaaN (zsJs e js X.2.2.2.1 X.2.2.2.2.1).1 (zsK e js) 8000,
   zaaS (zsJs e js X.2.2.2.1 X.2.2.2.2.1).1 (zsJs e js X.2.2.2.1 X.2.2.2.2.1).2 (zsK e js) 8000,
   zfi X.2.2.2.2.2.1 (zsK e js) (zsFi e js X.2.2.2.2.2.1),
   (zsTj v sz me e js (zsK e js) (zaaN (zsJs e js X.2.2.2.1 X.2.2.2.2.1).1 (zsK e js) 8000) (zaaS (zsJs e js X.2.2.2.1 X.2.2.2.2.1).1 (zsJs e js X.2.2.2.1 X.2.2.2.2.1).2 (zsK e js) 8000) (zfi X.2.2.2.2.2.1 (zsK e js) (zsFi e js X.2.2.2.2.2.1)) (X.1, X.2.2.2.2.2.2)).2)
/-- a row is taken by sessions -/
noncomputable def zsTake (v sz gr : Nat) (me : Int) (e : zE) (X : zSX) : zSX :=
  if (zeT e : Int) + (sz : Int) + 1 + (gr : Int) ≤ zeA e then (X.1, X.2.1, X.2.2.1 + Int32.ofInt 1, X.2.2.2) else zsInto v sz me e (zsLook sz X.2.2.2.1 X.2.2.2.2.2.1 e) X
theorem s_stake {c s N : Nat} {h : xH} {X : zSX} {e : zE} (hr : zSr v fi sz gr me) (hE : zEr e) (ho : X.2.2.2.2.2.2.length < 180000) (hV : zVS h N v fi sz gr me X) (he : zEn h e)
    (q : ∀ h1 N1 c1 s1, zVS h1 N1 v fi sz gr me (zsTake v sz gr me e X) → zFv v h h1 → zCo N c s N1 c1 s1 → Q (.inl none) c1 s1 h1) : zX (d + 5) 41 0 [(0, .inr (20, v)), (1, .inr (8, zeN e))] [] c s h Q := by
  obtain ⟨hvr, hme⟩ := id hr
  obtain ⟨r1, r2, r3, r4⟩ := id hvr
  obtain ⟨e1, e2, e3, e4, e5, e6⟩ := id hE
  obtain ⟨v1, v2, v3, ⟨fg, v4⟩, v5, ⟨jj, v6⟩, v7, ⟨fb, v8⟩, ⟨gn, gs, gg, v9⟩, v10⟩ := hV
  refine r_stake hvr r1 r3 r4 hme hE e2 e3 e4 e6 e5 (zbi_r _) (zbi_r _) v10 (by omega) v1 he v5 v6 v3 v4 v2 v7 (fun z jj1 _ gg2 N1 c1 s1 hb h1 a1 a2 a3 a4 a5 a6 a7 => ?_) (fun z h1 a1 a2 => ?_)
  · have hF : zFv v h h1 := fun a b hn => a7 a b (by omega)
    refine q h1 N1 c1 s1 ?_ hF hb
    unfold zsTake
    rw [if_neg (show ¬ ((zeT e : Int) + (sz : Int) + 1 + (gr : Int) ≤ zeA e) from z)]
    exact ⟨(a7 _ _ (by omega)).trans v1, a5, a3, ⟨_, a4⟩, a2, ⟨_, a1⟩, a6, ⟨fb, v8.fr (fun a b z => a7 a b (by omega))⟩, ⟨gn, gs, gg, v9.fr (fun a b z => a7 a b (by omega))⟩, zsF_ok hE v10⟩
  · have hF : zFv v h h1 := fun a b hn => a2 a b (by omega)
    refine q h1 N c s ?_ hF zCo.rf
    unfold zsTake
    rw [if_pos (show (zeT e : Int) + (sz : Int) + 1 + (gr : Int) ≤ zeA e from z)]
    exact ⟨a1, v2.fr (fun a b z => a2 a b (by omega)), (a2 _ _ (by omega)).trans v3, ⟨fg, v4.fr (fun a b z => a2 a b (by omega))⟩, (a2 _ _ (by omega)).trans v5, ⟨jj, (a2 _ _ (by omega)).trans v6⟩, v7.fr (fun a b z => a2 a b (by omega)), ⟨fb, v8.fr (fun a b z => a2 a b (by omega))⟩, ⟨gn, gs, gg, v9.fr (fun a b z => a2 a b (by omega))⟩, v10⟩
/-- a due session of a key is told -/
noncomputable def zsT1 (v : Nat) (me : Int) (fn fs : Nat → Int32) (ff : Nat → Int) (l k : Nat) (T : (Nat → Int64) × List Int64) : (Nat → Int64) × List Int64 := if 0 < fn (l * 8 + k) then (zanF T.1 (l * 8 + k) (l * 8 + k) (zsRes v me fn fs ff (l * 8 + k)), T.2 ++ zanL T.1 (l * 8 + k) (zsRes v me fn fs ff (l * 8 + k))) else T
noncomputable def zsTK (v : Nat) (me : Int) (fn fs : Nat → Int32) (ff : Nat → Int) (l : Nat) : Nat → Nat → (Nat → Int64) × List Int64 → (Nat → Int64) × List Int64
  | 0, _, T => T
  | n + 1, k, T => zsTK v me fn fs ff l n (k + 1) (zsT1 v me fn fs ff l k T)
noncomputable def zsTL (v : Nat) (me : Int) (fn fs : Nat → Int32) (ff : Nat → Int) : Nat → Nat → (Nat → Int64) × List Int64 → (Nat → Int64) × List Int64
  | 0, _, T => T
  | n + 1, l, T => zsTL v me fn fs ff n (l + 1) (zsTK v me fn fs ff l 8 0 T)
theorem zsT1_len {fn fs : Nat → Int32} {ff : Nat → Int} {l k : Nat} {T : (Nat → Int64) × List Int64} : (zsT1 v me fn fs ff l k T).2.length ≤ T.2.length + 2 := by
  unfold zsT1
  split
  · dsimp only
    rw [List.length_append]
    have := zanL_le T.1 (l * 8 + k) (zsRes v me fn fs ff (l * 8 + k))
    omega
  · exact Nat.le_add_right _ _
theorem zsTK_len {fn fs : Nat → Int32} {ff : Nat → Int} {l : Nat} : ∀ (n k : Nat) (T : (Nat → Int64) × List Int64), (zsTK v me fn fs ff l n k T).2.length ≤ T.2.length + 2 * n := by
  intro n
  induction n with
  | zero => intro k T; exact Nat.le_refl _
  | succ n ih =>
    intro k T
    have h1 := ih (k + 1) (zsT1 v me fn fs ff l k T)
    have h2 := zsT1_len (v := v) (me := me) (fn := fn) (fs := fs) (ff := ff) (l := l) (k := k) (T := T)
    show (zsTK v me fn fs ff l n (k + 1) (zsT1 v me fn fs ff l k T)).2.length ≤ _
    omega
abbrev zsPut (X : zSX) (T : (Nat → Int64) × List Int64) : zSX := (T.1, X.2.1, X.2.2.1, X.2.2.2.1, X.2.2.2.2.1, X.2.2.2.2.2.1, T.2)
theorem l_stdK {m : Int} {l : Nat} {X : zSX} (hr : zSr v fi sz gr me) (hm : -1 ≤ m ∧ m < 1000) (hl : l < 1000) : ∀ (n k : Nat) (T : (Nat → Int64) × List Int64) (h : xH) (N c s : Nat), k + n = 8 → T.2.length + 2 * n < 190000 → zVS h N v fi sz gr me (zsPut X T) →
    (∀ h1 N1 c1 s1, zVS h1 N1 v fi sz gr me (zsPut X (zsTK v me X.2.2.2.1 X.2.2.2.2.1 X.2.2.2.2.2.1 l n k T)) → zFv v h h1 → zCo N c s N1 c1 s1 → zX (d + 4) 45 11 [(0, .inr (20, v)), (2, zi m), (3, zi ((l : Int) + 1))] [] c1 s1 h1 Q) → zX (d + 4) 45 31 [(0, .inr (20, v)), (2, zi m), (3, zi (l : Int)), (4, zi (k : Int))] [] c s h Q := by
  obtain ⟨hvr, hme⟩ := id hr
  obtain ⟨r1, r2, r3, r4⟩ := id hvr
  intro n
  induction n with
  | zero =>
    intro k T h N c s hk ho hV q
    obtain ⟨v1, v2, v3, ⟨fg, v4⟩, v5, v6, v7, v8, v9, v10⟩ := id hV
    exact r_std2 hvr r1 r3 r4 hme hm v10 hl (by omega) (by have : T.2.length < 190000 := ho; exact (by omega : T.2.length + 2 < 200000)) v1 v5 v4 v2 v7 (fun _ => q h N c s hV (fun _ _ _ => rfl) zCo.rf) (fun z => by omega) (fun z => by omega)
  | succ n ih =>
    intro k T h N c s hk ho hV q
    obtain ⟨v1, v2, v3, ⟨fg, v4⟩, v5, ⟨jj, v6⟩, v7, ⟨fb, v8⟩, ⟨gn, gs, gg, v9⟩, v10⟩ := id hV
    refine r_std2 hvr r1 r3 r4 hme hm v10 hl (by omega) (by have : T.2.length + 2 * (n + 1) < 190000 := ho; exact (by omega : T.2.length + 2 < 200000)) v1 v5 v4 v2 v7 (fun z => by omega) (fun _ z => ?_) (fun _ z N1 c1 s1 hb h1 a1 a2 a3 => ?_)
    · have hT : zsT1 v me X.2.2.2.1 X.2.2.2.2.1 X.2.2.2.2.2.1 l k T = T := if_neg z
      refine ih (k + 1) T h N c s (by omega) (by omega) hV (fun h1 N1 c1 s1 b1 => q h1 N1 c1 s1 ?_)
      show zVS h1 N1 v fi sz gr me (zsPut X (zsTK v me X.2.2.2.1 X.2.2.2.2.1 X.2.2.2.2.2.1 l n (k + 1) (zsT1 v me X.2.2.2.1 X.2.2.2.2.1 X.2.2.2.2.2.1 l k T)))
      rw [hT]
      exact b1
    · have hF : zFv v h h1 := fun a b hn => a3 a b (by omega)
      have hV1 : zVS h1 N1 v fi sz gr me (zsPut X (zsT1 v me X.2.2.2.1 X.2.2.2.2.1 X.2.2.2.2.2.1 l k T)) := by
        rw [show zsT1 v me X.2.2.2.1 X.2.2.2.2.1 X.2.2.2.2.2.1 l k T = _ from if_pos z]
        exact ⟨(a3 _ _ (by omega)).trans v1, a1, (a3 _ _ (by omega)).trans v3, ⟨fg, v4.fr (fun a b z => a3 a b (by omega))⟩, (a3 _ _ (by omega)).trans v5, ⟨jj, (a3 _ _ (by omega)).trans v6⟩, a2, ⟨fb, v8.fr (fun a b z => a3 a b (by omega))⟩, ⟨gn, gs, gg, v9.fr (fun a b z => a3 a b (by omega))⟩, v10⟩
      exact ih (k + 1) _ h1 N1 c1 s1 (by omega) (by have := zsT1_len (v := v) (me := me) (fn := X.2.2.2.1) (fs := X.2.2.2.2.1) (ff := X.2.2.2.2.2.1) (l := l) (k := k) (T := T); omega) hV1 (fun h2 N2 c2 s2 b1 b2 b3 => q h2 N2 c2 s2 b1 (hF.tr b2) (hb.tr b3))
/-- the last times before this one are due at a mark -/
def zsStop (st : Nat) (m : Int) : Nat := Nat.min 1000 (m - (st : Int)).toNat
theorem zsStop_iff {st : Nat} {m : Int} {u : Nat} : u < zsStop st m ↔ u < 1000 ∧ (u : Int) < m - (st : Int) := by
  unfold zsStop
  rw [show Nat.min 1000 (m - (st : Int)).toNat = min 1000 (m - (st : Int)).toNat from rfl, Nat.lt_min]
  omega
theorem l_stdL {m : Int} {X : zSX} (hr : zSr v fi sz gr me) (hm : -1 ≤ m ∧ m < 1000) : ∀ (n l : Nat) (T : (Nat → Int64) × List Int64) (h : xH) (N c s : Nat), l ≤ 1000 → n = zsStop sz m - l → T.2.length + 16 * n < 189000 → zVS h N v fi sz gr me (zsPut X T) →
    (∀ h1 N1 c1 s1, zVS h1 N1 v fi sz gr me (zsPut X (zsTL v me X.2.2.2.1 X.2.2.2.2.1 X.2.2.2.2.2.1 n l T)) → zFv v h h1 → zCo N c s N1 c1 s1 → Q (.inl none) c1 s1 h1) → zX (d + 4) 45 11 [(0, .inr (20, v)), (2, zi m), (3, zi (l : Int))] [] c s h Q := by
  obtain ⟨hvr, hme⟩ := id hr
  obtain ⟨r1, r2, r3, r4⟩ := id hvr
  intro n
  induction n with
  | zero =>
    intro l T h N c s hl hn ho hV q
    have hst : ¬ l < zsStop sz m := by omega
    rw [zsStop_iff] at hst
    exact r_std1 hvr r1 r3 r4 hme hm hl hV.1 (fun _ => q h N c s hV (fun _ _ _ => rfl) zCo.rf) (fun _ _ => q h N c s hV (fun _ _ _ => rfl) zCo.rf) (fun z1 z2 => absurd ⟨by omega, z2⟩ hst)
  | succ n ih =>
    intro l T h N c s hl hn ho hV q
    obtain ⟨h1, h2⟩ := zsStop_iff.mp (show l < zsStop sz m by omega)
    refine r_std1 hvr r1 r3 r4 hme hm hl hV.1 (fun z => by omega) (fun _ z => by omega) (fun _ _ => ?_)
    refine l_stdK hr hm h1 8 0 T h N c s rfl (by omega) hV (fun h1 N1 c1 s1 a1 a2 a3 => ?_)
    exact ih (l + 1) _ h1 N1 c1 s1 (by omega) (by omega) (by have := zsTK_len (v := v) (me := me) (fn := X.2.2.2.1) (fs := X.2.2.2.2.1) (ff := X.2.2.2.2.2.1) (l := l) 8 0 T; omega) a1 (fun h2 N2 c2 s2 b1 b2 b3 => q h2 N2 c2 s2 b1 (zFv.tr a2 b2) (a3.tr b3))
noncomputable def zsDue (v sz : Nat) (me : Int) (b m : Int) (X : zSX) : zSX := zsPut X (zsTL v me X.2.2.2.1 X.2.2.2.2.1 X.2.2.2.2.2.1 (zsStop sz m - (b - (sz : Int)).toNat) (b - (sz : Int)).toNat (X.1, X.2.2.2.2.2.2))
theorem s_std {b m : Int} {c s N : Nat} {h : xH} {X : zSX} (hr : zSr v fi sz gr me) (hb : -1 ≤ b ∧ b < 1000) (hm : -1 ≤ m ∧ m < 1000) (ho : X.2.2.2.2.2.2.length < 170000) (hV : zVS h N v fi sz gr me X)
    (q : ∀ h1 N1 c1 s1, zVS h1 N1 v fi sz gr me (zsDue v sz me b m X) → zFv v h h1 → zCo N c s N1 c1 s1 → Q (.inl none) c1 s1 h1) : zX (d + 4) 45 0 [(0, .inr (20, v)), (1, zi b), (2, zi m)] [] c s h Q := by
  obtain ⟨hvr, hme⟩ := id hr
  obtain ⟨r1, r2, r3, r4⟩ := id hvr
  refine r_std0 hvr r1 r3 r4 hme hb hm hV.1 ?_
  rw [show (if 0 < (b - (sz : Int)) then (b - (sz : Int)) else 0) = (((b - (sz : Int)).toNat : Nat) : Int) from by split <;> omega]
  have h1 : zsStop sz m ≤ 1000 := Nat.min_le_left _ _
  exact l_stdL hr hm _ _ (X.1, X.2.2.2.2.2.2) h N c s (by omega) rfl (by dsimp only; omega) hV q
end ZX65
