set_option maxRecDepth 100000
section ZW55
/-- what the telling of a view's window, session .. may touch of all that is there -/
abbrev zFv (v : Nat) (h h1 : xH) : Prop := ∀ a b : Nat, ¬ ((20 ≤ a ∧ a < 60 ∧ b % 8 = v) ∨ (2 ≤ a ∧ a < 4)) → h1 (a, b) = h (a, b)
theorem zanL_le (fa : Nat → Int64) (k : Nat) (y : Int64) : (zanL fa k y).length ≤ 2 := by
  unfold zanL zbkL
  split
  · exact Nat.zero_le _
  · split <;> simp
/-- how many windows there are for a step -/
def zwi (sp : Nat) : Nat := 999 / sp + 1
/-- windows: what is told, what is held, drops, numbers and sums of the rows, the outputs -/
abbrev zWX : Type := (Nat → Int64) × (Nat → Int32) × Int32 × (Nat → Int32) × (Nat → Int32) × List Int64
def zVW (h : xH) (N v : Nat) (fi : Int) (sz gr : Nat) (me : Int) (sp : Nat) (X : zWX) : Prop :=
  zVo h 9 v false fi sz gr X.2.2.1 [zi me, zi (sp : Int), zi (zwi sp : Int), .inr (26, v), .inr (30, v)] ∧ zRes h 21 v (zwi sp * 8) X.1 ∧ h (25, v) = some (.inr (0, 8, zI X.2.1)) ∧ (∃ fg, zTal h 26 v (zwi sp * 8) X.2.2.2.1 X.2.2.2.2.1 fg) ∧ zOut h N X.2.2.2.2.2 ∧ (∃ fb, zRes h 23 v (zwi sp * 8) fb) ∧ ∃ gn gs gg, zTal h 30 v (zwi sp * 8) gn gs gg
theorem zVW.fr {h h1 : xH} {N v : Nat} {fi : Int} {sz gr : Nat} {me : Int} {sp : Nat} {X : zWX} (hv : v < 8) (hV : zVW h N v fi sz gr me sp X) (e : ∀ a b : Nat, (20 ≤ a ∧ a < 60 ∧ b % 8 = v) ∨ (2 ≤ a ∧ a < 4) → h1 (a, b) = h (a, b)) : zVW h1 N v fi sz gr me sp X := by
  obtain ⟨v1, v2, v3, ⟨fg, v4⟩, v5, ⟨fb, v6⟩, gn, gs, gg, v7⟩ := hV
  exact ⟨(e _ _ (by omega)).trans v1, v2.fr (fun a b z => e a b (by omega)), (e _ _ (by omega)).trans v3, ⟨fg, v4.fr (fun a b z => e a b (by omega))⟩, v5.fr (fun a b z => e a b (by omega)), ⟨fb, v6.fr (fun a b z => e a b (by omega))⟩, gn, gs, gg, v7.fr (fun a b z => e a b (by omega))⟩
/-- the range of a window view's numbers -/
def zWr (v : Nat) (fi : Int) (sz gr : Nat) (me : Int) (sp : Nat) : Prop := zVr v fi sz gr ∧ (me = 99 ∨ me = 115 ∨ me = 109) ∧ 1 ≤ sp ∧ sp ≤ sz
theorem zwi_le {sp : Nat} (h : 1 ≤ sp) : zwi sp ≤ 1000 := by
  unfold zwi
  have : 999 / sp ≤ 999 := Nat.div_le_self _ _
  omega
theorem zwi_mul {sp w : Nat} (h : 1 ≤ sp) (hw : w < zwi sp) : w * sp ≤ 999 := by
  unfold zwi at hw
  have h1 : w ≤ 999 / sp := by omega
  exact (Nat.le_div_iff_mul_le h).mp h1
noncomputable def zwRes (v sz sp : Nat) (me : Int) (fn fs : Nat → Int32) (w k : Nat) : Int64 := zro (v : Int) (k : Int) ((w : Int) * (sp : Int)) ((w : Int) * (sp : Int) + (sz : Int)) (zme me (fn (w * 8 + k)) (fs (w * 8 + k)))
def zAd (f : Nat → Int32) (k : Nat) (x : Int32) : Nat → Int32 := zfi f k (f k + x)
/-- a row into a window -/
noncomputable def zwInto (v sz sp : Nat) (me : Int) (e : zE) (w : Nat) (X : zWX) : zWX :=
  (if (w : Int) * (sp : Int) + (sz : Int) ≤ zeA e then zanF X.1 (w * 8 + zeK e) (w * 8 + zeK e) (zwRes v sz sp me (zAd X.2.2.2.1 (w * 8 + zeK e) 1) (zAd X.2.2.2.2.1 (w * 8 + zeK e) (Int32.ofInt (zeV e))) w (zeK e)) else X.1,
   if 0 < X.2.2.2.1 (w * 8 + zeK e) then X.2.1 else zAd X.2.1 (zeK e) (Int32.ofInt 1),
   X.2.2.1, zAd X.2.2.2.1 (w * 8 + zeK e) 1, zAd X.2.2.2.2.1 (w * 8 + zeK e) (Int32.ofInt (zeV e)),
   if (w : Int) * (sp : Int) + (sz : Int) ≤ zeA e then X.2.2.2.2.2 ++ zanL X.1 (w * 8 + zeK e) (zwRes v sz sp me (zAd X.2.2.2.1 (w * 8 + zeK e) 1) (zAd X.2.2.2.2.1 (w * 8 + zeK e) (Int32.ofInt (zeV e))) w (zeK e)) else X.2.2.2.2.2)
theorem s_winto {d c s N v sz gr sp w : Nat} {fi me : Int} {h : xH} {Q : xR → Nat → Nat → xH → Prop} {X : zWX} {e : zE} (hr : zWr v fi sz gr me sp) (hE : zEr e) (hw : w < zwi sp) (ho : X.2.2.2.2.2.length + 2 < 200000) (hV : zVW h N v fi sz gr me sp X) (he : zEn h e)
    (q : ∀ h1 N1 c1 s1, zVW h1 N1 v fi sz gr me sp (zwInto v sz sp me e w X) → zFv v h h1 → zCo N c s N1 c1 s1 → Q (.inl none) c1 s1 h1) : zX (d + 4) 93 0 [(0, .inr (20, v)), (1, zi (w : Int)), (2, .inr (8, zeN e))] [] c s h Q := by
  obtain ⟨hvr, hme, hs1, hs2⟩ := hr
  obtain ⟨r1, r2, r3, r4⟩ := id hvr
  obtain ⟨e1, e2, e3, e4, e5, e6⟩ := hE
  obtain ⟨v1, v2, v3, ⟨fg, v4⟩, v5, ⟨fb, v6⟩, gn, gs, gg, v7⟩ := hV
  have hwi := zwi_le hs1
  have hwm := zwi_mul hs1 hw
  refine r_winto (L := zwi sp * 8) (wi := zwi sp) (w := w) (d := d) hvr r1 r3 r4 ⟨hs1, by omega⟩ rfl hwi hme e2 e3 e4 e6 (zbi_r _) (zbi_r _) e1 e5 hw (by omega) ho v1 he v3 v2 v4 v5 (fun a b h1 b1 b2 b3 => ?_) (fun a b N1 c1 s1 hb h1 b1 b2 b3 b4 b5 => ?_) (fun a b h1 b2 b3 => ?_) (fun a b N1 c1 s1 hb h1 b2 b3 b4 b5 => ?_)
  · have n1 : ¬ (w : Int) * (sp : Int) + (sz : Int) ≤ zeA e := Int.not_le.mpr b
    refine q h1 N c s ⟨(b3 _ _ (by omega)).trans v1, ?_, ?_, ⟨_, b2⟩, ?_, ⟨fb, v6.fr (fun x y z => b3 _ _ (by omega))⟩, gn, gs, gg, v7.fr (fun x y z => b3 _ _ (by omega))⟩ (fun x y z => b3 _ _ (by omega)) ⟨Nat.le_refl _, Nat.le_refl _, Nat.le_refl _⟩
    · rw [show (zwInto v sz sp me e w X).1 = X.1 from if_neg n1]
      exact v2.fr (fun x y z => b3 _ _ (by omega))
    · rw [show (zwInto v sz sp me e w X).2.1 = zAd X.2.1 (zeK e) (Int32.ofInt 1) from if_neg a]
      exact b1
    · rw [show (zwInto v sz sp me e w X).2.2.2.2.2 = X.2.2.2.2.2 from if_neg n1]
      exact v5.fr (fun x y z => b3 _ _ (by omega))
  · refine q h1 N1 c1 s1 ⟨(b5 _ _ (by omega)).trans v1, ?_, ?_, ⟨_, b2⟩, ?_, ⟨fb, v6.fr (fun x y z => b5 _ _ (by omega))⟩, gn, gs, gg, v7.fr (fun x y z => b5 _ _ (by omega))⟩ (fun x y z => b5 _ _ (by omega)) hb
    · rw [show (zwInto v sz sp me e w X).1 = _ from if_pos b]
      exact b3
    · rw [show (zwInto v sz sp me e w X).2.1 = zAd X.2.1 (zeK e) (Int32.ofInt 1) from if_neg a]
      exact b1
    · rw [show (zwInto v sz sp me e w X).2.2.2.2.2 = _ from if_pos b]
      exact b4
  · have n1 : ¬ (w : Int) * (sp : Int) + (sz : Int) ≤ zeA e := Int.not_le.mpr b
    refine q h1 N c s ⟨(b3 _ _ (by omega)).trans v1, ?_, ?_, ⟨_, b2⟩, ?_, ⟨fb, v6.fr (fun x y z => b3 _ _ (by omega))⟩, gn, gs, gg, v7.fr (fun x y z => b3 _ _ (by omega))⟩ (fun x y z => b3 _ _ (by omega)) ⟨Nat.le_refl _, Nat.le_refl _, Nat.le_refl _⟩
    · rw [show (zwInto v sz sp me e w X).1 = X.1 from if_neg n1]
      exact v2.fr (fun x y z => b3 _ _ (by omega))
    · rw [show (zwInto v sz sp me e w X).2.1 = X.2.1 from if_pos a]
      exact (b3 _ _ (by omega)).trans v3
    · rw [show (zwInto v sz sp me e w X).2.2.2.2.2 = X.2.2.2.2.2 from if_neg n1]
      exact v5.fr (fun x y z => b3 _ _ (by omega))
  · refine q h1 N1 c1 s1 ⟨(b5 _ _ (by omega)).trans v1, ?_, ?_, ⟨_, b2⟩, ?_, ⟨fb, v6.fr (fun x y z => b5 _ _ (by omega))⟩, gn, gs, gg, v7.fr (fun x y z => b5 _ _ (by omega))⟩ (fun x y z => b5 _ _ (by omega)) hb
    · rw [show (zwInto v sz sp me e w X).1 = _ from if_pos b]
      exact b3
    · rw [show (zwInto v sz sp me e w X).2.1 = X.2.1 from if_pos a]
      exact (b5 _ _ (by omega)).trans v3
    · rw [show (zwInto v sz sp me e w X).2.2.2.2.2 = _ from if_pos b]
      exact b4
end ZW55
