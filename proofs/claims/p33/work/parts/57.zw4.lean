set_option maxRecDepth 100000
section ZW57
theorem zCo.tr {N c s N1 c1 s1 N2 c2 s2 : Nat} (a : zCo N c s N1 c1 s1) (b : zCo N1 c1 s1 N2 c2 s2) : zCo N c s N2 c2 s2 := ⟨by omega, by omega, by omega⟩
theorem zCo.rf {N c s : Nat} : zCo N c s N c s := ⟨Nat.le_refl _, Nat.le_refl _, Nat.le_refl _⟩
theorem zFv.tr {v : Nat} {h h1 h2 : xH} (a : zFv v h h1) (b : zFv v h1 h2) : zFv v h h2 := fun x y z => (b x y z).trans (a x y z)
theorem zEn.fr {v : Nat} {h h1 : xH} {e : zE} (he : zEn h e) (f : zFv v h h1) : zEn h1 e := (f _ _ (by omega)).trans he
variable {d v sz gr sp : Nat} {fi me : Int} {Q : xR → Nat → Nat → xH → Prop}
/-- a row and one of the windows that have its time -/
noncomputable def zwRow (v sz gr sp : Nat) (me : Int) (e : zE) (w : Nat) (X : zWX) : zWX := if (w : Int) * (sp : Int) + (sz : Int) + (gr : Int) ≤ zeA e then (X.1, X.2.1, X.2.2.1 + Int32.ofInt 1, X.2.2.2) else zwInto v sz sp me e w X
noncomputable def zwTakeN (v sz gr sp : Nat) (me : Int) (e : zE) : Nat → Nat → zWX → zWX
  | 0, _, X => X
  | n + 1, w, X => zwTakeN v sz gr sp me e n (w + 1) (zwRow v sz gr sp me e w X)
noncomputable def zwTake (v sz gr sp : Nat) (me : Int) (e : zE) (X : zWX) : zWX := zwTakeN v sz gr sp me e (zeT e / sp + 1 - zfe sz sp (zeT e : Int)) (zfe sz sp (zeT e : Int)) X
theorem zwRow_len {e : zE} {w : Nat} {X : zWX} : (zwRow v sz gr sp me e w X).2.2.2.2.2.length ≤ X.2.2.2.2.2.length + 2 := by
  unfold zwRow
  split
  · exact Nat.le_add_right _ _
  · unfold zwInto
    dsimp only
    split
    · rw [List.length_append]
      have := zanL_le X.1 (w * 8 + zeK e) (zwRes v sz sp me (zAd X.2.2.2.1 (w * 8 + zeK e) 1) (zAd X.2.2.2.2.1 (w * 8 + zeK e) (Int32.ofInt (zeV e))) w (zeK e))
      omega
    · exact Nat.le_add_right _ _
theorem zmul_0 (a b : Nat) : 0 ≤ (a : Int) * (b : Int) := by
  rw [← Int.natCast_mul]
  omega
theorem zmul_c (a b : Nat) : (a : Int) * (b : Int) = ((a * b : Nat) : Int) := (Int.natCast_mul a b).symm
theorem l_wtake {e : zE} {la : Nat} (hr : zWr v fi sz gr me sp) (hE : zEr e) (hla : la < zwi sp) : ∀ (n w : Nat) (X : zWX) (h : xH) (N c s : Nat), w + n = la + 1 → X.2.2.2.2.2.length + 2 * n < 190000 → zVW h N v fi sz gr me sp X → zEn h e →
    (∀ h1 N1 c1 s1, zVW h1 N1 v fi sz gr me sp (zwTakeN v sz gr sp me e n w X) → zFv v h h1 → zCo N c s N1 c1 s1 → Q (.inl none) c1 s1 h1) → zX (d + 5) 92 18 [(0, .inr (20, v)), (1, .inr (8, zeN e)), (2, zi (la : Int)), (3, zi (w : Int))] [] c s h Q := by
  obtain ⟨hvr, hme, hs1, hs2⟩ := id hr
  obtain ⟨r1, r2, r3, r4⟩ := id hvr
  obtain ⟨e1, e2, e3, e4, e5, e6⟩ := id hE
  have hwi := zwi_le hs1
  intro n
  induction n with
  | zero =>
    intro w X h N c s hw ho hV he q
    exact r_wtk3 (L := zwi sp * 8) (wi := zwi sp) hvr r1 r3 r4 ⟨hs1, by omega⟩ rfl hwi hme hE e2 e3 e4 e6 e5 (zbi_r _) (zbi_r _) (by omega) (by omega) (by omega) hV.1 he (q h N c s hV (fun _ _ _ => rfl) zCo.rf)
  | succ n ih =>
    intro w X h N c s hw ho hV he q
    have hwz : w < zwi sp := by omega
    have hm := zwi_mul hs1 hwz
    have hm2 := zmul_c w sp
    by_cases hlt : (w : Int) * (sp : Int) + (sz : Int) + (gr : Int) ≤ zeA e
    · refine r_wtk1 (d := d + 3) (L := zwi sp * 8) (wi := zwi sp) hvr r1 r3 r4 ⟨hs1, by omega⟩ rfl hwi hme hE e2 e3 e4 e6 e5 (zbi_r _) (zbi_r _) (by omega) (by omega) (by omega) (by omega) (zmul_0 _ _) hlt hV.1 he (fun h1 a1 a2 => ?_)
      have hF : zFv v h h1 := fun a b hn => a2 a b (by omega)
      have hX : zwRow v sz gr sp me e w X = (X.1, X.2.1, X.2.2.1 + Int32.ofInt 1, X.2.2.2) := if_pos hlt
      have hV1 : zVW h1 N v fi sz gr me sp (zwRow v sz gr sp me e w X) := by
        rw [hX]
        obtain ⟨v1, v2, v3, ⟨fg, v4⟩, v5, ⟨fb, v6⟩, gn, gs, gg, v7⟩ := hV
        exact ⟨a1, v2.fr (fun a b z => a2 a b (by omega)), (a2 _ _ (by omega)).trans v3, ⟨fg, v4.fr (fun a b z => a2 a b (by omega))⟩, v5.fr (fun a b z => a2 a b (by omega)), ⟨fb, v6.fr (fun a b z => a2 a b (by omega))⟩, gn, gs, gg, v7.fr (fun a b z => a2 a b (by omega))⟩
      exact ih (w + 1) _ h1 N c s (by omega) (by have := zwRow_len (v := v) (sz := sz) (gr := gr) (sp := sp) (me := me) (e := e) (w := w) (X := X); omega) hV1 (he.fr hF) (fun h2 N2 c2 s2 b1 b2 b3 => q h2 N2 c2 s2 b1 (hF.tr b2) b3)
    · refine r_wtk2 (dr := 0) (L := zwi sp * 8) (wi := zwi sp) hr hvr r1 r3 r4 ⟨hs1, by omega⟩ rfl hwi hme hE e2 e3 e4 e6 e5 (zbi_r _) (zbi_r _) (by omega) (by omega) (by omega) (by omega) (zmul_0 _ _) (by omega) hwz (by omega) he hV (fun N1 c1 s1 hb h1 a1 a2 => ?_)
      rw [show zwInto v sz sp me e w X = zwRow v sz gr sp me e w X from (if_neg hlt).symm] at a1
      exact ih (w + 1) _ h1 N1 c1 s1 (by omega) (by have := zwRow_len (v := v) (sz := sz) (gr := gr) (sp := sp) (me := me) (e := e) (w := w) (X := X); omega) a1 (he.fr a2) (fun h2 N2 c2 s2 b1 b2 b3 => q h2 N2 c2 s2 b1 (zFv.tr a2 b2) (hb.tr b3))
/-- a row is taken by the windows that have its time -/
theorem s_wtake {c s N : Nat} {h : xH} {X : zWX} {e : zE} (hr : zWr v fi sz gr me sp) (hE : zEr e) (ho : X.2.2.2.2.2.length < 180000) (hV : zVW h N v fi sz gr me sp X) (he : zEn h e)
    (q : ∀ h1 N1 c1 s1, zVW h1 N1 v fi sz gr me sp (zwTake v sz gr sp me e X) → zFv v h h1 → zCo N c s N1 c1 s1 → Q (.inl none) c1 s1 h1) : zX (d + 5) 92 0 [(0, .inr (20, v)), (1, .inr (8, zeN e))] [] c s h Q := by
  obtain ⟨hvr, hme, hs1, hs2⟩ := id hr
  obtain ⟨r1, r2, r3, r4⟩ := id hvr
  obtain ⟨e1, e2, e3, e4, e5, e6⟩ := id hE
  have hwi := zwi_le hs1
  have hla : zeT e / sp < zwi sp := by
    unfold zwi
    have : zeT e / sp ≤ 999 / sp := Nat.div_le_div_right (by omega)
    omega
  have hfe : zfe sz sp (zeT e : Int) ≤ zeT e / sp + 1 := by
    unfold zfe
    split
    · exact Nat.zero_le _
    · have h1 : ((zeT e : Int) - (sz : Int)) / (sp : Int) = (((zeT e - sz) / sp : Nat) : Int) := by
        rw [← Int.ofNat_sub (by omega)]
        rfl
      have h2 : (zeT e - sz) / sp ≤ zeT e / sp := Nat.div_le_div_right (by omega)
      rw [h1, Int.toNat_natCast]
      exact Nat.succ_le_succ h2
  refine r_wtake0 (d := d + 4) (L := zwi sp * 8) (wi := zwi sp) hvr r1 r3 r4 ⟨hs1, by omega⟩ rfl hwi hme hE e2 e3 e4 e6 e5 (zbi_r _) (zbi_r _) hV.1 he ?_
  refine l_wtake hr hE hla _ _ X h N c s (Nat.add_sub_of_le hfe) ?_ hV he q
  have hb : zeT e / sp ≤ 999 := Nat.le_trans (Nat.div_le_self _ _) (by omega)
  omega
end ZW57
