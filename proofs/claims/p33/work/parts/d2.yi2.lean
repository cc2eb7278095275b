set_option maxRecDepth 100000
section YD2
variable {v : Nat} {C : zCf} {m b : Int} {S : zSt} {J : List zE} {e : zE} {out : List Int64} {Cs : List zCf} {B : Nat} {G : zVL × List Int64} {P P2 : Nat → zPT}
theorem zsnoc {P : List zE → Prop} (h0 : P []) (h1 : ∀ J e, P J → P (J ++ [e])) (J : List zE) : P J := by
  have h : ∀ l : List zE, P l.reverse := by
    intro l
    induction l with
    | nil => exact h0
    | cons a r ih => rw [List.reverse_cons]; exact h1 _ _ ih
  have := h J.reverse
  rw [List.reverse_reverse] at this
  exact this
/-- places and marks behind a journal -/
def zPf (J : List zE) : Nat → zPT := J.foldl zaP (fun _ => zP0)
theorem zPf_app : zPf (J ++ [e]) = zaP (zPf J) e := by
  unfold zPf
  rw [List.foldl_append]
  rfl
def zMk (J : List zE) : Int := zlm (zPf J) 3 0 1000
theorem zlm_s3 (h : ∀ p, p < 3 → (P p).2.1 = (P2 p).2.1) : zlm P 3 0 1000 = zlm P2 3 0 1000 := by
  simp only [zlm, h 0 (by omega), h 1 (by omega), h 2 (by omega)]
theorem zlm_mono (h : ∀ j, (P j).2.1 ≤ (P2 j).2.1) : ∀ (n p : Nat) (a a2 : Int), a ≤ a2 → zlm P n p a ≤ zlm P2 n p a2 := by
  intro n
  induction n with
  | zero => intro p a a2 ha; exact ha
  | succ n ih =>
    intro p a a2 ha
    show zlm P n (p + 1) (if (P p).2.1 < a then (P p).2.1 else a) ≤ zlm P2 n (p + 1) (if (P2 p).2.1 < a2 then (P2 p).2.1 else a2)
    refine ih _ _ _ ?_
    have := h p
    split <;> split <;> omega
/-- marks of a journal's entries -/
def zJA (J : List zE) : Prop := ∀ (j : Nat) (e : zE), J[j]? = some e → zeA e = zMk (J.take j) ∧ -12 ≤ zeB e ∧ zeB e < 90
theorem ztk_app {j : Nat} (h : j ≤ J.length) : (J ++ [e]).take j = J.take j := List.take_append_of_le_length h
theorem zJA.pre (h : zJA (J ++ [e])) : zJA J := fun j x hx => by
  have hlt := (List.getElem?_eq_some_iff.mp hx).1
  have := h j x (by rw [List.getElem?_append_left hlt]; exact hx)
  rw [ztk_app (by omega)] at this
  exact this
theorem zJA.last (h : zJA (J ++ [e])) : zeA e = zMk J ∧ -12 ≤ zeB e ∧ zeB e < 90 := by
  have := h J.length e (by rw [List.getElem?_append_right (Nat.le_refl _), Nat.sub_self]; rfl)
  rw [ztk_app (Nat.le_refl _), List.take_length] at this
  exact this
theorem zJA.take (h : zJA J) (n : Nat) : zJA (J.take n) := fun j x hx => by
  have hx2 := hx
  rw [List.getElem?_take] at hx
  split at hx
  next hlt =>
    have := h j x hx
    rw [List.take_take, Nat.min_eq_left (by omega)]
    exact this
  next => cases hx
theorem zJz.take (h : zJz J) (n : Nat) : zJz (J.take n) := fun j x hx => by
  rw [List.getElem?_take] at hx
  split at hx
  · exact h j x hx
  · cases hx
theorem zPf_r : ∀ (J : List zE), zJA J → ∀ p, -1 ≤ (zPf J p).2.1 ∧ (zPf J p).2.1 < 90 := by
  refine zsnoc (fun _ p => ⟨show (-1 : Int) ≤ -1 from by decide, show (-1 : Int) < 90 from by decide⟩) (fun J e ih h p => ?_)
  have h1 := ih h.pre p
  have h2 := h.last
  rw [zPf_app]
  unfold zaP
  by_cases hp : p = zeP e
  · rw [if_pos hp]
    subst hp
    show -1 ≤ (if (zPf J (zeP e)).2.1 < zeB e then zeB e else (zPf J (zeP e)).2.1) ∧ (if (zPf J (zeP e)).2.1 < zeB e then zeB e else (zPf J (zeP e)).2.1) < 90
    split <;> omega
  · rw [if_neg hp]
    exact h1
theorem zMk_r (h : zJA J) : -1 ≤ zMk J ∧ zMk J < 90 := by
  have h1 := zPf_r J h
  have h2 := zlm_ge (P := zPf J) (fun j _ => (h1 j).1)
  have h3 := zlm_all (P := zPf J) (p := 0) (by omega)
  have h4 := (h1 0).2
  unfold zMk
  omega
theorem zaP_mono (P : Nat → zPT) (e : zE) (p : Nat) : (P p).2.1 ≤ (zaP P e p).2.1 ∧ (P p).1 ≤ (zaP P e p).1 := by
  unfold zaP
  by_cases hp : p = zeP e
  · rw [if_pos hp]
    subst hp
    show (P (zeP e)).2.1 ≤ (if (P (zeP e)).2.1 < zeB e then zeB e else (P (zeP e)).2.1) ∧ (P (zeP e)).1 ≤ (P (zeP e)).1 + 1
    exact ⟨by split <;> omega, Nat.le_succ _⟩
  · rw [if_neg hp]
    exact ⟨Int.le_refl _, Nat.le_refl _⟩
theorem zMk_mono : zMk J ≤ zMk (J ++ [e]) := by
  unfold zMk
  rw [zPf_app]
  exact zlm_mono (fun j => (zaP_mono (zPf J) e j).1) 3 0 1000 1000 (Int.le_refl _)
/-- marks and places as a journal says -/
def zPm (P : Nat → zPT) (J : List zE) : Prop := ∀ p, p < 3 → (P p).1 = (zPf J p).1 ∧ (P p).2.1 = (zPf J p).2.1
theorem zPm.lm (h : zPm P J) : zlm P 3 0 1000 = zMk J := zlm_s3 (fun p hp => (h p hp).2)
theorem zPm.ap (h : zPm P J) : zPm (zaP P e) (J ++ [e]) := fun p hp => by
  rw [zPf_app]
  obtain ⟨h1, h2⟩ := h p hp
  unfold zaP
  by_cases hpe : p = zeP e
  · rw [if_pos hpe, if_pos hpe]
    subst hpe
    show (P (zeP e)).1 + 1 = (zPf J (zeP e)).1 + 1 ∧ (if (P (zeP e)).2.1 < zeB e then zeB e else (P (zeP e)).2.1) = (if (zPf J (zeP e)).2.1 < zeB e then zeB e else (zPf J (zeP e)).2.1)
    rw [h1, h2]
    exact ⟨rfl, rfl⟩
  · rw [if_neg hpe, if_neg hpe]
    exact ⟨h1, h2⟩
/-- so many outputs there may be -/
def zGb (J : List zE) : Nat := 5 * (254 * J.length + 16 * (zMk J + 1).toNat)
theorem zGb_lt (hJ : J.length ≤ 72) (h : zJA J) : zGb J < 100000 := by
  have := zMk_r h
  unfold zGb
  omega
/-- all views behind the journal -/
abbrev zGJ (Cs : List zCf) (J : List zE) (G : zVL × List Int64) : Prop := zGI Cs (fun _ => (J, zMk J)) (zGb J) G
/-- one entry more -/
theorem zGJ.step (hC : Cs.length ≤ 5) (hJ : J.length < 72) (hw : zJz (J ++ [e])) (hA : zJA (J ++ [e])) (hP : zPm P J) (h : zGJ Cs J G) :
    (∀ j, j ≤ G.1.length → zaOk (zaT e j 0 G)) ∧ (∀ j, j ≤ G.1.length → zaOkD (zeA e) (zlm (zaP P e) 3 0 1000) (zaD (zeA e) (zlm (zaP P e) 3 0 1000) j 0 (zaT e G.1.length 0 G))) ∧ zGJ Cs (J ++ [e]) (zaAp e P G) := by
  have hl := hA.last
  have hr1 := zMk_r hA.pre
  have hr2 := zMk_r hA
  have hlm : zlm (zaP P e) 3 0 1000 = zMk (J ++ [e]) := hP.ap.lm
  have hmo := zMk_mono (J := J) (e := e)
  have hlen : (J ++ [e]).length = J.length + 1 := zlen1
  have hB : zGb J = 5 * (254 * J.length + 16 * (zMk J + 1).toNat) := rfl
  have hB2 : zGb (J ++ [e]) = 5 * (254 * (J.length + 1) + 16 * (zMk (J ++ [e]) + 1).toNat) := by unfold zGb; rw [hlen]
  have hT : ∀ n, zGI Cs (fun j => if 0 ≤ j ∧ j < 0 + n then (J ++ [e], zMk J) else (J, zMk J)) (zGb J + 182 * n) (zaT e n 0 G) := fun n => zGI.tn hC hJ hw hl.1 n 0 (fun _ => (J, zMk J)) (zGb J) G (fun _ _ => rfl) h
  have hG := h.1
  have hT2 : zGI Cs (fun _ => (J ++ [e], zMk J)) (zGb J + 910) (zaT e G.1.length 0 G) := (hT G.1.length).cg (fun i hi => (if_pos (by omega)).symm) (by omega)
  rw [hlm, hl.1]
  have hD : ∀ n, n ≤ 5 → zGI Cs (fun j => if 0 ≤ j ∧ j < 0 + n then (J ++ [e], zMk (J ++ [e])) else (J ++ [e], zMk J)) (zGb J + 910 + (72 + 16 * (zMk (J ++ [e]) - zMk J).toNat) * 5) (zaD (zMk J) (zMk (J ++ [e])) n 0 (zaT e G.1.length 0 G)) := fun n hn => (zGI.dn hC (by omega) hw hr1.1 hmo n 0 (fun _ => (J ++ [e], zMk J)) (zGb J + 910) (zaT e G.1.length 0 G) (fun _ _ => rfl) hT2).cg (fun _ _ => rfl) (Nat.add_le_add_left (Nat.mul_le_mul_left _ hn) _)
  refine ⟨fun j hj => (hT j).ok hC (by omega) (fun i => ?_), fun j hj => (hD j (by omega)).okd hC hr1.1 hmo (by omega) (fun i => ?_), ?_⟩
  · show (if 0 ≤ i ∧ i < 0 + j then (J ++ [e], zMk J) else (J, zMk J)).1.length ≤ 72
    split
    · show (J ++ [e]).length ≤ 72; omega
    · show J.length ≤ 72; omega
  · show (if 0 ≤ i ∧ i < 0 + j then (J ++ [e], zMk (J ++ [e])) else (J ++ [e], zMk J)).1.length ≤ 72 ∧ zJz (if 0 ≤ i ∧ i < 0 + j then (J ++ [e], zMk (J ++ [e])) else (J ++ [e], zMk J)).1 ∧ (if 0 ≤ i ∧ i < 0 + j then (J ++ [e], zMk (J ++ [e])) else (J ++ [e], zMk J)).2 ≤ _
    split
    · exact ⟨by show (J ++ [e]).length ≤ 72; omega, hw, Int.le_refl _⟩
    · exact ⟨by show (J ++ [e]).length ≤ 72; omega, hw, hmo⟩
  · unfold zaAp
    rw [hlm, hl.1]
    by_cases hc : zMk J < zMk (J ++ [e])
    · rw [if_pos hc, zaT_len]
      exact (hD G.1.length (by omega)).cg (fun i hi => (if_pos (by omega)).symm) (by rw [hB2]; omega)
    · rw [if_neg hc]
      have he : zMk (J ++ [e]) = zMk J := by omega
      exact hT2.cg (fun i hi => by rw [he]) (by rw [hB2]; omega)
theorem zcF_app {X : zcX} : zcF (J ++ [e]) X = zcF1 (zcF J X) e := by
  unfold zcF
  rw [List.foldl_append]
  rfl
/-- a fresh beginning, and a journal behind it -/
theorem zGJ.run {X : zcX} (hC : Cs.length ≤ 5) (hP : zPm X.1 []) (h0 : zGJ Cs [] X.2) : ∀ (J : List zE), J.length ≤ 72 → zJz J → zJA J → zPm (zcF J X).1 J ∧ zGJ Cs J (zcF J X).2 := by
  refine zsnoc (fun _ _ _ => ⟨hP, h0⟩) (fun J e ih hl hw hA => ?_)
  rw [zlen1] at hl
  obtain ⟨i1, i2⟩ := ih (by omega) hw.pre hA.pre
  rw [zcF_app]
  exact ⟨i1.ap, (i2.step hC (by omega) hw hA i1).2.2⟩
end YD2
