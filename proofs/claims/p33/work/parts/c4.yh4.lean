set_option maxRecDepth 100000
section YC4
variable {v sz gr : Nat} {me fi m b : Int}
theorem zFs_1 {X : Nat → Int} {t a f : Nat} (h : X a = (f : Int)) : (if X a < (t : Int) then X a else (t : Int)) = ((min t f : Nat) : Int) := by
  rw [h]
  split <;> omega
set_option maxHeartbeats 1000000 in
/-- a row is taken -/
theorem zsTake_iv {J : List zE} {X : zSX} {e : zE} (hv : v < 5) (hJ : J.length < 72) (hk : zeK e < 8) (ht : zeT e < 1000) (hT : ∀ o ∈ J, zeT o < 1000) (hle : zLet false fi e = true) (hm : zeA e = m) (h : zsIv v sz gr me fi J m X) : zsIv v sz gr me fi (J ++ [e]) m (zsTake v sz gr me e X) ∧ zTs v 8000 3 (X.1, X.2.2.2.2.2.2) ((zsTake v sz gr me e X).1, (zsTake v sz gr me e X).2.2.2.2.2.2) := by
  unfold zsTake
  by_cases hl : (zeT e : Int) + (sz : Int) + 1 + (gr : Int) ≤ zeA e
  · have hb : zjtk false sz gr fi e = false := by
      unfold zjtk
      rw [decide_eq_true hl]
      simp
    rw [if_pos hl]
    refine ⟨?_, zTs.rf.le (Nat.zero_le _)⟩
    have e1 : ∀ k, zsP sz gr fi (J ++ [e]) k = zsP sz gr fi J k := fun k => by unfold zsP; rw [zsm_no hb]
    have e2 : ∀ k f l, zsN sz gr fi (J ++ [e]) k f l = zsN sz gr fi J k f l := fun k f l => by unfold zsN; rw [zsm_no hb]
    have e3 : ∀ k f l, zsSu sz gr fi (J ++ [e]) k f l = zsSu sz gr fi J k f l := fun k f l => by unfold zsSu; rw [zss_no hb]
    obtain ⟨i1, i2, i3, i4, i5, i6, i7⟩ := h
    refine ⟨fun k l f hk8 hl8 hc hmm => ?_, fun k l hk8 hl8 hn => ?_, fun k l f hk8 hl8 hc hmm => ?_, fun k l hk8 hl8 hn => ?_, i5, i6, i7⟩
    · rw [e2, e3]
      rw [e1] at hc
      exact i1 k l f hk8 hl8 hc hmm
    · rw [e1] at hn
      exact i2 k l hk8 hl8 hn
    · rw [zsR_eq (e2 k f l) (e3 k f l)]
      rw [e1] at hc
      exact i3 k l f hk8 hl8 hc hmm
    · rw [e1] at hn
      exact i4 k l hk8 hl8 hn
  · rw [if_neg hl]
    have htk : zjtk false sz gr fi e = true := by
      unfold zjtk
      rw [decide_eq_false hl, hle]
      rfl
    have hal : m ≤ (zeT e : Int) + (sz : Int) + (gr : Int) := by omega
    have hP : ∀ x, zsP sz gr fi J (zeK e) x → x < 1000 := fun x hx => zsm_T hT hx
    have hPi : ∀ {F L : Nat}, F ≤ zeT e ∧ zeT e ≤ L → zsN sz gr fi (J ++ [e]) (zeK e) F L = zsN sz gr fi J (zeK e) F L + 1 ∧ zsSu sz gr fi (J ++ [e]) (zeK e) F L = zsSu sz gr fi J (zeK e) F L + zeV e := fun {F L} hFL => by
      obtain ⟨a1, a2⟩ := zsN_in (J := J) (sz := sz) (gr := gr) (fi := fi) htk F L
      have c1 : zeT e < L + 1 := by omega
      have c2 : ¬ zeT e < F := by omega
      rw [if_pos c1, if_neg c2] at a1 a2
      exact ⟨by omega, by omega⟩
    have hhd : ∀ f l, l < 1000 → zCl (zsP sz gr fi J (zeK e)) sz f l → zRc sz f l (zeT e) → X.2.2.2.1 (l * 8 + zeK e) = Int32.ofInt (zsN sz gr fi J (zeK e) f l) ∧ X.2.2.2.2.1 (l * 8 + zeK e) = Int32.ofInt (zsSu sz gr fi J (zeK e) f l) ∧ X.2.2.2.2.2.1 (l * 8 + zeK e) = (f : Int) := fun f l h1 h2 h3 => h.1 _ l f hk h1 h2 (by have := h3.2; omega)
    rcases zsLook_c (by omega) hk hP (by omega) ht h with ⟨z1, z2⟩ | ⟨f1, l1, z1, z2, z3, z4, z5⟩ | ⟨f1, l1, f2, l2, z1, z2, z3, z4, z5, z6, z7, z8⟩
    · rw [z1]
      obtain ⟨C1, C2, C3⟩ := zCl_ins (t := zeT e) (F := zeT e) (L := zeT e) (sz := sz) hP ⟨Nat.le_refl _, Nat.le_refl _⟩ (fun f l hc hr => absurd hr (z2 f l hc)) (Or.inl rfl) (Or.inl rfl)
      obtain ⟨p1, p2⟩ := hPi (F := zeT e) (L := zeT e) ⟨Nat.le_refl _, Nat.le_refl _⟩
      obtain ⟨g1, g2⟩ := zsGap (J := J) (sz := sz) (gr := gr) (fi := fi) (k := zeK e) (a := zeT e) (b := zeT e + 1) (by omega) (fun x x1 x2 x3 => by
        obtain ⟨f, l, w1, w2, w3, w4⟩ := C3 x (by omega) (by omega) x3
        exact z2 f l w3 w4)
      refine zsInto_iv hv hJ hk htk hm hal h ⟨Nat.le_refl _, Nat.le_refl _⟩ ht C1 C2 (fun l hl8 => ⟨fun hx => (by cases hx), fun ⟨f, hc, hr⟩ => absurd hr (z2 f l hc)⟩) (fun x hx => (by cases hx)) List.nodup_nil (by decide) rfl rfl ?_ ?_
      · show Int32.ofInt 1 = _
        rw [p1]
        congr 1
        unfold zsN
        omega
      · show Int32.ofInt (zeV e) = _
        rw [p2]
        congr 1
        unfold zsSu
        omega
    · rw [z1]
      have hfl := z3.2.2.1
      have hu : ∀ f l, zCl (zsP sz gr fi J (zeK e)) sz f l → zRc sz f l (zeT e) → f = f1 ∧ l = l1 := fun f l hc hr => by
        have hll := z5 f l hc hr
        subst hll
        exact ⟨zCl_1 hc z3, rfl⟩
      have hFL : min (zeT e) f1 ≤ zeT e ∧ zeT e ≤ max (zeT e) l1 := by omega
      obtain ⟨C1, C2, C3⟩ := zCl_ins (t := zeT e) (F := min (zeT e) f1) (L := max (zeT e) l1) (sz := sz) hP hFL (fun f l hc hr => by
        obtain ⟨e1, e2⟩ := hu f l hc hr
        omega) (by
        by_cases hc : f1 ≤ zeT e
        · rw [Nat.min_eq_right hc]; exact Or.inr ⟨l1, z3, z4⟩
        · exact Or.inl (by omega)) (by
        by_cases hc : zeT e ≤ l1
        · rw [Nat.max_eq_right hc]; exact Or.inr ⟨f1, z3, z4⟩
        · exact Or.inl (by omega))
      obtain ⟨p1, p2⟩ := hPi hFL
      have hg : ∀ x, min (zeT e) f1 ≤ x → x ≤ max (zeT e) l1 → zsP sz gr fi J (zeK e) x → f1 ≤ x ∧ x ≤ l1 := fun x x1 x2 x3 => by
        obtain ⟨f, l, w1, w2, w3, w4⟩ := C3 x x1 x2 x3
        obtain ⟨e1, e2⟩ := hu f l w3 w4
        omega
      obtain ⟨g1, g2⟩ := zsGap (J := J) (sz := sz) (gr := gr) (fi := fi) (k := zeK e) (a := min (zeT e) f1) (b := f1) (by omega) (fun x x1 x2 x3 => by
        have := hg x x1 (by omega) x3
        omega)
      obtain ⟨g3, g4⟩ := zsGap (J := J) (sz := sz) (gr := gr) (fi := fi) (k := zeK e) (a := l1 + 1) (b := max (zeT e) l1 + 1) (by omega) (fun x x1 x2 x3 => by
        have := hg x (by omega) (by omega) x3
        omega)
      obtain ⟨d1, d2, d3⟩ := hhd f1 l1 z2 z3 z4
      refine zsInto_iv hv hJ hk htk hm hal h hFL (by omega) C1 C2 (fun l hl8 => ⟨fun hx => ?_, fun ⟨f, hc, hr⟩ => ?_⟩) (fun x hx => ⟨l1, z2, List.mem_singleton.mp hx⟩) (List.nodup_cons.mpr ⟨fun z => (by cases z), List.nodup_nil⟩) (by simp) ?_ ?_ ?_ ?_
      · have := List.mem_singleton.mp hx
        have hll : l = l1 := by omega
        subst hll
        exact ⟨f1, z3, z4⟩
      · rw [(hu f l hc hr).2]
        exact List.mem_cons_self
      · exact zFs_1 d3
      · show (if zeT e < (l1 * 8 + zeK e) / 8 then (l1 * 8 + zeK e) / 8 else zeT e) = _
        split <;> omega
      · show Int32.ofInt 1 + X.2.2.2.1 (l1 * 8 + zeK e) = _
        rw [d1, p1, ← Int32.ofInt_add]
        congr 1
        unfold zsN
        omega
      · show Int32.ofInt (zeV e) + X.2.2.2.2.1 (l1 * 8 + zeK e) = _
        rw [d2, p2, ← Int32.ofInt_add]
        congr 1
        unfold zsSu
        omega
    · rw [z1]
      have hfl1 := z4.2.2.1
      have hfl2 := z6.2.2.1
      have hr1 := z5
      have hr2 := z7
      unfold zRc at hr1 hr2
      have hu : ∀ f l, zCl (zsP sz gr fi J (zeK e)) sz f l → zRc sz f l (zeT e) → (f = f1 ∧ l = l1) ∨ (f = f2 ∧ l = l2) := fun f l hc hr => by
        rcases z8 f l hc hr with hll | hll
        · subst hll
          exact Or.inl ⟨zCl_1 hc z4, rfl⟩
        · subst hll
          exact Or.inr ⟨zCl_1 hc z6, rfl⟩
      have hFL : f1 ≤ zeT e ∧ zeT e ≤ l2 := by omega
      obtain ⟨C1, C2, C3⟩ := zCl_ins (t := zeT e) (F := f1) (L := l2) (sz := sz) hP hFL (fun f l hc hr => by
        have := hc.2.2.1
        rcases hu f l hc hr with ⟨e1, e2⟩ | ⟨e1, e2⟩
        · omega
        · omega) (Or.inr ⟨l1, z4, z5⟩) (Or.inr ⟨f2, z6, z7⟩)
      obtain ⟨p1, p2⟩ := hPi hFL
      obtain ⟨g1, g2⟩ := zsGap (J := J) (sz := sz) (gr := gr) (fi := fi) (k := zeK e) (a := l1 + 1) (b := f2) (by omega) (fun x x1 x2 x3 => by
        obtain ⟨f, l, w1, w2, w3, w4⟩ := C3 x (by omega) (by omega) x3
        rcases hu f l w3 w4 with ⟨e1, e2⟩ | ⟨e1, e2⟩
        · omega
        · omega)
      obtain ⟨d1, d2, d3⟩ := hhd f1 l1 (by omega) z4 z5
      obtain ⟨d4, d5, d6⟩ := hhd f2 l2 z3 z6 z7
      refine zsInto_iv hv hJ hk htk hm hal h hFL z3 C1 C2 (fun l hl8 => ⟨fun hx => ?_, fun ⟨f, hc, hr⟩ => ?_⟩) (fun x hx => ?_) (List.nodup_cons.mpr ⟨fun z => ?_, List.nodup_cons.mpr ⟨fun z => (by cases z), List.nodup_nil⟩⟩) (by simp) ?_ ?_ ?_ ?_
      · rcases List.mem_cons.mp hx with hx | hx
        · have hll : l = l1 := by omega
          subst hll
          exact ⟨f1, z4, z5⟩
        · have hx := List.mem_singleton.mp hx
          have hll : l = l2 := by omega
          subst hll
          exact ⟨f2, z6, z7⟩
      · rcases hu f l hc hr with ⟨-, e2⟩ | ⟨-, e2⟩
        · rw [e2]; exact List.mem_cons_self
        · rw [e2]; exact List.mem_cons_of_mem _ List.mem_cons_self
      · rcases List.mem_cons.mp hx with hx | hx
        · exact ⟨l1, by omega, hx⟩
        · exact ⟨l2, z3, List.mem_singleton.mp hx⟩
      · have z := List.mem_singleton.mp z
        omega
      · show (if X.2.2.2.2.2.1 (l2 * 8 + zeK e) < (if X.2.2.2.2.2.1 (l1 * 8 + zeK e) < (zeT e : Int) then X.2.2.2.2.2.1 (l1 * 8 + zeK e) else (zeT e : Int)) then X.2.2.2.2.2.1 (l2 * 8 + zeK e) else (if X.2.2.2.2.2.1 (l1 * 8 + zeK e) < (zeT e : Int) then X.2.2.2.2.2.1 (l1 * 8 + zeK e) else (zeT e : Int))) = _
        rw [d6, d3]
        have c1 : (f1 : Int) < (zeT e : Int) ∨ ¬ (f1 : Int) < (zeT e : Int) := by omega
        rcases c1 with c1 | c1
        · rw [if_pos c1]
          split <;> omega
        · rw [if_neg c1]
          split <;> omega
      · show (if (if zeT e < (l1 * 8 + zeK e) / 8 then (l1 * 8 + zeK e) / 8 else zeT e) < (l2 * 8 + zeK e) / 8 then (l2 * 8 + zeK e) / 8 else (if zeT e < (l1 * 8 + zeK e) / 8 then (l1 * 8 + zeK e) / 8 else zeT e)) = _
        have c1 : ¬ zeT e < (l1 * 8 + zeK e) / 8 := by omega
        rw [if_neg c1]
        split <;> omega
      · show Int32.ofInt 1 + X.2.2.2.1 (l1 * 8 + zeK e) + X.2.2.2.1 (l2 * 8 + zeK e) = _
        rw [d1, d4, p1, ← Int32.ofInt_add, ← Int32.ofInt_add]
        congr 1
        unfold zsN
        omega
      · show Int32.ofInt (zeV e) + X.2.2.2.2.1 (l1 * 8 + zeK e) + X.2.2.2.2.1 (l2 * 8 + zeK e) = _
        rw [d2, d5, p2, ← Int32.ofInt_add, ← Int32.ofInt_add]
        congr 1
        unfold zsSu
        omega
end YC4
