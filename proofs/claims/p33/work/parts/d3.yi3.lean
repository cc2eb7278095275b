set_option maxRecDepth 100000
section YD3
variable {v sz gr : Nat} {me m b : Int} {C : zCf} {e : zE} {out : List Int64}
/-- the same sessions, whatever firsts stand where none is held -/
def zsM (X1 X2 : zSX) : Prop := X1.1 = X2.1 ∧ X1.2.1 = X2.2.1 ∧ X1.2.2.1 = X2.2.2.1 ∧ X1.2.2.2.1 = X2.2.2.2.1 ∧ X1.2.2.2.2.1 = X2.2.2.2.2.1 ∧ (∀ j, j < 8000 → 0 < X1.2.2.2.1 j → X1.2.2.2.2.2.1 j = X2.2.2.2.2.2.1 j) ∧ X1.2.2.2.2.2.2 = X2.2.2.2.2.2.2
theorem zsLk_m {fn : Nat → Int32} {f1 f2 : Nat → Int} (hk : zeK e < 8) (hf : ∀ j, j < 8000 → 0 < fn j → f1 j = f2 j) : ∀ (n l : Nat) (js : List Nat), (∀ u, l ≤ u → u < l + n → u < 1000) → zsLk sz fn f1 e n l js = zsLk sz fn f2 e n l js := by
  intro n
  induction n with
  | zero => intro l js _; rfl
  | succ n ih =>
    intro l js hu
    show (if 2 ≤ js.length then js else zsLk sz fn f1 e n (l + 1) (if zsRe sz fn f1 (l * 8 + zeK e) (zeT e : Int) then js ++ [l * 8 + zeK e] else js)) = (if 2 ≤ js.length then js else zsLk sz fn f2 e n (l + 1) (if zsRe sz fn f2 (l * 8 + zeK e) (zeT e : Int) then js ++ [l * 8 + zeK e] else js))
    have hl := hu l (Nat.le_refl _) (by omega)
    have hr : zsRe sz fn f1 (l * 8 + zeK e) (zeT e : Int) ↔ zsRe sz fn f2 (l * 8 + zeK e) (zeT e : Int) := by
      constructor
      · rintro ⟨a, b1, b2⟩
        rw [hf _ (by omega) a] at b1
        exact ⟨a, b1, b2⟩
      · rintro ⟨a, b1, b2⟩
        rw [← hf _ (by omega) a] at b1
        exact ⟨a, b1, b2⟩
    have hif : (if zsRe sz fn f1 (l * 8 + zeK e) (zeT e : Int) then js ++ [l * 8 + zeK e] else js) = (if zsRe sz fn f2 (l * 8 + zeK e) (zeT e : Int) then js ++ [l * 8 + zeK e] else js) := by
      by_cases hc : zsRe sz fn f1 (l * 8 + zeK e) (zeT e : Int)
      · rw [if_pos hc, if_pos (hr.mp hc)]
      · rw [if_neg hc, if_neg (fun z => hc (hr.mpr z))]
    rw [hif, ih (l + 1) _ (fun u h1 h2 => hu u (by omega) (by omega))]
theorem zsFi_m {f1 f2 : Nat → Int} : ∀ (js : List Nat) (x : Int), (∀ a ∈ js, f1 a = f2 a) → js.foldl (fun x a => if f1 a < x then f1 a else x) x = js.foldl (fun x a => if f2 a < x then f2 a else x) x := by
  intro js
  induction js with
  | nil => intro x _; rfl
  | cons a r ih =>
    intro x h
    show r.foldl _ (if f1 a < x then f1 a else x) = r.foldl _ (if f2 a < x then f2 a else x)
    rw [h a List.mem_cons_self]
    exact ih _ (fun y hy => h y (List.mem_cons_of_mem _ hy))
set_option maxHeartbeats 1000000 in
theorem zsTake_m {X1 X2 : zSX} (hk : zeK e < 8) (ht : zeT e < 1000) (h : zsM X1 X2) : zsM (zsTake v sz gr me e X1) (zsTake v sz gr me e X2) := by
  obtain ⟨t, hd, dr, fn, fs, f1, o⟩ := X1
  obtain ⟨t2, hd2, dr2, fn2, fs2, f2, o2⟩ := X2
  obtain ⟨h1, h2, h3, h4, h5, hf, h7⟩ := h
  dsimp only at h1 h2 h3 h4 h5 hf h7
  subst h1 h2 h3 h4 h5 h7
  unfold zsTake
  by_cases hl : (zeT e : Int) + (sz : Int) + 1 + (gr : Int) ≤ zeA e
  · rw [if_pos hl, if_pos hl]
    exact ⟨rfl, rfl, rfl, rfl, rfl, hf, rfl⟩
  · rw [if_neg hl, if_neg hl]
    dsimp only
    have hlk : zsLook sz fn f1 e = zsLook sz fn f2 e := zsLk_m hk hf _ _ _ (fun u h1 h2 => by omega)
    rw [← hlk]
    obtain ⟨r, r1, r2, r3, r4, r5⟩ := zsLk_sp (sz := sz) (fn := fn) (ff := f1) (e := e) (1000 - (zeT e - sz)) (zeT e - sz) [] (Nat.zero_le _)
    have hlook : zsLook sz fn f1 e = r := r1
    rw [hlook]
    have hjs : ∀ x ∈ r, x < 8000 ∧ 0 < fn x := fun x hx => by
      obtain ⟨u, u1, u2, u3, u4⟩ := r3 x hx
      subst u1
      exact ⟨by omega, u4.1⟩
    have hnd : r.Nodup := List.Pairwise.imp (fun {a b} hab => Nat.ne_of_lt hab) r4
    have hfi : zsFi e r f1 = zsFi e r f2 := zsFi_m r _ (fun a ha => hf a (hjs a ha).1 (hjs a ha).2)
    have hat : ∀ j, j ≠ 8000 → (zAd (zfi fn 8000 0) 8000 1) j = fn j := fun j hj => by
      rw [zAd_at, if_neg hj]
      exact if_neg hj
    obtain ⟨-, G3⟩ := zsJs_at r (zAd (zfi fn 8000 0) 8000 1, zAd (zfi fs 8000 0) 8000 (Int32.ofInt (zeV e))) (fun a ha => ⟨(hjs a ha).1, by
      show 0 < (zAd (zfi fn 8000 0) 8000 1) a
      rw [hat a (by have := (hjs a ha).1; omega)]
      exact (hjs a ha).2⟩) hnd
    have hG : zsJs e r fn fs = r.foldl zsSf (zAd (zfi fn 8000 0) 8000 1, zAd (zfi fs 8000 0) 8000 (Int32.ofInt (zeV e))) := rfl
    rw [← hG] at G3
    unfold zsInto
    dsimp only
    rw [← hfi]
    have hres : zsRes v me (zaaN (zsJs e r fn fs).1 (zsK e r) 8000) (zaaS (zsJs e r fn fs).1 (zsJs e r fn fs).2 (zsK e r) 8000) (zfi f1 (zsK e r) (zsFi e r f1)) (zsK e r) = zsRes v me (zaaN (zsJs e r fn fs).1 (zsK e r) 8000) (zaaS (zsJs e r fn fs).1 (zsJs e r fn fs).2 (zsK e r) 8000) (zfi f2 (zsK e r) (zsFi e r f1)) (zsK e r) := by
      unfold zsRes zfi
      rw [if_pos rfl, if_pos rfl]
    have htj : zsTj v sz me e r (zsK e r) (zaaN (zsJs e r fn fs).1 (zsK e r) 8000) (zaaS (zsJs e r fn fs).1 (zsJs e r fn fs).2 (zsK e r) 8000) (zfi f1 (zsK e r) (zsFi e r f1)) (t, o) = zsTj v sz me e r (zsK e r) (zaaN (zsJs e r fn fs).1 (zsK e r) 8000) (zaaS (zsJs e r fn fs).1 (zsJs e r fn fs).2 (zsK e r) 8000) (zfi f2 (zsK e r) (zsFi e r f1)) (t, o) := by
      unfold zsTj
      rw [hres]
    rw [htj]
    refine ⟨rfl, rfl, rfl, rfl, rfl, fun j hj hp => ?_, rfl⟩
    show (if j = zsK e r then _ else f1 j) = (if j = zsK e r then _ else f2 j)
    by_cases hjK : j = zsK e r
    · rw [if_pos hjK, if_pos hjK]
    · rw [if_neg hjK, if_neg hjK]
      have hp : 0 < zaaN (zsJs e r fn fs).1 (zsK e r) 8000 j := hp
      have e1 : zaaN (zsJs e r fn fs).1 (zsK e r) 8000 j = (zsJs e r fn fs).1 j := by
        unfold zaaN
        split
        · exact if_neg hjK
        · rfl
      rw [e1, (G3 j (by omega)).1] at hp
      split at hp
      · exact absurd hp (by decide)
      · have hp : 0 < (zAd (zfi fn 8000 0) 8000 1) j := hp
        rw [hat j (by omega)] at hp
        exact hf j hj hp
theorem zsTL_m {fn fs : Nat → Int32} {f1 f2 : Nat → Int} (hf : ∀ j, j < 8000 → 0 < fn j → f1 j = f2 j) : ∀ (n l : Nat) (T : (Nat → Int64) × List Int64), l + n ≤ 1000 → zsTL v me fn fs f1 n l T = zsTL v me fn fs f2 n l T := by
  have h1 : ∀ l k T, l < 1000 → k < 8 → zsT1 v me fn fs f1 l k T = zsT1 v me fn fs f2 l k T := fun l k T hl hk => by
    unfold zsT1
    by_cases hp : 0 < fn (l * 8 + k)
    · have : zsRes v me fn fs f1 (l * 8 + k) = zsRes v me fn fs f2 (l * 8 + k) := by
        unfold zsRes
        rw [hf _ (by omega) hp]
      rw [if_pos hp, if_pos hp, this]
    · rw [if_neg hp, if_neg hp]
  have h2 : ∀ (n l k : Nat) (T : (Nat → Int64) × List Int64), l < 1000 → k + n ≤ 8 → zsTK v me fn fs f1 l n k T = zsTK v me fn fs f2 l n k T := by
    intro n
    induction n with
    | zero => intro l k T _ _; rfl
    | succ n ih =>
      intro l k T hl hk
      show zsTK v me fn fs f1 l n (k + 1) (zsT1 v me fn fs f1 l k T) = zsTK v me fn fs f2 l n (k + 1) (zsT1 v me fn fs f2 l k T)
      rw [h1 l k T hl (by omega), ih l (k + 1) _ hl (by omega)]
  intro n
  induction n with
  | zero => intro l T _; rfl
  | succ n ih =>
    intro l T hl
    show zsTL v me fn fs f1 n (l + 1) (zsTK v me fn fs f1 l 8 0 T) = zsTL v me fn fs f2 n (l + 1) (zsTK v me fn fs f2 l 8 0 T)
    rw [h2 8 l 0 T (by omega) (by omega), ih (l + 1) _ (by omega)]
theorem zsDue_m {X1 X2 : zSX} (h : zsM X1 X2) : zsM (zsDue v sz me b m X1) (zsDue v sz me b m X2) := by
  obtain ⟨t, hd, dr, fn, fs, f1, o⟩ := X1
  obtain ⟨t2, hd2, dr2, fn2, fs2, f2, o2⟩ := X2
  obtain ⟨h1, h2, h3, h4, h5, hf, h7⟩ := h
  dsimp only at h1 h2 h3 h4 h5 hf h7
  subst h1 h2 h3 h4 h5 h7
  obtain ⟨n1, en1, n11, n12, n13⟩ := zsStop_r (m := m) (b := b) (st := sz)
  unfold zsDue
  rw [en1]
  dsimp only
  have ht : zsTL v me fn fs f1 n1 (b - (sz : Int)).toNat (t, o) = zsTL v me fn fs f2 n1 (b - (sz : Int)).toNat (t, o) := by
    rcases n11 with n0 | n0
    · rw [n0]
      rfl
    · exact zsTL_m hf _ _ _ n0
  rw [ht]
  exact ⟨rfl, rfl, rfl, rfl, rfl, hf, rfl⟩
theorem zsGo_m {X1 X2 : zSX} (h : zsM X1 X2) : zsM (zsGo sz gr b m X1) (zsGo sz gr b m X2) := by
  obtain ⟨t, hd, dr, fn, fs, f1, o⟩ := X1
  obtain ⟨t2, hd2, dr2, fn2, fs2, f2, o2⟩ := X2
  obtain ⟨h1, h2, h3, h4, h5, hf, h7⟩ := h
  dsimp only at h1 h2 h3 h4 h5 hf h7
  subst h1 h2 h3 h4 h5 h7
  obtain ⟨n2, en2, n21, n22, n23⟩ := zsStop_r (m := m) (b := b) (st := 2 * sz + gr)
  unfold zsGo
  rw [en2]
  dsimp only
  refine ⟨rfl, rfl, rfl, rfl, rfl, fun j hj hp => ?_, rfl⟩
  have hp : 0 < (zsGL n2 (b - ((2 * sz + gr : Nat) : Int)).toNat (hd, fn, fs)).2.1 j := hp
  rcases n21 with n0 | n0
  · rw [n0] at hp
    exact hf j hj hp
  · rw [((zsGL_ok n2 (b - ((2 * sz + gr : Nat) : Int)).toNat (hd, fn, fs) n0).2 j).1] at hp
    split at hp
    · exact absurd hp (by decide)
    · exact hf j hj hp
/-- the same view, whatever stale firsts -/
def zSm (C : zCf) (S1 S2 : zSt) : Prop := S1.1 = S2.1 ∧ S1.2.1 = S2.2.1 ∧ S1.2.2.1 = S2.2.2.1 ∧ (C.1 = 9 ∨ C.1 = 6 → S1.2.2.2.1 = S2.2.2.2.1 ∧ S1.2.2.2.2.1 = S2.2.2.2.2.1) ∧ (C.1 = 6 → ∀ j, j < 8000 → 0 < S1.2.2.2.1 j → S1.2.2.2.2.2.1 j = S2.2.2.2.2.2.1 j) ∧ zuA S1 = zuA S2 ∧ zuB S1 = zuB S2
theorem zSm.take {S1 S2 : zSt} (hk : zeK e < 8) (ht : zeT e < 1000) (h : zSm C S1 S2) : zSm C (zuTake v C e (S1, out)).1 (zuTake v C e (S2, out)).1 ∧ (zuTake v C e (S1, out)).2 = (zuTake v C e (S2, out)).2 := by
  obtain ⟨t, hd, dr, fn, fs, f1, A, B⟩ := S1
  obtain ⟨t2, hd2, dr2, fn2, fs2, f2, A2, B2⟩ := S2
  obtain ⟨h1, h2, h3, h45, hf, h7, h8⟩ := h
  dsimp only at h1 h2 h3 h45 hf h7 h8
  subst h1 h2 h3 h7 h8
  unfold zuTake
  by_cases c9 : C.1 = 9
  · obtain ⟨h4, h5⟩ := h45 (Or.inl c9)
    subst h4 h5
    rw [if_pos c9, if_pos c9]
    exact ⟨⟨rfl, rfl, rfl, fun z => (by first | exact ⟨rfl, rfl⟩ | (exfalso; omega)), fun z => by omega, rfl, rfl⟩, rfl⟩
  · by_cases c6 : C.1 = 6
    · obtain ⟨h4, h5⟩ := h45 (Or.inr c6)
      subst h4 h5
      rw [if_neg c9, if_pos c6, if_neg c9, if_pos c6]
      obtain ⟨a1, a2, a3, a4, a5, a6, a7⟩ := zsTake_m (v := v) (sz := C.2.2.1) (gr := C.2.2.2.1) (me := C.2.2.2.2.1) (e := e) (X1 := zuS ((t, hd, dr, fn, fs, f1, A, B), out)) (X2 := zuS ((t, hd, dr, fn, fs, f2, A, B), out)) hk ht ⟨rfl, rfl, rfl, rfl, rfl, hf c6, rfl⟩
      exact ⟨⟨a1, a2, a3, fun _ => ⟨a4, a5⟩, fun _ => a6, rfl, rfl⟩, a7⟩
    · by_cases c2 : C.1 = 2
      · rw [if_neg c9, if_neg c6, if_pos c2, if_neg c9, if_neg c6, if_pos c2]
        exact ⟨⟨rfl, rfl, rfl, fun z => (by first | exact ⟨rfl, rfl⟩ | (exfalso; omega)), fun z => by omega, rfl, rfl⟩, rfl⟩
      · rw [if_neg c9, if_neg c6, if_neg c2, if_neg c9, if_neg c6, if_neg c2]
        exact ⟨⟨rfl, rfl, rfl, fun z => (by first | exact ⟨rfl, rfl⟩ | (exfalso; omega)), fun z => by omega, rfl, rfl⟩, rfl⟩
theorem zSm.dg {S1 S2 : zSt} (h : zSm C S1 S2) : zSm C (zuGo C b m (zuDue v C b m (S1, out))).1 (zuGo C b m (zuDue v C b m (S2, out))).1 ∧ (zuGo C b m (zuDue v C b m (S1, out))).2 = (zuGo C b m (zuDue v C b m (S2, out))).2 := by
  obtain ⟨t, hd, dr, fn, fs, f1, A, B⟩ := S1
  obtain ⟨t2, hd2, dr2, fn2, fs2, f2, A2, B2⟩ := S2
  obtain ⟨h1, h2, h3, h45, hf, h7, h8⟩ := h
  dsimp only at h1 h2 h3 h45 hf h7 h8
  subst h1 h2 h3 h7 h8
  unfold zuGo zuDue
  by_cases c9 : C.1 = 9
  · obtain ⟨h4, h5⟩ := h45 (Or.inl c9)
    subst h4 h5
    rw [if_pos c9, if_pos c9, if_pos c9, if_pos c9]
    exact ⟨⟨rfl, rfl, rfl, fun z => (by first | exact ⟨rfl, rfl⟩ | (exfalso; omega)), fun z => by omega, rfl, rfl⟩, rfl⟩
  · by_cases c6 : C.1 = 6
    · obtain ⟨h4, h5⟩ := h45 (Or.inr c6)
      subst h4 h5
      rw [if_neg c9, if_pos c6, if_neg c9, if_pos c6, if_neg c9, if_pos c6, if_neg c9, if_pos c6]
      have a0 := zsDue_m (v := v) (sz := C.2.2.1) (me := C.2.2.2.2.1) (b := b) (m := m) (X1 := zuS ((t, hd, dr, fn, fs, f1, A, B), out)) (X2 := zuS ((t, hd, dr, fn, fs, f2, A, B), out)) ⟨rfl, rfl, rfl, rfl, rfl, hf c6, rfl⟩
      obtain ⟨a1, a2, a3, a4, a5, a6, a7⟩ := zsGo_m (sz := C.2.2.1) (gr := C.2.2.2.1) (b := b) (m := m) a0
      exact ⟨⟨a1, a2, a3, fun _ => ⟨a4, a5⟩, fun _ => a6, rfl, rfl⟩, a7⟩
    · by_cases c2 : C.1 = 2
      · rw [if_neg c9, if_neg c6, if_pos c2, if_neg c9, if_neg c6, if_pos c2, if_neg c9, if_neg c6, if_pos c2, if_neg c9, if_neg c6, if_pos c2]
        exact ⟨⟨rfl, rfl, rfl, fun z => (by first | exact ⟨rfl, rfl⟩ | (exfalso; omega)), fun z => by omega, rfl, rfl⟩, rfl⟩
      · rw [if_neg c9, if_neg c6, if_neg c2, if_neg c9, if_neg c6, if_neg c2, if_neg c9, if_neg c6, if_neg c2, if_neg c9, if_neg c6, if_neg c2]
        exact ⟨⟨rfl, rfl, rfl, fun z => (by first | exact ⟨rfl, rfl⟩ | (exfalso; omega)), fun z => by omega, rfl, rfl⟩, rfl⟩
/-- the same views -/
def zGS (G1 G2 : zVL × List Int64) : Prop := G1.2 = G2.2 ∧ G1.1.length = G2.1.length ∧ ∀ (i : Nat) (C : zCf) (S : zSt), G1.1[i]? = some (C, S) → ∃ S2, G2.1[i]? = some (C, S2) ∧ zSm C S S2
theorem zGS.set {G1 G2 : zVL × List Int64} {i : Nat} {T1 T2 : zSt × List Int64} {S1 : zSt} (h : zGS G1 G2) (hi : G1.1[i]? = some (C, S1)) (hs : zSm C T1.1 T2.1 ∧ T1.2 = T2.2) : zGS (G1.1.set i (C, T1.1), T1.2) (G2.1.set i (C, T2.1), T2.2) := by
  obtain ⟨h1, h2, h3⟩ := h
  have hlt := (List.getElem?_eq_some_iff.mp hi).1
  refine ⟨hs.2, by rw [List.length_set, List.length_set]; exact h2, fun j C2 S2 hj => ?_⟩
  have hj : (G1.1.set i (C, T1.1))[j]? = some (C2, S2) := hj
  show ∃ S3, (G2.1.set i (C, T2.1))[j]? = some (C2, S3) ∧ _
  by_cases hji : j = i
  · subst hji
    rw [List.getElem?_set_self hlt] at hj
    cases hj
    exact ⟨T2.1, List.getElem?_set_self (by omega), hs.1⟩
  · rw [List.getElem?_set_ne (fun z => hji z.symm)] at hj ⊢
    exact h3 j C2 S2 hj
theorem zGS.n {G1 G2 : zVL × List Int64} {i : Nat} (h : zGS G1 G2) (hi : G1.1[i]? = none) : G2.1[i]? = none := by
  have := List.getElem?_eq_none_iff.mp hi
  exact List.getElem?_eq_none_iff.mpr (by have := h.2.1; omega)
theorem zGS.t1 {G1 G2 : zVL × List Int64} {i : Nat} (hk : zeK e < 8) (ht : zeT e < 1000) (h : zGS G1 G2) : zGS (zaT1 e i G1) (zaT1 e i G2) := by
  unfold zaT1
  cases hx : G1.1[i]? with
  | none =>
    rw [h.n hx]
    exact h
  | some X =>
    obtain ⟨C, S⟩ := X
    obtain ⟨S2, g1, g2⟩ := h.2.2 i C S hx
    rw [g1]
    show zGS (if zLet (zbs C) C.2.1 e = true then (G1.1.set i (C, (zuTake i C e (S, G1.2)).1), (zuTake i C e (S, G1.2)).2) else G1) (if zLet (zbs C) C.2.1 e = true then (G2.1.set i (C, (zuTake i C e (S2, G2.2)).1), (zuTake i C e (S2, G2.2)).2) else G2)
    by_cases hl : zLet (zbs C) C.2.1 e = true
    · rw [if_pos hl, if_pos hl, ← h.1]
      exact h.set hx (g2.take hk ht)
    · rw [if_neg hl, if_neg hl]
      exact h
theorem zGS.tn (hk : zeK e < 8) (ht : zeT e < 1000) : ∀ (n i : Nat) (G1 G2 : zVL × List Int64), zGS G1 G2 → zGS (zaT e n i G1) (zaT e n i G2) := by
  intro n
  induction n with
  | zero => intro i G1 G2 h; exact h
  | succ n ih => intro i G1 G2 h; exact ih (i + 1) _ _ (h.t1 hk ht)
theorem zGS.d1 {G1 G2 : zVL × List Int64} {i : Nat} (h : zGS G1 G2) : zGS (zaD1 b m i G1) (zaD1 b m i G2) := by
  unfold zaD1
  cases hx : G1.1[i]? with
  | none =>
    rw [h.n hx]
    exact h
  | some X =>
    obtain ⟨C, S⟩ := X
    obtain ⟨S2, g1, g2⟩ := h.2.2 i C S hx
    rw [g1]
    show zGS (G1.1.set i (C, (zuGo C b m (zuDue i C b m (S, G1.2))).1), (zuGo C b m (zuDue i C b m (S, G1.2))).2) (G2.1.set i (C, (zuGo C b m (zuDue i C b m (S2, G2.2))).1), (zuGo C b m (zuDue i C b m (S2, G2.2))).2)
    rw [← h.1]
    exact h.set hx g2.dg
theorem zGS.dn : ∀ (n i : Nat) (G1 G2 : zVL × List Int64), zGS G1 G2 → zGS (zaD b m n i G1) (zaD b m n i G2) := by
  intro n
  induction n with
  | zero => intro i G1 G2 h; exact h
  | succ n ih => intro i G1 G2 h; exact ih (i + 1) _ _ h.d1
theorem zGS.ap {G1 G2 : zVL × List Int64} {P P2 : Nat → zPT} (hk : zeK e < 8) (ht : zeT e < 1000) (hP : zlm (zaP P e) 3 0 1000 = zlm (zaP P2 e) 3 0 1000) (h : zGS G1 G2) : zGS (zaAp e P G1) (zaAp e P2 G2) := by
  unfold zaAp
  rw [hP, ← h.2.1]
  have h1 := zGS.tn (e := e) hk ht G1.1.length 0 G1 G2 h
  split
  · rw [← h1.2.1]
    exact zGS.dn _ _ _ _ h1
  · exact h1
/-- a journal behind the same beginning -/
theorem zGS.run {X X2 : zcX} (hP : zPm X.1 []) (hP2 : zPm X2.1 []) (h0 : zGS X.2 X2.2) : ∀ (J : List zE), zJz J → zPm (zcF J X).1 J ∧ zPm (zcF J X2).1 J ∧ zGS (zcF J X).2 (zcF J X2).2 := by
  refine zsnoc (fun _ => ⟨hP, hP2, h0⟩) (fun J e ih hw => ?_)
  obtain ⟨i1, i2, i3⟩ := ih hw.pre
  obtain ⟨w1, w2, w3, w4, w5⟩ := hw.last
  rw [zcF_app, zcF_app]
  exact ⟨i1.ap, i2.ap, i3.ap w2 (by omega) (by rw [i1.ap.lm, i2.ap.lm])⟩
end YD3
