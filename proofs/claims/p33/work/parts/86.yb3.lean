set_option maxRecDepth 100000
section ZY86
/-- a view's kind and numbers: class, filter, size, grace, measure, step -/
abbrev zCf : Type := Nat × Int × Nat × Nat × Int × Nat
/-- a view's state of any kind: told, held, drops, numbers, sums, firsts, two lists of rows -/
abbrev zSt : Type := (Nat → Int64) × (Nat → Int32) × Int32 × (Nat → Int32) × (Nat → Int32) × (Nat → Int) × List zE × List zE
abbrev zuA (S : zSt) : List zE := S.2.2.2.2.2.2.1
abbrev zuB (S : zSt) : List zE := S.2.2.2.2.2.2.2
abbrev zuW (T : zSt × List Int64) : zWX := (T.1.1, T.1.2.1, T.1.2.2.1, T.1.2.2.2.1, T.1.2.2.2.2.1, T.2)
abbrev zuS (T : zSt × List Int64) : zSX := (T.1.1, T.1.2.1, T.1.2.2.1, T.1.2.2.2.1, T.1.2.2.2.2.1, T.1.2.2.2.2.2.1, T.2)
abbrev zuJ (T : zSt × List Int64) : zJX := (T.1.1, T.1.2.1, T.1.2.2.1, zuA T.1, T.2)
abbrev zuV (T : zSt × List Int64) : zVX := (T.1.1, T.1.2.1, T.1.2.2.1, zuA T.1, zuB T.1, T.2)
abbrev zuW' (S : zSt) (X : zWX) : zSt × List Int64 := ((X.1, X.2.1, X.2.2.1, X.2.2.2.1, X.2.2.2.2.1, S.2.2.2.2.2), X.2.2.2.2.2)
abbrev zuS' (S : zSt) (X : zSX) : zSt × List Int64 := ((X.1, X.2.1, X.2.2.1, X.2.2.2.1, X.2.2.2.2.1, X.2.2.2.2.2.1, S.2.2.2.2.2.2), X.2.2.2.2.2.2)
abbrev zuJ' (S : zSt) (X : zJX) : zSt × List Int64 := ((X.1, X.2.1, X.2.2.1, S.2.2.2.1, S.2.2.2.2.1, S.2.2.2.2.2.1, X.2.2.2.1, zuB S), X.2.2.2.2)
abbrev zuV' (S : zSt) (X : zVX) : zSt × List Int64 := ((X.1, X.2.1, X.2.2.1, S.2.2.2.1, S.2.2.2.2.1, S.2.2.2.2.2.1, X.2.2.2.1, X.2.2.2.2.1), X.2.2.2.2.2)
/-- a view lies there, of whatever kind -/
def zVi (h : xH) (N k1 k2 k3 v : Nat) (C : zCf) (T : zSt × List Int64) : Prop :=
  ((C.1 = 9 ∧ k1 = 0 ∧ k2 = 0 ∧ k3 = 0) ∧ zWr v C.2.1 C.2.2.1 C.2.2.2.1 C.2.2.2.2.1 C.2.2.2.2.2 ∧ zVW h N v C.2.1 C.2.2.1 C.2.2.2.1 C.2.2.2.2.1 C.2.2.2.2.2 (zuW T)) ∨
  ((C.1 = 6 ∧ k1 = 0 ∧ k2 = 0 ∧ k3 = 0) ∧ zSr v C.2.1 C.2.2.1 C.2.2.2.1 C.2.2.2.2.1 ∧ zVS h N v C.2.1 C.2.2.1 C.2.2.2.1 C.2.2.2.2.1 (zuS T)) ∨
  ((C.1 = 2 ∧ k2 = 0 ∧ k3 = 0) ∧ zVr v C.2.1 C.2.2.1 C.2.2.2.1 ∧ zVJ h N k1 v C.2.1 C.2.2.1 C.2.2.2.1 (zuJ T) ∧ zKs h (zuA T.1)) ∨
  (C.1 = 8 ∧ zVr v C.2.1 C.2.2.1 C.2.2.2.1 ∧ zVV h N k1 k2 k3 v C.2.1 C.2.2.1 C.2.2.2.1 (zuV T) ∧ zKs h (zuA T.1) ∧ zKs h (zuB T.1))
noncomputable def zuTake (v : Nat) (C : zCf) (e : zE) (T : zSt × List Int64) : zSt × List Int64 :=
  if C.1 = 9 then zuW' T.1 (zwTake v C.2.2.1 C.2.2.2.1 C.2.2.2.2.2 C.2.2.2.2.1 e (zuW T)) else
  if C.1 = 6 then zuS' T.1 (zsTake v C.2.2.1 C.2.2.2.1 C.2.2.2.2.1 e (zuS T)) else
  if C.1 = 2 then zuJ' T.1 (zjTake v C.2.2.1 C.2.2.2.1 e (zuJ T)) else zuV' T.1 (zvTake v C.2.2.2.1 e (zuV T))
noncomputable def zuDue (v : Nat) (C : zCf) (b m : Int) (T : zSt × List Int64) : zSt × List Int64 :=
  if C.1 = 9 then zuW' T.1 (zwDue v C.2.2.1 C.2.2.2.2.2 C.2.2.2.2.1 b m (zuW T)) else
  if C.1 = 6 then zuS' T.1 (zsDue v C.2.2.1 C.2.2.2.2.1 b m (zuS T)) else
  if C.1 = 2 then T else zuV' T.1 (zvDue v m (zuV T))
noncomputable def zuGo (C : zCf) (b m : Int) (T : zSt × List Int64) : zSt × List Int64 :=
  if C.1 = 9 then zuW' T.1 (zwGo C.2.2.1 C.2.2.2.1 C.2.2.2.2.2 b m (zuW T)) else
  if C.1 = 6 then zuS' T.1 (zsGo C.2.2.1 C.2.2.2.1 b m (zuS T)) else
  if C.1 = 2 then zuJ' T.1 (zjGo C.2.2.1 C.2.2.2.1 m (zuJ T)) else zuV' T.1 (zvGo C.2.2.2.1 m (zuV T))
def zuBeg (C : zCf) (T : zSt × List Int64) : zSt × List Int64 :=
  if C.1 = 9 then zuW' T.1 (zwBeg (zuW T)) else if C.1 = 6 then zuS' T.1 (zsBeg (zuS T)) else if C.1 = 2 then zuJ' T.1 (zjBeg (zuJ T)) else zuV' T.1 (zvBeg (zuV T))
/-- lists only lose or gain the one row -/
theorem zjG_sub {sz gr : Nat} {m : Int} : ∀ (n : Nat) (G : List zE × (Nat → Int32)), ∀ x ∈ (zjG sz gr m n G).1, x ∈ G.1 := by
  intro n
  induction n with
  | zero => intro G x hx; exact hx
  | succ n ih =>
    intro G x hx
    have h1 := ih _ x hx
    split at h1
    · split at h1
      · exact List.mem_of_mem_eraseIdx h1
      · exact h1
    · exact h1
theorem zvG_sub {gr : Nat} {m : Int} : ∀ (n : Nat) (G : List zE × (Nat → Int32)), ∀ x ∈ (zvG gr m n G).1, x ∈ G.1 := by
  intro n
  induction n with
  | zero => intro G x hx; exact hx
  | succ n ih =>
    intro G x hx
    have h1 := ih _ x hx
    split at h1
    · split at h1
      · exact List.mem_of_mem_eraseIdx h1
      · exact h1
    · exact h1
theorem zvH_sub {lm : Int} : ∀ (n : Nat) (G : List zE × (Nat → Int32)), ∀ x ∈ (zvH lm n G).1, x ∈ G.1 := by
  intro n
  induction n with
  | zero => intro G x hx; exact hx
  | succ n ih =>
    intro G x hx
    have h1 := ih _ x hx
    split at h1
    · split at h1
      · exact List.mem_of_mem_eraseIdx h1
      · exact h1
    · exact h1
theorem zjTake_sub {v sz gr : Nat} {e : zE} {X : zJX} : ∀ x ∈ (zjTake v sz gr e X).2.2.2.1, x ∈ X.2.2.2.1 ++ [e] := by
  intro x hx
  unfold zjTake at hx
  split at hx
  · exact List.mem_append_left _ hx
  · exact hx
theorem zvTake_subA {v gr : Nat} {e : zE} {X : zVX} : ∀ x ∈ (zvTake v gr e X).2.2.2.1, x ∈ X.2.2.2.1 ++ [e] := by
  intro x hx
  unfold zvTake at hx
  split at hx
  · exact List.mem_append_left _ hx
  · split at hx
    · exact List.mem_append_left _ hx
    · split at hx
      · exact hx
      · exact hx
theorem zvTake_subB {v gr : Nat} {e : zE} {X : zVX} : ∀ x ∈ (zvTake v gr e X).2.2.2.2.1, x ∈ X.2.2.2.2.1 ++ [e] := by
  intro x hx
  unfold zvTake at hx
  split at hx
  · exact List.mem_append_left _ hx
  · split at hx
    · exact hx
    · split at hx
      · exact List.mem_append_left _ hx
      · exact List.mem_append_left _ hx
theorem zKs.sub {h : xH} {K L : List zE} (hk : zKs h K) (e : ∀ x ∈ L, x ∈ K) : zKs h L := fun x hx => hk x (e x hx)
/-- another view's work, or the outputs' -/
theorem zVi.mv {h h1 : xH} {N N1 k1 k2 k3 v : Nat} {C : zCf} {S : zSt} {out out1 : List Int64} (hv : v < 8) (hV : zVi h N k1 k2 k3 v C (S, out)) (hO : zOut h1 N1 out1) (e : ∀ a b : Nat, (20 ≤ a ∧ a < 60 ∧ b % 8 = v) ∨ a = 0 ∨ a = 8 → h1 (a, b) = h (a, b)) : zVi h1 N1 k1 k2 k3 v C (S, out1) := by
  have ks : ∀ K, zKs h K → zKs h1 K := fun K hk x hx => ⟨(hk x hx).1, (e _ _ (by omega)).trans (hk x hx).2⟩
  rcases hV with ⟨c, r, v1, v2, v3, ⟨fg, v4⟩, v5, ⟨fb, v6⟩, gn, gs, gg, v7⟩ | ⟨c, r, v1, v2, v3, ⟨fg, v4⟩, v5, ⟨jj, v6⟩, v7, ⟨fb, v8⟩, ⟨gn, gs, gg, v9⟩, v10⟩ | ⟨c, r, ⟨v1, v2, v3, v4, v5, fb, v6⟩, v7⟩ | ⟨c, r, ⟨v1, v2, v3, v4, v5, v6, ⟨fb, v7⟩, Ag, v8⟩, v9, v10⟩
  · exact Or.inl ⟨c, r, (e _ _ (by omega)).trans v1, v2.fr (fun a b z => e a b (by omega)), (e _ _ (by omega)).trans v3, ⟨fg, v4.fr (fun a b z => e a b (by omega))⟩, hO, ⟨fb, v6.fr (fun a b z => e a b (by omega))⟩, gn, gs, gg, v7.fr (fun a b z => e a b (by omega))⟩
  · exact Or.inr (Or.inl ⟨c, r, (e _ _ (by omega)).trans v1, v2.fr (fun a b z => e a b (by omega)), (e _ _ (by omega)).trans v3, ⟨fg, v4.fr (fun a b z => e a b (by omega))⟩, (e _ _ (by omega)).trans v5, ⟨jj, (e _ _ (by omega)).trans v6⟩, hO, ⟨fb, v8.fr (fun a b z => e a b (by omega))⟩, ⟨gn, gs, gg, v9.fr (fun a b z => e a b (by omega))⟩, v10⟩)
  · exact Or.inr (Or.inr (Or.inl ⟨c, r, ⟨(e _ _ (by omega)).trans v1, v2.fr (fun a b z => e a b (by omega)), (e _ _ (by omega)).trans v3, v4.fr (fun a b z => e a b (by omega)), hO, fb, v6.fr (fun a b z => e a b (by omega))⟩, ks _ v7⟩))
  · exact Or.inr (Or.inr (Or.inr ⟨c, r, ⟨(e _ _ (by omega)).trans v1, v2.fr (fun a b z => e a b (by omega)), (e _ _ (by omega)).trans v3, v4.fr (fun a b z => e a b (by omega)), v5.fr (fun a b z => e a b (by omega)), hO, ⟨fb, v7.fr (fun a b z => e a b (by omega))⟩, Ag, v8.fr (fun a b z => e a b (by omega))⟩, ks _ v9, ks _ v10⟩))
end ZY86
