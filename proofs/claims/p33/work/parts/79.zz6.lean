set_option maxRecDepth 100000
section ZZ79
variable {d v sz gr : Nat} {fi : Int} {Q : xR → Nat → Nat → xH → Prop}
/-- versions: what is told, what is held, drops, left rows, versions, the outputs -/
abbrev zVX : Type := (Nat → Int64) × (Nat → Int32) × Int32 × List zE × List zE × List Int64
def zVV (h : xH) (N cap1 cap2 cap3 v : Nat) (fi : Int) (sz gr : Nat) (X : zVX) : Prop :=
  zVo h 8 v true fi sz gr X.2.2.1 [.inr (36, v), .inr (38, v), .inr (40, v)] ∧ zRes h 21 v 240 X.1 ∧ h (25, v) = some (.inr (0, 8, zI X.2.1)) ∧ zAL h 36 v cap1 (zNm X.2.2.2.1) ∧ zAL h 38 v cap2 (zNm X.2.2.2.2.1) ∧ zOut h N X.2.2.2.2.2 ∧ (∃ fb, zRes h 23 v 240 fb) ∧ ∃ Ag, zAL h 40 v cap3 (zNm Ag)
theorem zVV.fr {h h1 : xH} {N cap1 cap2 cap3 v : Nat} {fi : Int} {sz gr : Nat} {X : zVX} (hv : v < 8) (hV : zVV h N cap1 cap2 cap3 v fi sz gr X) (e : ∀ a b : Nat, (20 ≤ a ∧ a < 60 ∧ b % 8 = v) ∨ (2 ≤ a ∧ a < 4) ∨ a = 0 → h1 (a, b) = h (a, b)) : zVV h1 N cap1 cap2 cap3 v fi sz gr X := by
  obtain ⟨v1, v2, v3, v4, v5, v6, ⟨fb, v7⟩, Ag, v8⟩ := hV
  exact ⟨(e _ _ (by omega)).trans v1, v2.fr (fun a b z => e a b (by omega)), (e _ _ (by omega)).trans v3, v4.fr (fun a b z => e a b (by omega)), v5.fr (fun a b z => e a b (by omega)), v6.fr (fun a b z => e a b (by omega)), ⟨fb, v7.fr (fun a b z => e a b (by omega))⟩, Ag, v8.fr (fun a b z => e a b (by omega))⟩
theorem zNm_push {K : List zE} {e : zE} : zNm K ++ [(8, zeN e)] = zNm (K ++ [e]) := by
  show _ = (K ++ [e]).map (fun e => (8, zeN e))
  rw [List.map_append]
  rfl
/-- a row is taken by a versions view -/
def zvTake (v gr : Nat) (e : zE) (X : zVX) : zVX :=
  if (zeT e : Int) + (gr : Int) < zeA e then (X.1, X.2.1, X.2.2.1 + Int32.ofInt 1, X.2.2.2) else
  if zbi (zeL e) = 0 then ((zvAn v (X.2.2.2.2.1 ++ [e]) (zeK e) X.2.2.2.1 (X.1, X.2.2.2.2.2)).1, zAd X.2.1 (zeK e) (Int32.ofInt 1), X.2.2.1, X.2.2.2.1, X.2.2.2.2.1 ++ [e], (zvAn v (X.2.2.2.2.1 ++ [e]) (zeK e) X.2.2.2.1 (X.1, X.2.2.2.2.2)).2) else
  if zeA e ≤ (zeT e : Int) then (X.1, zAd X.2.1 (zeK e) (Int32.ofInt 1), X.2.2.1, X.2.2.2.1 ++ [e], X.2.2.2.2) else
  (zfi X.1 (zeO e) (zvRes v X.2.2.2.2.1 e), zAd X.2.1 (zeK e) (Int32.ofInt 1), X.2.2.1, X.2.2.2.1 ++ [e], X.2.2.2.2.1, X.2.2.2.2.2 ++ [zvRes v X.2.2.2.2.1 e])
theorem s_vtake {c s N cap1 cap2 cap3 : Nat} {h : xH} {X : zVX} {e : zE} (hr : zVr v fi sz gr) (hE : zEr e) (hL : X.2.2.2.1.length ≤ 72) (hK : X.2.2.2.2.1.length ≤ 72) (ho : X.2.2.2.2.2.length < 170000) (hV : zVV h N cap1 cap2 cap3 v fi sz gr X) (he : zEn h e) (hkL : zKs h X.2.2.2.1) (hkV : zKs h X.2.2.2.2.1)
    (q : ∀ h1 N1 q1 q2 c1 s1, zVV h1 N1 q1 q2 cap3 v fi sz gr (zvTake v gr e X) → zFv v h h1 → zCo (N + cap1 + cap2) c s (N1 + q1 + q2) c1 s1 → Q (.inl none) c1 s1 h1) : zX (d + 7) 66 0 [(0, .inr (20, v)), (1, .inr (8, zeN e))] [] c s h Q := by
  obtain ⟨r1, r2, r3, r4⟩ := id hr
  obtain ⟨e1, e2, e3, e4, e5, e6⟩ := id hE
  obtain ⟨v1, v2, v3, v4, v5, v6, ⟨fb, v7⟩, Ag, v8⟩ := hV
  refine r_vtake (d := d) (Lf := X.2.2.2.1) (Vs := X.2.2.2.2.1) hr r1 r3 r4 hE e2 e3 e4 e6 e5 (zbi_r _) (zbi_r _) (by omega) hkV hL hkL hK (by rw [List.length_map]; exact hK) (by rw [List.length_map]; exact hL) ho v1 he v3 v4 v5 v2 v6 (fun z1 z2 q2 c1 s1 hb N2 c2 s2 hc h1 a1 a2 a3 a4 a5 => ?_) (fun z1 z2 q1 c1 s1 hb z3 h1 a1 a2 a3 => ?_) (fun z1 z2 q1 c1 s1 hb z3 N2 c2 s2 hc h1 a1 a2 a3 a4 a5 => ?_) (fun z1 h1 a1 a2 => ?_)
  · refine q h1 N2 cap1 q2 c2 s2 ?_ (fun a b hn => a5 a b (by omega)) ⟨by omega, by omega, by omega⟩
    unfold zvTake
    rw [if_neg (show ¬ (zeT e : Int) + (gr : Int) < zeA e by omega), if_pos z2]
    rw [zNm_push] at a2
    exact ⟨(a5 _ _ (by omega)).trans v1, a3, a1, v4.fr (fun a b z => a5 a b (by omega)), a2, a4, ⟨fb, v7.fr (fun a b z => a5 a b (by omega))⟩, Ag, v8.fr (fun a b z => a5 a b (by omega))⟩
  · refine q h1 N q1 cap2 c1 s1 ?_ (fun a b hn => a3 a b (by omega)) ⟨by omega, by omega, by omega⟩
    unfold zvTake
    rw [if_neg (show ¬ (zeT e : Int) + (gr : Int) < zeA e by omega), if_neg z2, if_pos z3]
    rw [zNm_push] at a2
    exact ⟨(a3 _ _ (by omega)).trans v1, v2.fr (fun a b z => a3 a b (by omega)), a1, a2, v5.fr (fun a b z => a3 a b (by omega)), v6.fr (fun a b z => a3 a b (by omega)), ⟨fb, v7.fr (fun a b z => a3 a b (by omega))⟩, Ag, v8.fr (fun a b z => a3 a b (by omega))⟩
  · refine q h1 N2 q1 cap2 c2 s2 ?_ (fun a b hn => a5 a b (by omega)) ⟨by omega, by omega, by omega⟩
    unfold zvTake
    rw [if_neg (show ¬ (zeT e : Int) + (gr : Int) < zeA e by omega), if_neg z2, if_neg (by omega)]
    rw [zNm_push] at a2
    exact ⟨(a5 _ _ (by omega)).trans v1, a3, a1, a2, v5.fr (fun a b z => a5 a b (by omega)), a4, ⟨fb, v7.fr (fun a b z => a5 a b (by omega))⟩, Ag, v8.fr (fun a b z => a5 a b (by omega))⟩
  · refine q h1 N cap1 cap2 c s ?_ (fun a b hn => a2 a b (by omega)) zCo.rf
    unfold zvTake
    rw [if_pos z1]
    exact ⟨a1, v2.fr (fun a b z => a2 a b (by omega)), (a2 _ _ (by omega)).trans v3, v4.fr (fun a b z => a2 a b (by omega)), v5.fr (fun a b z => a2 a b (by omega)), v6.fr (fun a b z => a2 a b (by omega)), ⟨fb, v7.fr (fun a b z => a2 a b (by omega))⟩, Ag, v8.fr (fun a b z => a2 a b (by omega))⟩
/-- left rows whose time has come are told, the soonest first -/
def zvD (v : Nat) (m : Int) (Lf Vs : List zE) : Nat → Option zE → (Nat → Int64) × List Int64 → (Nat → Int64) × List Int64
  | 0, _, T => T
  | n + 1, b, T => match b with
    | none => T
    | some e => zvD v m Lf Vs n (zvNext m (zfi T.1 (zeO e) (zvRes v Vs e)) Lf) (zfi T.1 (zeO e) (zvRes v Vs e), T.2 ++ [zvRes v Vs e])
theorem r_vtdx {c s : Nat} {h : xH} {m : Int} {x : xV}
    (k1 : Q (.inl none) c s h) :
    zX d 68 9 [(0, .inr (20, v)), (2, zi m), (3, x), (4, zi ((240 : Nat) : Int))] [] c s h Q := by
  refine zX.sn 1 (pc2 := 11) (l2 := [(0, .inr (20, v)), (2, zi m), (3, x), (4, zi ((240 : Nat) : Int))]) (st2 := [zi ((240 : Nat) : Int)]) rfl ?_
  refine zX.sn 1 (pc2 := 14) (l2 := [(0, .inr (20, v)), (2, zi m), (3, x), (4, zi ((240 : Nat) : Int))]) (st2 := [zi 240, zi ((240 : Nat) : Int)]) rfl ?_
  refine zX.icmp (tgt := 50) ⟨rfl, rfl⟩ rfl (by omega) (by omega) (fun (e1 : 240 ≤ ((240 : Nat) : Int)) => ?_) (fun (e1 : ((240 : Nat) : Int) < 240) => absurd e1 (by omega))
  refine zX.ret rfl rfl ?_
  exact k1
theorem l_vtd {m : Int} {dr : Int32} {cap1 cap2 : Nat} {Lf Vs : List zE} (hr : zVr v fi sz gr) (hm : -1 ≤ m ∧ m < 1000) (hLl : Lf.length ≤ 72) (hVl : Vs.length ≤ 240) : ∀ (n i : Nat) (b : Option zE) (T : (Nat → Int64) × List Int64) (h : xH) (N c s : Nat), i + n = 240 → (∀ e, b = some e → e ∈ Lf) → T.2.length + n < 199000 → zVo h 8 v true fi sz gr dr [.inr (36, v), .inr (38, v), .inr (40, v)] → zAL h 36 v cap1 (zNm Lf) → zAL h 38 v cap2 (zNm Vs) → zKs h Lf → zKs h Vs → zRes h 21 v 240 T.1 → zOut h N T.2 →
    (∀ h1 N1 c1 s1, zRes h1 21 v 240 (zvD v m Lf Vs n b T).1 → zOut h1 N1 (zvD v m Lf Vs n b T).2 → zFt v h h1 → zCo N c s N1 c1 s1 → Q (.inl none) c1 s1 h1) → zX (d + 5) 68 9 [(0, .inr (20, v)), (2, zi m), (3, zob b), (4, zi (i : Int))] [] c s h Q := by
  obtain ⟨r1, r2, r3, r4⟩ := id hr
  intro n
  induction n with
  | zero =>
    intro i b T h N c s hi hb ho hV hA hB hkL hkV hR hO q
    obtain rfl : i = 240 := by omega
    exact r_vtdx (q h N c s hR hO (fun _ _ _ => rfl) zCo.rf)
  | succ n ih =>
    intro i b T h N c s hi hb ho hV hA hB hkL hkV hR hO q
    cases b with
    | none => exact r_vtde (d := d + 5) hr r1 r3 r4 (by omega) hV (fun _ => q h N c s hR hO (fun _ _ _ => rfl) zCo.rf) (fun _ => q h N c s hR hO (fun _ _ _ => rfl) zCo.rf)
    | some e =>
      obtain ⟨hE, he⟩ := hkL _ (hb e rfl)
      obtain ⟨e1, e2, e3, e4, e5, e6⟩ := id hE
      refine r_vtd1 (d := d) (Lf := Lf) (Vs := Vs) hr r1 r3 r4 hE e2 e3 e4 e6 e5 (zbi_r _) (zbi_r _) hm hVl hkV hLl hkL (by omega) (by omega) hV he hA hB hR hO (fun N1 c1 s1 hc z h1 a1 a2 a3 => ?_) (fun N1 c1 s1 hc b1 z h1 a1 a2 a3 => ?_)
      · have hF : zFv v h h1 := fun a b hn => a3 a b (by omega)
        refine ih (i + 1) none (_, _) h1 N1 c1 s1 (by omega) (fun _ y => by cases y) (by rw [List.length_append]; show T.2.length + 1 + n < 199000; omega) ((a3 _ _ (by omega)).trans hV) (hA.fr (fun a b z => a3 a b (by omega))) (hB.fr (fun a b z => a3 a b (by omega))) (hkL.fr hF) (hkV.fr hF) a1 a2 (fun h2 N2 c2 s2 b1 b2 b3 b4 => q h2 N2 c2 s2 ?_ ?_ (fun a b hn => (b3 a b hn).trans (a3 a b hn)) (hc.tr b4))
        · show zRes h2 21 v 240 (zvD v m Lf Vs n (zvNext m (zfi T.1 (zeO e) (zvRes v Vs e)) Lf) _).1
          rw [z]
          exact b1
        · show zOut h2 N2 (zvD v m Lf Vs n (zvNext m (zfi T.1 (zeO e) (zvRes v Vs e)) Lf) _).2
          rw [z]
          exact b2
      · have hF : zFv v h h1 := fun a b hn => a3 a b (by omega)
        refine ih (i + 1) (some b1) (_, _) h1 N1 c1 s1 (by omega) (fun _ y => by cases y; exact (zvNext_mem z).1) (by rw [List.length_append]; show T.2.length + 1 + n < 199000; omega) ((a3 _ _ (by omega)).trans hV) (hA.fr (fun a b z => a3 a b (by omega))) (hB.fr (fun a b z => a3 a b (by omega))) (hkL.fr hF) (hkV.fr hF) a1 a2 (fun h2 N2 c2 s2 b1 b2 b3 b4 => q h2 N2 c2 s2 ?_ ?_ (fun a b hn => (b3 a b hn).trans (a3 a b hn)) (hc.tr b4))
        · show zRes h2 21 v 240 (zvD v m Lf Vs n (zvNext m (zfi T.1 (zeO e) (zvRes v Vs e)) Lf) _).1
          rw [z]
          exact b1
        · show zOut h2 N2 (zvD v m Lf Vs n (zvNext m (zfi T.1 (zeO e) (zvRes v Vs e)) Lf) _).2
          rw [z]
          exact b2
def zvDue (v : Nat) (m : Int) (X : zVX) : zVX := ((zvD v m X.2.2.2.1 X.2.2.2.2.1 240 (zvNext m X.1 X.2.2.2.1) (X.1, X.2.2.2.2.2)).1, X.2.1, X.2.2.1, X.2.2.2.1, X.2.2.2.2.1, (zvD v m X.2.2.2.1 X.2.2.2.2.1 240 (zvNext m X.1 X.2.2.2.1) (X.1, X.2.2.2.2.2)).2)
theorem s_vtd {b m : Int} {c s N cap1 cap2 cap3 : Nat} {h : xH} {X : zVX} (hr : zVr v fi sz gr) (hm : -1 ≤ m ∧ m < 1000) (hL : X.2.2.2.1.length ≤ 72) (hK : X.2.2.2.2.1.length ≤ 72) (ho : X.2.2.2.2.2.length < 190000) (hV : zVV h N cap1 cap2 cap3 v fi sz gr X) (hkL : zKs h X.2.2.2.1) (hkV : zKs h X.2.2.2.2.1)
    (q : ∀ h1 N1 c1 s1, zVV h1 N1 cap1 cap2 cap3 v fi sz gr (zvDue v m X) → zFv v h h1 → zCo N c s N1 c1 s1 → Q (.inl none) c1 s1 h1) : zX (d + 5) 68 0 [(0, .inr (20, v)), (1, zi b), (2, zi m)] [] c s h Q := by
  obtain ⟨r1, r2, r3, r4⟩ := id hr
  obtain ⟨v1, v2, v3, v4, v5, v6, ⟨fb, v7⟩, Ag, v8⟩ := hV
  have main : ∀ b1, zvNext m X.1 X.2.2.2.1 = b1 → zX (d + 5) 68 9 [(0, .inr (20, v)), (2, zi m), (3, zob b1), (4, zi ((0 : Nat) : Int))] [] c s h Q := fun b1 z => by
    refine l_vtd (d := d) hr hm hL (by omega) 240 0 b1 (X.1, X.2.2.2.2.2) h N c s rfl (fun e y => by rw [y] at z; exact (zvNext_mem z).1) (by dsimp only; omega) v1 v4 v5 hkL hkV v2 v6 (fun h1 N1 c1 s1 a1 a2 a3 a4 => ?_)
    refine q h1 N1 c1 s1 ?_ (fun a b hn => a3 a b (by omega)) a4
    unfold zvDue
    rw [z]
    exact ⟨(a3 _ _ (by omega)).trans v1, a1, (a3 _ _ (by omega)).trans v3, v4.fr (fun a b z => a3 a b (by omega)), v5.fr (fun a b z => a3 a b (by omega)), a2, ⟨fb, v7.fr (fun a b z => a3 a b (by omega))⟩, Ag, v8.fr (fun a b z => a3 a b (by omega))⟩
  exact r_vtd0 (d := d + 1) (Lf := X.2.2.2.1) (Vs := X.2.2.2.2.1) (cap2 := cap2) hr r1 r3 r4 hm hL hkL v1 v4 v2 v6 (fun z => main none z) (fun b1 z => main (some b1) z)
end ZZ79
