set_option maxRecDepth 100000
section ZSP3
/-- behind z outputs come those of the list -/
def zApp (z : Nat) (fo : Nat → Int64) (l : List Int64) (fo1 : Nat → Int64) : Prop := (∀ j, j < z → fo1 j = fo j) ∧ ∀ i x, l[i]? = some x → fo1 (z + i) = x
theorem zApp.nil {z : Nat} {fo : Nat → Int64} : zApp z fo [] fo := ⟨fun _ _ => rfl, fun i x e => by cases e⟩
theorem zApp.one {z : Nat} {fo fo1 : Nat → Int64} {x : Int64} (h : ∀ j, j < z → fo1 j = fo j) (e : fo1 z = x) : zApp z fo [x] fo1 := ⟨h, fun i y e1 => by
  match i, e1 with
  | 0, e1 => cases e1; exact e
  | i + 1, e1 => cases e1⟩
theorem zApp.tr {z z1 : Nat} {fo fo1 fo2 : Nat → Int64} {l m : List Int64} (ha : zApp z fo l fo1) (hb : zApp z1 fo1 m fo2) (e : z1 = z + l.length) : zApp z fo (l ++ m) fo2 := by
  subst e
  refine ⟨fun j hj => (hb.1 j (by omega)).trans (ha.1 j hj), fun i x hx => ?_⟩
  by_cases hi : i < l.length
  · rw [List.getElem?_append_left hi] at hx
    exact (hb.1 _ (by omega)).trans (ha.2 i x hx)
  · rw [List.getElem?_append_right (by omega)] at hx
    have := hb.2 _ x hx
    rw [← this]
    congr 1
    omega
/-- a result taken back -/
def zback (x : Int64) : Int64 := x ||| Int64.ofNat 1152921504606846976
/-- what tellAnew makes: the results and the outputs -/
def zanF (fa : Nat → Int64) (j k : Nat) (y : Int64) : Nat → Int64 := if fa j = y then fa else if fa j = 0 then zfi fa k y else zfi (zfi fa j 0) k y
def zanL (fa : Nat → Int64) (j : Nat) (y : Int64) : List Int64 := if fa j = y then [] else if fa j = 0 then [y] else [zback (fa j), y]
theorem zcmpE {x y : Int64} : xcd .eq (lg_cmp x y) 0 = decide (x = y) := decide_eq_decide.mpr (lg_cmp_eq x y)
theorem s_tanewW {d : Nat} {k0 c0 s0 : Nat} {h : xH} {Q : xR → xA → Prop} {v o q r a fr hd : Nat × Nat} {nu bs fi sz gr dr : Int32} {N z L : Nat} {fo fa : Nat → Int64} {rw ag : Nat × Nat} {me sp wi : Int32} {j k : Nat} {y : Int64} (hL : L < 2147483647) (hN : N ≤ 320000) (hN0 : 0 < N) (hzN : z ≤ N) (hz : z + 2 < 320000) (hmy : k0 + 320000 < 390000 + N) (hj : j < L) (hk : k < L) (hy : y ≠ 0) (hfr : zFree k0 h) (hmx : k0 + 0 < zMax) (hw : zWd h [(v, .inl (9, [.inl (.int nu), .inl (.int bs), .inl (.int fi), .inl (.int sz), .inl (.int gr), .inr o, .inr r, .inr fr, .inr hd, .inl (.int dr), .inl (.int me), .inl (.int sp), .inl (.int wi), .inr rw, .inr ag])), (o, .inl (3, [.inr q, .inl (.int (Int32.ofNat z))])), (q, .inr (1, N, zJ fo)), (r, .inl (5, [.inr a, .inl (.int (Int32.ofNat (zcnt fa L)))])), (a, .inr (1, L, zJ fa))])
    (kn : ∀ (q1 : Nat × Nat) (N1 : Nat) (fo1 : Nat → Int64) (k1 c1 s1 : Nat) (h1 : xH), zWd h1 [(v, .inl (9, [.inl (.int nu), .inl (.int bs), .inl (.int fi), .inl (.int sz), .inl (.int gr), .inr o, .inr r, .inr fr, .inr hd, .inl (.int dr), .inl (.int me), .inl (.int sp), .inl (.int wi), .inr rw, .inr ag])), (o, .inl (3, [.inr q1, .inl (.int (Int32.ofNat (z + (zanL fa j y).length)))])), (q1, .inr (1, N1, zJ fo1)), (r, .inl (5, [.inr a, .inl (.int (Int32.ofNat (zcnt (zanF fa j k y) L)))])), (a, .inr (1, L, zJ (zanF fa j k y)))] → zFw [v, o, q, r, a] h h1 → zFree k1 h1 → zSw h [(v, .inl (9, [.inl (.int nu), .inl (.int bs), .inl (.int fi), .inl (.int sz), .inl (.int gr), .inr o, .inr r, .inr fr, .inr hd, .inl (.int dr), .inl (.int me), .inl (.int sp), .inl (.int wi), .inr rw, .inr ag])), (o, .inl (3, [.inr q, .inl (.int (Int32.ofNat z))])), (q, .inr (1, N, zJ fo)), (r, .inl (5, [.inr a, .inl (.int (Int32.ofNat (zcnt fa L)))])), (a, .inr (1, L, zJ fa))] [(v, .inl (9, [.inl (.int nu), .inl (.int bs), .inl (.int fi), .inl (.int sz), .inl (.int gr), .inr o, .inr r, .inr fr, .inr hd, .inl (.int dr), .inl (.int me), .inl (.int sp), .inl (.int wi), .inr rw, .inr ag])), (o, .inl (3, [.inr q1, .inl (.int (Int32.ofNat (z + (zanL fa j y).length)))])), (q1, .inr (1, N1, zJ fo1)), (r, .inl (5, [.inr a, .inl (.int (Int32.ofNat (zcnt (zanF fa j k y) L)))])), (a, .inr (1, L, zJ (zanF fa j k y)))] → N ≤ N1 ∧ N1 ≤ 320000 ∧ z + (zanL fa j y).length ≤ N1 → zApp z fo (zanL fa j y) fo1 → (k0 ≤ k1 ∧ k1 + N ≤ k0 + N1 ∧ c1 + N ≤ c0 + N1 ∧ s1 + zB N ≤ s0 + zB N1) → Q (.inl none) (zNm k1, c1, s1, h1)) :
    zW xPP (d + 3) 80 0 [(0, .inr v), (1, .inl (.int (Int32.ofNat j))), (2, .inl (.int (Int32.ofNat k))), (3, .inl (.long y))] [] (zNm k0, c0, s0, h) Q := by
  have sw : ∀ (q1 : Nat × Nat) (N1 z1 : Nat) (fo1 fa1 : Nat → Int64) (h1 : xH), zWd h1 [(v, .inl (9, [.inl (.int nu), .inl (.int bs), .inl (.int fi), .inl (.int sz), .inl (.int gr), .inr o, .inr r, .inr fr, .inr hd, .inl (.int dr), .inl (.int me), .inl (.int sp), .inl (.int wi), .inr rw, .inr ag])), (o, .inl (3, [.inr q1, .inl (.int (Int32.ofNat z1))])), (q1, .inr (1, N1, zJ fo1)), (r, .inl (5, [.inr a, .inl (.int (Int32.ofNat (zcnt fa1 L)))])), (a, .inr (1, L, zJ fa1))] → zOn [v, o, q, r, a] h q1 → zSw h [(v, .inl (9, [.inl (.int nu), .inl (.int bs), .inl (.int fi), .inl (.int sz), .inl (.int gr), .inr o, .inr r, .inr fr, .inr hd, .inl (.int dr), .inl (.int me), .inl (.int sp), .inl (.int wi), .inr rw, .inr ag])), (o, .inl (3, [.inr q, .inl (.int (Int32.ofNat z))])), (q, .inr (1, N, zJ fo)), (r, .inl (5, [.inr a, .inl (.int (Int32.ofNat (zcnt fa L)))])), (a, .inr (1, L, zJ fa))] [(v, .inl (9, [.inl (.int nu), .inl (.int bs), .inl (.int fi), .inl (.int sz), .inl (.int gr), .inr o, .inr r, .inr fr, .inr hd, .inl (.int dr), .inl (.int me), .inl (.int sp), .inl (.int wi), .inr rw, .inr ag])), (o, .inl (3, [.inr q1, .inl (.int (Int32.ofNat z1))])), (q1, .inr (1, N1, zJ fo1)), (r, .inl (5, [.inr a, .inl (.int (Int32.ofNat (zcnt fa1 L)))])), (a, .inr (1, L, zJ fa1))] := by
    intro q1 N1 z1 fo1 fa1 h1 hw1 hq
    have e0 := hw1.ne 2 0 rfl rfl (by decide)
    have e1 := hw1.ne 2 1 rfl rfl (by decide)
    have e3 := hw1.ne 2 3 rfl rfl (by decide)
    have e4 := hw1.ne 2 4 rfl rfl (by decide)
    refine ⟨rfl, fun i p p1 hp hp1 => ?_⟩
    match i, hp, hp1 with
    | 0, hp, hp1 => cases hp; cases hp1; exact Or.inl rfl
    | 1, hp, hp1 => cases hp; cases hp1; exact Or.inl rfl
    | 3, hp, hp1 => cases hp; cases hp1; exact Or.inl rfl
    | 4, hp, hp1 => cases hp; cases hp1; exact Or.inl rfl
    | 2, hp, hp1 =>
      cases hp
      cases hp1
      cases hq with
      | inr hq => exact Or.inr hq
      | inl hq =>
        simp only [List.mem_cons, List.not_mem_nil, or_false] at hq
        rcases hq with hq | hq | hq | hq | hq
        · exact absurd hq e0
        · exact absurd hq e1
        · exact Or.inl hq
        · exact absurd hq e3
        · exact absurd hq e4
    | i + 5, hp, hp1 => cases hp
  refine w_tanewW hL hN hN0 hzN hz hmy hj hk hy hfr hmx hw (fun e => ?_) (fun q1 N1 fo1 k1 c1 s1 h1 hv hf hr hq e e2 hn ho hx hb => ?_) (fun q1 N1 fo1 k1 c1 s1 q2 N2 fo2 k2 c2 s2 h1 hv hf hr hq e e2 hn ho hx hb hn2 ho2 hx2 hb2 => ?_)
  · rw [zcmpE] at e
    have e := of_decide_eq_true e
    unfold zanF zanL at kn
    rw [if_pos e, if_pos e] at kn
    exact kn q N fo k0 c0 s0 h hw zFw.rf hfr (sw _ _ _ _ _ _ hw (zOn.of 2 rfl)) ⟨Nat.le_refl _, hN, hzN⟩ zApp.nil ⟨Nat.le_refl _, Nat.le_refl _, Nat.le_refl _, Nat.le_refl _⟩
  · rw [zcmpE] at e e2
    have e := of_decide_eq_false e
    have e2 := of_decide_eq_true e2
    unfold zanF zanL at kn
    rw [if_neg e, if_pos e2, if_neg e, if_pos e2] at kn
    exact kn q1 N1 fo1 k1 c1 s1 h1 hv hf hr (sw _ _ _ _ _ _ hv hq) hn (zApp.one ho hx) hb
  · rw [zcmpE] at e e2
    have e := of_decide_eq_false e
    have e2 := of_decide_eq_false e2
    unfold zanF zanL at kn
    rw [if_neg e, if_neg e2, if_neg e, if_neg e2] at kn
    exact kn q2 N2 fo2 k2 c2 s2 h1 hv hf hr (sw _ _ _ _ _ _ hv hq) ⟨by omega, by omega, (show z + 2 ≤ N2 by omega)⟩ ((zApp.one ho hx).tr (zApp.one ho2 hx2) rfl) ⟨by omega, by omega, by omega, by omega⟩
theorem s_tanewS {d : Nat} {k0 c0 s0 : Nat} {h : xH} {Q : xR → xA → Prop} {v o q r a fr hd : Nat × Nat} {nu bs fi sz gr dr : Int32} {N z L : Nat} {fo fa : Nat → Int64} {rw ag fs jo : Nat × Nat} {me : Int32} {j k : Nat} {y : Int64} (hL : L < 2147483647) (hN : N ≤ 320000) (hN0 : 0 < N) (hzN : z ≤ N) (hz : z + 2 < 320000) (hmy : k0 + 320000 < 390000 + N) (hj : j < L) (hk : k < L) (hy : y ≠ 0) (hfr : zFree k0 h) (hmx : k0 + 0 < zMax) (hw : zWd h [(v, .inl (6, [.inl (.int nu), .inl (.int bs), .inl (.int fi), .inl (.int sz), .inl (.int gr), .inr o, .inr r, .inr fr, .inr hd, .inl (.int dr), .inl (.int me), .inr rw, .inr ag, .inr fs, .inr jo])), (o, .inl (3, [.inr q, .inl (.int (Int32.ofNat z))])), (q, .inr (1, N, zJ fo)), (r, .inl (5, [.inr a, .inl (.int (Int32.ofNat (zcnt fa L)))])), (a, .inr (1, L, zJ fa))])
    (kn : ∀ (q1 : Nat × Nat) (N1 : Nat) (fo1 : Nat → Int64) (k1 c1 s1 : Nat) (h1 : xH), zWd h1 [(v, .inl (6, [.inl (.int nu), .inl (.int bs), .inl (.int fi), .inl (.int sz), .inl (.int gr), .inr o, .inr r, .inr fr, .inr hd, .inl (.int dr), .inl (.int me), .inr rw, .inr ag, .inr fs, .inr jo])), (o, .inl (3, [.inr q1, .inl (.int (Int32.ofNat (z + (zanL fa j y).length)))])), (q1, .inr (1, N1, zJ fo1)), (r, .inl (5, [.inr a, .inl (.int (Int32.ofNat (zcnt (zanF fa j k y) L)))])), (a, .inr (1, L, zJ (zanF fa j k y)))] → zFw [v, o, q, r, a] h h1 → zFree k1 h1 → zSw h [(v, .inl (6, [.inl (.int nu), .inl (.int bs), .inl (.int fi), .inl (.int sz), .inl (.int gr), .inr o, .inr r, .inr fr, .inr hd, .inl (.int dr), .inl (.int me), .inr rw, .inr ag, .inr fs, .inr jo])), (o, .inl (3, [.inr q, .inl (.int (Int32.ofNat z))])), (q, .inr (1, N, zJ fo)), (r, .inl (5, [.inr a, .inl (.int (Int32.ofNat (zcnt fa L)))])), (a, .inr (1, L, zJ fa))] [(v, .inl (6, [.inl (.int nu), .inl (.int bs), .inl (.int fi), .inl (.int sz), .inl (.int gr), .inr o, .inr r, .inr fr, .inr hd, .inl (.int dr), .inl (.int me), .inr rw, .inr ag, .inr fs, .inr jo])), (o, .inl (3, [.inr q1, .inl (.int (Int32.ofNat (z + (zanL fa j y).length)))])), (q1, .inr (1, N1, zJ fo1)), (r, .inl (5, [.inr a, .inl (.int (Int32.ofNat (zcnt (zanF fa j k y) L)))])), (a, .inr (1, L, zJ (zanF fa j k y)))] → N ≤ N1 ∧ N1 ≤ 320000 ∧ z + (zanL fa j y).length ≤ N1 → zApp z fo (zanL fa j y) fo1 → (k0 ≤ k1 ∧ k1 + N ≤ k0 + N1 ∧ c1 + N ≤ c0 + N1 ∧ s1 + zB N ≤ s0 + zB N1) → Q (.inl none) (zNm k1, c1, s1, h1)) :
    zW xPP (d + 3) 80 0 [(0, .inr v), (1, .inl (.int (Int32.ofNat j))), (2, .inl (.int (Int32.ofNat k))), (3, .inl (.long y))] [] (zNm k0, c0, s0, h) Q := by
  have sw : ∀ (q1 : Nat × Nat) (N1 z1 : Nat) (fo1 fa1 : Nat → Int64) (h1 : xH), zWd h1 [(v, .inl (6, [.inl (.int nu), .inl (.int bs), .inl (.int fi), .inl (.int sz), .inl (.int gr), .inr o, .inr r, .inr fr, .inr hd, .inl (.int dr), .inl (.int me), .inr rw, .inr ag, .inr fs, .inr jo])), (o, .inl (3, [.inr q1, .inl (.int (Int32.ofNat z1))])), (q1, .inr (1, N1, zJ fo1)), (r, .inl (5, [.inr a, .inl (.int (Int32.ofNat (zcnt fa1 L)))])), (a, .inr (1, L, zJ fa1))] → zOn [v, o, q, r, a] h q1 → zSw h [(v, .inl (6, [.inl (.int nu), .inl (.int bs), .inl (.int fi), .inl (.int sz), .inl (.int gr), .inr o, .inr r, .inr fr, .inr hd, .inl (.int dr), .inl (.int me), .inr rw, .inr ag, .inr fs, .inr jo])), (o, .inl (3, [.inr q, .inl (.int (Int32.ofNat z))])), (q, .inr (1, N, zJ fo)), (r, .inl (5, [.inr a, .inl (.int (Int32.ofNat (zcnt fa L)))])), (a, .inr (1, L, zJ fa))] [(v, .inl (6, [.inl (.int nu), .inl (.int bs), .inl (.int fi), .inl (.int sz), .inl (.int gr), .inr o, .inr r, .inr fr, .inr hd, .inl (.int dr), .inl (.int me), .inr rw, .inr ag, .inr fs, .inr jo])), (o, .inl (3, [.inr q1, .inl (.int (Int32.ofNat z1))])), (q1, .inr (1, N1, zJ fo1)), (r, .inl (5, [.inr a, .inl (.int (Int32.ofNat (zcnt fa1 L)))])), (a, .inr (1, L, zJ fa1))] := by
    intro q1 N1 z1 fo1 fa1 h1 hw1 hq
    have e0 := hw1.ne 2 0 rfl rfl (by decide)
    have e1 := hw1.ne 2 1 rfl rfl (by decide)
    have e3 := hw1.ne 2 3 rfl rfl (by decide)
    have e4 := hw1.ne 2 4 rfl rfl (by decide)
    refine ⟨rfl, fun i p p1 hp hp1 => ?_⟩
    match i, hp, hp1 with
    | 0, hp, hp1 => cases hp; cases hp1; exact Or.inl rfl
    | 1, hp, hp1 => cases hp; cases hp1; exact Or.inl rfl
    | 3, hp, hp1 => cases hp; cases hp1; exact Or.inl rfl
    | 4, hp, hp1 => cases hp; cases hp1; exact Or.inl rfl
    | 2, hp, hp1 =>
      cases hp
      cases hp1
      cases hq with
      | inr hq => exact Or.inr hq
      | inl hq =>
        simp only [List.mem_cons, List.not_mem_nil, or_false] at hq
        rcases hq with hq | hq | hq | hq | hq
        · exact absurd hq e0
        · exact absurd hq e1
        · exact Or.inl hq
        · exact absurd hq e3
        · exact absurd hq e4
    | i + 5, hp, hp1 => cases hp
  refine w_tanewS hL hN hN0 hzN hz hmy hj hk hy hfr hmx hw (fun e => ?_) (fun q1 N1 fo1 k1 c1 s1 h1 hv hf hr hq e e2 hn ho hx hb => ?_) (fun q1 N1 fo1 k1 c1 s1 q2 N2 fo2 k2 c2 s2 h1 hv hf hr hq e e2 hn ho hx hb hn2 ho2 hx2 hb2 => ?_)
  · rw [zcmpE] at e
    have e := of_decide_eq_true e
    unfold zanF zanL at kn
    rw [if_pos e, if_pos e] at kn
    exact kn q N fo k0 c0 s0 h hw zFw.rf hfr (sw _ _ _ _ _ _ hw (zOn.of 2 rfl)) ⟨Nat.le_refl _, hN, hzN⟩ zApp.nil ⟨Nat.le_refl _, Nat.le_refl _, Nat.le_refl _, Nat.le_refl _⟩
  · rw [zcmpE] at e e2
    have e := of_decide_eq_false e
    have e2 := of_decide_eq_true e2
    unfold zanF zanL at kn
    rw [if_neg e, if_pos e2, if_neg e, if_pos e2] at kn
    exact kn q1 N1 fo1 k1 c1 s1 h1 hv hf hr (sw _ _ _ _ _ _ hv hq) hn (zApp.one ho hx) hb
  · rw [zcmpE] at e e2
    have e := of_decide_eq_false e
    have e2 := of_decide_eq_false e2
    unfold zanF zanL at kn
    rw [if_neg e, if_neg e2, if_neg e, if_neg e2] at kn
    exact kn q2 N2 fo2 k2 c2 s2 h1 hv hf hr (sw _ _ _ _ _ _ hv hq) ⟨by omega, by omega, (show z + 2 ≤ N2 by omega)⟩ ((zApp.one ho hx).tr (zApp.one ho2 hx2) rfl) ⟨by omega, by omega, by omega, by omega⟩
theorem s_tanewV {d : Nat} {k0 c0 s0 : Nat} {h : xH} {Q : xR → xA → Prop} {v o q r a fr hd : Nat × Nat} {nu bs fi sz gr dr : Int32} {N z L : Nat} {fo fa : Nat → Int64} {lf vs ag : Nat × Nat} {j k : Nat} {y : Int64} (hL : L < 2147483647) (hN : N ≤ 320000) (hN0 : 0 < N) (hzN : z ≤ N) (hz : z + 2 < 320000) (hmy : k0 + 320000 < 390000 + N) (hj : j < L) (hk : k < L) (hy : y ≠ 0) (hfr : zFree k0 h) (hmx : k0 + 0 < zMax) (hw : zWd h [(v, .inl (8, [.inl (.int nu), .inl (.int bs), .inl (.int fi), .inl (.int sz), .inl (.int gr), .inr o, .inr r, .inr fr, .inr hd, .inl (.int dr), .inr lf, .inr vs, .inr ag])), (o, .inl (3, [.inr q, .inl (.int (Int32.ofNat z))])), (q, .inr (1, N, zJ fo)), (r, .inl (5, [.inr a, .inl (.int (Int32.ofNat (zcnt fa L)))])), (a, .inr (1, L, zJ fa))])
    (kn : ∀ (q1 : Nat × Nat) (N1 : Nat) (fo1 : Nat → Int64) (k1 c1 s1 : Nat) (h1 : xH), zWd h1 [(v, .inl (8, [.inl (.int nu), .inl (.int bs), .inl (.int fi), .inl (.int sz), .inl (.int gr), .inr o, .inr r, .inr fr, .inr hd, .inl (.int dr), .inr lf, .inr vs, .inr ag])), (o, .inl (3, [.inr q1, .inl (.int (Int32.ofNat (z + (zanL fa j y).length)))])), (q1, .inr (1, N1, zJ fo1)), (r, .inl (5, [.inr a, .inl (.int (Int32.ofNat (zcnt (zanF fa j k y) L)))])), (a, .inr (1, L, zJ (zanF fa j k y)))] → zFw [v, o, q, r, a] h h1 → zFree k1 h1 → zSw h [(v, .inl (8, [.inl (.int nu), .inl (.int bs), .inl (.int fi), .inl (.int sz), .inl (.int gr), .inr o, .inr r, .inr fr, .inr hd, .inl (.int dr), .inr lf, .inr vs, .inr ag])), (o, .inl (3, [.inr q, .inl (.int (Int32.ofNat z))])), (q, .inr (1, N, zJ fo)), (r, .inl (5, [.inr a, .inl (.int (Int32.ofNat (zcnt fa L)))])), (a, .inr (1, L, zJ fa))] [(v, .inl (8, [.inl (.int nu), .inl (.int bs), .inl (.int fi), .inl (.int sz), .inl (.int gr), .inr o, .inr r, .inr fr, .inr hd, .inl (.int dr), .inr lf, .inr vs, .inr ag])), (o, .inl (3, [.inr q1, .inl (.int (Int32.ofNat (z + (zanL fa j y).length)))])), (q1, .inr (1, N1, zJ fo1)), (r, .inl (5, [.inr a, .inl (.int (Int32.ofNat (zcnt (zanF fa j k y) L)))])), (a, .inr (1, L, zJ (zanF fa j k y)))] → N ≤ N1 ∧ N1 ≤ 320000 ∧ z + (zanL fa j y).length ≤ N1 → zApp z fo (zanL fa j y) fo1 → (k0 ≤ k1 ∧ k1 + N ≤ k0 + N1 ∧ c1 + N ≤ c0 + N1 ∧ s1 + zB N ≤ s0 + zB N1) → Q (.inl none) (zNm k1, c1, s1, h1)) :
    zW xPP (d + 3) 80 0 [(0, .inr v), (1, .inl (.int (Int32.ofNat j))), (2, .inl (.int (Int32.ofNat k))), (3, .inl (.long y))] [] (zNm k0, c0, s0, h) Q := by
  have sw : ∀ (q1 : Nat × Nat) (N1 z1 : Nat) (fo1 fa1 : Nat → Int64) (h1 : xH), zWd h1 [(v, .inl (8, [.inl (.int nu), .inl (.int bs), .inl (.int fi), .inl (.int sz), .inl (.int gr), .inr o, .inr r, .inr fr, .inr hd, .inl (.int dr), .inr lf, .inr vs, .inr ag])), (o, .inl (3, [.inr q1, .inl (.int (Int32.ofNat z1))])), (q1, .inr (1, N1, zJ fo1)), (r, .inl (5, [.inr a, .inl (.int (Int32.ofNat (zcnt fa1 L)))])), (a, .inr (1, L, zJ fa1))] → zOn [v, o, q, r, a] h q1 → zSw h [(v, .inl (8, [.inl (.int nu), .inl (.int bs), .inl (.int fi), .inl (.int sz), .inl (.int gr), .inr o, .inr r, .inr fr, .inr hd, .inl (.int dr), .inr lf, .inr vs, .inr ag])), (o, .inl (3, [.inr q, .inl (.int (Int32.ofNat z))])), (q, .inr (1, N, zJ fo)), (r, .inl (5, [.inr a, .inl (.int (Int32.ofNat (zcnt fa L)))])), (a, .inr (1, L, zJ fa))] [(v, .inl (8, [.inl (.int nu), .inl (.int bs), .inl (.int fi), .inl (.int sz), .inl (.int gr), .inr o, .inr r, .inr fr, .inr hd, .inl (.int dr), .inr lf, .inr vs, .inr ag])), (o, .inl (3, [.inr q1, .inl (.int (Int32.ofNat z1))])), (q1, .inr (1, N1, zJ fo1)), (r, .inl (5, [.inr a, .inl (.int (Int32.ofNat (zcnt fa1 L)))])), (a, .inr (1, L, zJ fa1))] := by
    intro q1 N1 z1 fo1 fa1 h1 hw1 hq
    have e0 := hw1.ne 2 0 rfl rfl (by decide)
    have e1 := hw1.ne 2 1 rfl rfl (by decide)
    have e3 := hw1.ne 2 3 rfl rfl (by decide)
    have e4 := hw1.ne 2 4 rfl rfl (by decide)
    refine ⟨rfl, fun i p p1 hp hp1 => ?_⟩
    match i, hp, hp1 with
    | 0, hp, hp1 => cases hp; cases hp1; exact Or.inl rfl
    | 1, hp, hp1 => cases hp; cases hp1; exact Or.inl rfl
    | 3, hp, hp1 => cases hp; cases hp1; exact Or.inl rfl
    | 4, hp, hp1 => cases hp; cases hp1; exact Or.inl rfl
    | 2, hp, hp1 =>
      cases hp
      cases hp1
      cases hq with
      | inr hq => exact Or.inr hq
      | inl hq =>
        simp only [List.mem_cons, List.not_mem_nil, or_false] at hq
        rcases hq with hq | hq | hq | hq | hq
        · exact absurd hq e0
        · exact absurd hq e1
        · exact Or.inl hq
        · exact absurd hq e3
        · exact absurd hq e4
    | i + 5, hp, hp1 => cases hp
  refine w_tanewV hL hN hN0 hzN hz hmy hj hk hy hfr hmx hw (fun e => ?_) (fun q1 N1 fo1 k1 c1 s1 h1 hv hf hr hq e e2 hn ho hx hb => ?_) (fun q1 N1 fo1 k1 c1 s1 q2 N2 fo2 k2 c2 s2 h1 hv hf hr hq e e2 hn ho hx hb hn2 ho2 hx2 hb2 => ?_)
  · rw [zcmpE] at e
    have e := of_decide_eq_true e
    unfold zanF zanL at kn
    rw [if_pos e, if_pos e] at kn
    exact kn q N fo k0 c0 s0 h hw zFw.rf hfr (sw _ _ _ _ _ _ hw (zOn.of 2 rfl)) ⟨Nat.le_refl _, hN, hzN⟩ zApp.nil ⟨Nat.le_refl _, Nat.le_refl _, Nat.le_refl _, Nat.le_refl _⟩
  · rw [zcmpE] at e e2
    have e := of_decide_eq_false e
    have e2 := of_decide_eq_true e2
    unfold zanF zanL at kn
    rw [if_neg e, if_pos e2, if_neg e, if_pos e2] at kn
    exact kn q1 N1 fo1 k1 c1 s1 h1 hv hf hr (sw _ _ _ _ _ _ hv hq) hn (zApp.one ho hx) hb
  · rw [zcmpE] at e e2
    have e := of_decide_eq_false e
    have e2 := of_decide_eq_false e2
    unfold zanF zanL at kn
    rw [if_neg e, if_neg e2, if_neg e, if_neg e2] at kn
    exact kn q2 N2 fo2 k2 c2 s2 h1 hv hf hr (sw _ _ _ _ _ _ hv hq) ⟨by omega, by omega, (show z + 2 ≤ N2 by omega)⟩ ((zApp.one ho hx).tr (zApp.one ho2 hx2) rfl) ⟨by omega, by omega, by omega, by omega⟩
end ZSP3
