set_option maxRecDepth 100000
section ZSP4
theorem s_tellW {d : Nat} {k0 c0 s0 : Nat} {h : xH} {Q : xR → xA → Prop} {v o q r a fr hd : Nat × Nat} {nu bs fi sz gr dr : Int32} {N z L : Nat} {fo fa : Nat → Int64} {rw ag : Nat × Nat} {me sp wi : Int32} {k : Nat} {y : Int64} (hL : L < 2147483647) (hN : N ≤ 320000) (hN0 : 0 < N) (hzN : z ≤ N) (hz : z + 2 < 320000) (hmy : k0 + 320000 < 390000 + N) (hk : k < L) (hy : y ≠ 0) (hfr : zFree k0 h) (hmx : k0 + 0 < zMax) (hw : zWd h [(v, .inl (9, [.inl (.int nu), .inl (.int bs), .inl (.int fi), .inl (.int sz), .inl (.int gr), .inr o, .inr r, .inr fr, .inr hd, .inl (.int dr), .inl (.int me), .inl (.int sp), .inl (.int wi), .inr rw, .inr ag])), (o, .inl (3, [.inr q, .inl (.int (Int32.ofNat z))])), (q, .inr (1, N, zJ fo)), (r, .inl (5, [.inr a, .inl (.int (Int32.ofNat (zcnt fa L)))])), (a, .inr (1, L, zJ fa))])
    (kn : ∀ (q1 : Nat × Nat) (N1 : Nat) (fo1 : Nat → Int64) (k1 c1 s1 : Nat) (h1 : xH), zWd h1 [(v, .inl (9, [.inl (.int nu), .inl (.int bs), .inl (.int fi), .inl (.int sz), .inl (.int gr), .inr o, .inr r, .inr fr, .inr hd, .inl (.int dr), .inl (.int me), .inl (.int sp), .inl (.int wi), .inr rw, .inr ag])), (o, .inl (3, [.inr q1, .inl (.int (Int32.ofNat (z + 1)))])), (q1, .inr (1, N1, zJ fo1)), (r, .inl (5, [.inr a, .inl (.int (Int32.ofNat (zcnt (zfi fa k y) L)))])), (a, .inr (1, L, zJ (zfi fa k y)))] → zFw [v, o, q, r, a] h h1 → zFree k1 h1 → zSw h [(v, .inl (9, [.inl (.int nu), .inl (.int bs), .inl (.int fi), .inl (.int sz), .inl (.int gr), .inr o, .inr r, .inr fr, .inr hd, .inl (.int dr), .inl (.int me), .inl (.int sp), .inl (.int wi), .inr rw, .inr ag])), (o, .inl (3, [.inr q, .inl (.int (Int32.ofNat z))])), (q, .inr (1, N, zJ fo)), (r, .inl (5, [.inr a, .inl (.int (Int32.ofNat (zcnt fa L)))])), (a, .inr (1, L, zJ fa))] [(v, .inl (9, [.inl (.int nu), .inl (.int bs), .inl (.int fi), .inl (.int sz), .inl (.int gr), .inr o, .inr r, .inr fr, .inr hd, .inl (.int dr), .inl (.int me), .inl (.int sp), .inl (.int wi), .inr rw, .inr ag])), (o, .inl (3, [.inr q1, .inl (.int (Int32.ofNat (z + 1)))])), (q1, .inr (1, N1, zJ fo1)), (r, .inl (5, [.inr a, .inl (.int (Int32.ofNat (zcnt (zfi fa k y) L)))])), (a, .inr (1, L, zJ (zfi fa k y)))] → N ≤ N1 ∧ N1 ≤ 320000 ∧ z + 1 ≤ N1 → zApp z fo [y] fo1 → (k0 ≤ k1 ∧ k1 + N ≤ k0 + N1 ∧ c1 + N ≤ c0 + N1 ∧ s1 + zB N ≤ s0 + zB N1) → Q (.inl none) (zNm k1, c1, s1, h1)) :
    zW xPP (d + 2) 78 0 [(0, .inr v), (1, .inl (.int (Int32.ofNat k))), (2, .inl (.long y))] [] (zNm k0, c0, s0, h) Q := by
  have sw : ∀ (q1 : Nat × Nat) (N1 z1 : Nat) (fo1 fa1 : Nat → Int64) (h1 : xH), zWd h1 [(v, .inl (9, [.inl (.int nu), .inl (.int bs), .inl (.int fi), .inl (.int sz), .inl (.int gr), .inr o, .inr r, .inr fr, .inr hd, .inl (.int dr), .inl (.int me), .inl (.int sp), .inl (.int wi), .inr rw, .inr ag])), (o, .inl (3, [.inr q1, .inl (.int (Int32.ofNat z1))])), (q1, .inr (1, N1, zJ fo1)), (r, .inl (5, [.inr a, .inl (.int (Int32.ofNat (zcnt fa1 L)))])), (a, .inr (1, L, zJ fa1))] → zOn [v, o, q, r, a] h q1 → zSw h [(v, .inl (9, [.inl (.int nu), .inl (.int bs), .inl (.int fi), .inl (.int sz), .inl (.int gr), .inr o, .inr r, .inr fr, .inr hd, .inl (.int dr), .inl (.int me), .inl (.int sp), .inl (.int wi), .inr rw, .inr ag])), (o, .inl (3, [.inr q, .inl (.int (Int32.ofNat z))])), (q, .inr (1, N, zJ fo)), (r, .inl (5, [.inr a, .inl (.int (Int32.ofNat (zcnt fa L)))])), (a, .inr (1, L, zJ fa))] [(v, .inl (9, [.inl (.int nu), .inl (.int bs), .inl (.int fi), .inl (.int sz), .inl (.int gr), .inr o, .inr r, .inr fr, .inr hd, .inl (.int dr), .inl (.int me), .inl (.int sp), .inl (.int wi), .inr rw, .inr ag])), (o, .inl (3, [.inr q1, .inl (.int (Int32.ofNat z1))])), (q1, .inr (1, N1, zJ fo1)), (r, .inl (5, [.inr a, .inl (.int (Int32.ofNat (zcnt fa1 L)))])), (a, .inr (1, L, zJ fa1))] := by
    intro q1 N1 z1 fo1 fa1 h1 hw1 hq
    have e0 := hw1.ne 2 0 rfl rfl (by decide)
    have e1 := hw1.ne 2 1 rfl rfl (by decide)
    have e3 := hw1.ne 2 3 rfl rfl (by decide)
    have e4 := hw1.ne 2 4 rfl rfl (by decide)
    refine ⟨rfl, fun i p p1 hp hp1 => ?_⟩
    match i, hp, hp1 with
    | 0, hp, hp1 => cases hp; cases hp1; exact Or.inl rfl
    | 1, hp, hp1 => cases hp; cases hp1; exact Or.inl rfl
    | 3, hp, hp1 => cases hp; cases hp1; exact Or.inl rfl
    | 4, hp, hp1 => cases hp; cases hp1; exact Or.inl rfl
    | 2, hp, hp1 =>
      cases hp
      cases hp1
      cases hq with
      | inr hq => exact Or.inr hq
      | inl hq =>
        simp only [List.mem_cons, List.not_mem_nil, or_false] at hq
        rcases hq with hq | hq | hq | hq | hq
        · exact absurd hq e0
        · exact absurd hq e1
        · exact Or.inl hq
        · exact absurd hq e3
        · exact absurd hq e4
    | i + 5, hp, hp1 => cases hp
  exact w_tellW hL hN hN0 hzN hz hmy hk hy hfr hmx hw (fun q1 N1 fo1 k1 c1 s1 h1 hv hf hr hq hn ho hx hb => kn q1 N1 fo1 k1 c1 s1 h1 hv hf hr (sw _ _ _ _ _ _ hv hq) hn (zApp.one ho hx) hb)
theorem s_tellS {d : Nat} {k0 c0 s0 : Nat} {h : xH} {Q : xR → xA → Prop} {v o q r a fr hd : Nat × Nat} {nu bs fi sz gr dr : Int32} {N z L : Nat} {fo fa : Nat → Int64} {rw ag fs jo : Nat × Nat} {me : Int32} {k : Nat} {y : Int64} (hL : L < 2147483647) (hN : N ≤ 320000) (hN0 : 0 < N) (hzN : z ≤ N) (hz : z + 2 < 320000) (hmy : k0 + 320000 < 390000 + N) (hk : k < L) (hy : y ≠ 0) (hfr : zFree k0 h) (hmx : k0 + 0 < zMax) (hw : zWd h [(v, .inl (6, [.inl (.int nu), .inl (.int bs), .inl (.int fi), .inl (.int sz), .inl (.int gr), .inr o, .inr r, .inr fr, .inr hd, .inl (.int dr), .inl (.int me), .inr rw, .inr ag, .inr fs, .inr jo])), (o, .inl (3, [.inr q, .inl (.int (Int32.ofNat z))])), (q, .inr (1, N, zJ fo)), (r, .inl (5, [.inr a, .inl (.int (Int32.ofNat (zcnt fa L)))])), (a, .inr (1, L, zJ fa))])
    (kn : ∀ (q1 : Nat × Nat) (N1 : Nat) (fo1 : Nat → Int64) (k1 c1 s1 : Nat) (h1 : xH), zWd h1 [(v, .inl (6, [.inl (.int nu), .inl (.int bs), .inl (.int fi), .inl (.int sz), .inl (.int gr), .inr o, .inr r, .inr fr, .inr hd, .inl (.int dr), .inl (.int me), .inr rw, .inr ag, .inr fs, .inr jo])), (o, .inl (3, [.inr q1, .inl (.int (Int32.ofNat (z + 1)))])), (q1, .inr (1, N1, zJ fo1)), (r, .inl (5, [.inr a, .inl (.int (Int32.ofNat (zcnt (zfi fa k y) L)))])), (a, .inr (1, L, zJ (zfi fa k y)))] → zFw [v, o, q, r, a] h h1 → zFree k1 h1 → zSw h [(v, .inl (6, [.inl (.int nu), .inl (.int bs), .inl (.int fi), .inl (.int sz), .inl (.int gr), .inr o, .inr r, .inr fr, .inr hd, .inl (.int dr), .inl (.int me), .inr rw, .inr ag, .inr fs, .inr jo])), (o, .inl (3, [.inr q, .inl (.int (Int32.ofNat z))])), (q, .inr (1, N, zJ fo)), (r, .inl (5, [.inr a, .inl (.int (Int32.ofNat (zcnt fa L)))])), (a, .inr (1, L, zJ fa))] [(v, .inl (6, [.inl (.int nu), .inl (.int bs), .inl (.int fi), .inl (.int sz), .inl (.int gr), .inr o, .inr r, .inr fr, .inr hd, .inl (.int dr), .inl (.int me), .inr rw, .inr ag, .inr fs, .inr jo])), (o, .inl (3, [.inr q1, .inl (.int (Int32.ofNat (z + 1)))])), (q1, .inr (1, N1, zJ fo1)), (r, .inl (5, [.inr a, .inl (.int (Int32.ofNat (zcnt (zfi fa k y) L)))])), (a, .inr (1, L, zJ (zfi fa k y)))] → N ≤ N1 ∧ N1 ≤ 320000 ∧ z + 1 ≤ N1 → zApp z fo [y] fo1 → (k0 ≤ k1 ∧ k1 + N ≤ k0 + N1 ∧ c1 + N ≤ c0 + N1 ∧ s1 + zB N ≤ s0 + zB N1) → Q (.inl none) (zNm k1, c1, s1, h1)) :
    zW xPP (d + 2) 78 0 [(0, .inr v), (1, .inl (.int (Int32.ofNat k))), (2, .inl (.long y))] [] (zNm k0, c0, s0, h) Q := by
  have sw : ∀ (q1 : Nat × Nat) (N1 z1 : Nat) (fo1 fa1 : Nat → Int64) (h1 : xH), zWd h1 [(v, .inl (6, [.inl (.int nu), .inl (.int bs), .inl (.int fi), .inl (.int sz), .inl (.int gr), .inr o, .inr r, .inr fr, .inr hd, .inl (.int dr), .inl (.int me), .inr rw, .inr ag, .inr fs, .inr jo])), (o, .inl (3, [.inr q1, .inl (.int (Int32.ofNat z1))])), (q1, .inr (1, N1, zJ fo1)), (r, .inl (5, [.inr a, .inl (.int (Int32.ofNat (zcnt fa1 L)))])), (a, .inr (1, L, zJ fa1))] → zOn [v, o, q, r, a] h q1 → zSw h [(v, .inl (6, [.inl (.int nu), .inl (.int bs), .inl (.int fi), .inl (.int sz), .inl (.int gr), .inr o, .inr r, .inr fr, .inr hd, .inl (.int dr), .inl (.int me), .inr rw, .inr ag, .inr fs, .inr jo])), (o, .inl (3, [.inr q, .inl (.int (Int32.ofNat z))])), (q, .inr (1, N, zJ fo)), (r, .inl (5, [.inr a, .inl (.int (Int32.ofNat (zcnt fa L)))])), (a, .inr (1, L, zJ fa))] [(v, .inl (6, [.inl (.int nu), .inl (.int bs), .inl (.int fi), .inl (.int sz), .inl (.int gr), .inr o, .inr r, .inr fr, .inr hd, .inl (.int dr), .inl (.int me), .inr rw, .inr ag, .inr fs, .inr jo])), (o, .inl (3, [.inr q1, .inl (.int (Int32.ofNat z1))])), (q1, .inr (1, N1, zJ fo1)), (r, .inl (5, [.inr a, .inl (.int (Int32.ofNat (zcnt fa1 L)))])), (a, .inr (1, L, zJ fa1))] := by
    intro q1 N1 z1 fo1 fa1 h1 hw1 hq
    have e0 := hw1.ne 2 0 rfl rfl (by decide)
    have e1 := hw1.ne 2 1 rfl rfl (by decide)
    have e3 := hw1.ne 2 3 rfl rfl (by decide)
    have e4 := hw1.ne 2 4 rfl rfl (by decide)
    refine ⟨rfl, fun i p p1 hp hp1 => ?_⟩
    match i, hp, hp1 with
    | 0, hp, hp1 => cases hp; cases hp1; exact Or.inl rfl
    | 1, hp, hp1 => cases hp; cases hp1; exact Or.inl rfl
    | 3, hp, hp1 => cases hp; cases hp1; exact Or.inl rfl
    | 4, hp, hp1 => cases hp; cases hp1; exact Or.inl rfl
    | 2, hp, hp1 =>
      cases hp
      cases hp1
      cases hq with
      | inr hq => exact Or.inr hq
      | inl hq =>
        simp only [List.mem_cons, List.not_mem_nil, or_false] at hq
        rcases hq with hq | hq | hq | hq | hq
        · exact absurd hq e0
        · exact absurd hq e1
        · exact Or.inl hq
        · exact absurd hq e3
        · exact absurd hq e4
    | i + 5, hp, hp1 => cases hp
  exact w_tellS hL hN hN0 hzN hz hmy hk hy hfr hmx hw (fun q1 N1 fo1 k1 c1 s1 h1 hv hf hr hq hn ho hx hb => kn q1 N1 fo1 k1 c1 s1 h1 hv hf hr (sw _ _ _ _ _ _ hv hq) hn (zApp.one ho hx) hb)
theorem s_tellV {d : Nat} {k0 c0 s0 : Nat} {h : xH} {Q : xR → xA → Prop} {v o q r a fr hd : Nat × Nat} {nu bs fi sz gr dr : Int32} {N z L : Nat} {fo fa : Nat → Int64} {lf vs ag : Nat × Nat} {k : Nat} {y : Int64} (hL : L < 2147483647) (hN : N ≤ 320000) (hN0 : 0 < N) (hzN : z ≤ N) (hz : z + 2 < 320000) (hmy : k0 + 320000 < 390000 + N) (hk : k < L) (hy : y ≠ 0) (hfr : zFree k0 h) (hmx : k0 + 0 < zMax) (hw : zWd h [(v, .inl (8, [.inl (.int nu), .inl (.int bs), .inl (.int fi), .inl (.int sz), .inl (.int gr), .inr o, .inr r, .inr fr, .inr hd, .inl (.int dr), .inr lf, .inr vs, .inr ag])), (o, .inl (3, [.inr q, .inl (.int (Int32.ofNat z))])), (q, .inr (1, N, zJ fo)), (r, .inl (5, [.inr a, .inl (.int (Int32.ofNat (zcnt fa L)))])), (a, .inr (1, L, zJ fa))])
    (kn : ∀ (q1 : Nat × Nat) (N1 : Nat) (fo1 : Nat → Int64) (k1 c1 s1 : Nat) (h1 : xH), zWd h1 [(v, .inl (8, [.inl (.int nu), .inl (.int bs), .inl (.int fi), .inl (.int sz), .inl (.int gr), .inr o, .inr r, .inr fr, .inr hd, .inl (.int dr), .inr lf, .inr vs, .inr ag])), (o, .inl (3, [.inr q1, .inl (.int (Int32.ofNat (z + 1)))])), (q1, .inr (1, N1, zJ fo1)), (r, .inl (5, [.inr a, .inl (.int (Int32.ofNat (zcnt (zfi fa k y) L)))])), (a, .inr (1, L, zJ (zfi fa k y)))] → zFw [v, o, q, r, a] h h1 → zFree k1 h1 → zSw h [(v, .inl (8, [.inl (.int nu), .inl (.int bs), .inl (.int fi), .inl (.int sz), .inl (.int gr), .inr o, .inr r, .inr fr, .inr hd, .inl (.int dr), .inr lf, .inr vs, .inr ag])), (o, .inl (3, [.inr q, .inl (.int (Int32.ofNat z))])), (q, .inr (1, N, zJ fo)), (r, .inl (5, [.inr a, .inl (.int (Int32.ofNat (zcnt fa L)))])), (a, .inr (1, L, zJ fa))] [(v, .inl (8, [.inl (.int nu), .inl (.int bs), .inl (.int fi), .inl (.int sz), .inl (.int gr), .inr o, .inr r, .inr fr, .inr hd, .inl (.int dr), .inr lf, .inr vs, .inr ag])), (o, .inl (3, [.inr q1, .inl (.int (Int32.ofNat (z + 1)))])), (q1, .inr (1, N1, zJ fo1)), (r, .inl (5, [.inr a, .inl (.int (Int32.ofNat (zcnt (zfi fa k y) L)))])), (a, .inr (1, L, zJ (zfi fa k y)))] → N ≤ N1 ∧ N1 ≤ 320000 ∧ z + 1 ≤ N1 → zApp z fo [y] fo1 → (k0 ≤ k1 ∧ k1 + N ≤ k0 + N1 ∧ c1 + N ≤ c0 + N1 ∧ s1 + zB N ≤ s0 + zB N1) → Q (.inl none) (zNm k1, c1, s1, h1)) :
    zW xPP (d + 2) 78 0 [(0, .inr v), (1, .inl (.int (Int32.ofNat k))), (2, .inl (.long y))] [] (zNm k0, c0, s0, h) Q := by
  have sw : ∀ (q1 : Nat × Nat) (N1 z1 : Nat) (fo1 fa1 : Nat → Int64) (h1 : xH), zWd h1 [(v, .inl (8, [.inl (.int nu), .inl (.int bs), .inl (.int fi), .inl (.int sz), .inl (.int gr), .inr o, .inr r, .inr fr, .inr hd, .inl (.int dr), .inr lf, .inr vs, .inr ag])), (o, .inl (3, [.inr q1, .inl (.int (Int32.ofNat z1))])), (q1, .inr (1, N1, zJ fo1)), (r, .inl (5, [.inr a, .inl (.int (Int32.ofNat (zcnt fa1 L)))])), (a, .inr (1, L, zJ fa1))] → zOn [v, o, q, r, a] h q1 → zSw h [(v, .inl (8, [.inl (.int nu), .inl (.int bs), .inl (.int fi), .inl (.int sz), .inl (.int gr), .inr o, .inr r, .inr fr, .inr hd, .inl (.int dr), .inr lf, .inr vs, .inr ag])), (o, .inl (3, [.inr q, .inl (.int (Int32.ofNat z))])), (q, .inr (1, N, zJ fo)), (r, .inl (5, [.inr a, .inl (.int (Int32.ofNat (zcnt fa L)))])), (a, .inr (1, L, zJ fa))] [(v, .inl (8, [.inl (.int nu), .inl (.int bs), .inl (.int fi), .inl (.int sz), .inl (.int gr), .inr o, .inr r, .inr fr, .inr hd, .inl (.int dr), .inr lf, .inr vs, .inr ag])), (o, .inl (3, [.inr q1, .inl (.int (Int32.ofNat z1))])), (q1, .inr (1, N1, zJ fo1)), (r, .inl (5, [.inr a, .inl (.int (Int32.ofNat (zcnt fa1 L)))])), (a, .inr (1, L, zJ fa1))] := by
    intro q1 N1 z1 fo1 fa1 h1 hw1 hq
    have e0 := hw1.ne 2 0 rfl rfl (by decide)
    have e1 := hw1.ne 2 1 rfl rfl (by decide)
    have e3 := hw1.ne 2 3 rfl rfl (by decide)
    have e4 := hw1.ne 2 4 rfl rfl (by decide)
    refine ⟨rfl, fun i p p1 hp hp1 => ?_⟩
    match i, hp, hp1 with
    | 0, hp, hp1 => cases hp; cases hp1; exact Or.inl rfl
    | 1, hp, hp1 => cases hp; cases hp1; exact Or.inl rfl
    | 3, hp, hp1 => cases hp; cases hp1; exact Or.inl rfl
    | 4, hp, hp1 => cases hp; cases hp1; exact Or.inl rfl
    | 2, hp, hp1 =>
      cases hp
      cases hp1
      cases hq with
      | inr hq => exact Or.inr hq
      | inl hq =>
        simp only [List.mem_cons, List.not_mem_nil, or_false] at hq
        rcases hq with hq | hq | hq | hq | hq
        · exact absurd hq e0
        · exact absurd hq e1
        · exact Or.inl hq
        · exact absurd hq e3
        · exact absurd hq e4
    | i + 5, hp, hp1 => cases hp
  exact w_tellV hL hN hN0 hzN hz hmy hk hy hfr hmx hw (fun q1 N1 fo1 k1 c1 s1 h1 hv hf hr hq hn ho hx hb => kn q1 N1 fo1 k1 c1 s1 h1 hv hf hr (sw _ _ _ _ _ _ hv hq) hn (zApp.one ho hx) hb)
theorem s_tellJ {d : Nat} {k0 c0 s0 : Nat} {h : xH} {Q : xR → xA → Prop} {v o q r a fr hd : Nat × Nat} {nu bs fi sz gr dr : Int32} {N z L : Nat} {fo fa : Nat → Int64} {kp : Nat × Nat} {k : Nat} {y : Int64} (hL : L < 2147483647) (hN : N ≤ 320000) (hN0 : 0 < N) (hzN : z ≤ N) (hz : z + 2 < 320000) (hmy : k0 + 320000 < 390000 + N) (hk : k < L) (hy : y ≠ 0) (hfr : zFree k0 h) (hmx : k0 + 0 < zMax) (hw : zWd h [(v, .inl (2, [.inl (.int nu), .inl (.int bs), .inl (.int fi), .inl (.int sz), .inl (.int gr), .inr o, .inr r, .inr fr, .inr hd, .inl (.int dr), .inr kp])), (o, .inl (3, [.inr q, .inl (.int (Int32.ofNat z))])), (q, .inr (1, N, zJ fo)), (r, .inl (5, [.inr a, .inl (.int (Int32.ofNat (zcnt fa L)))])), (a, .inr (1, L, zJ fa))])
    (kn : ∀ (q1 : Nat × Nat) (N1 : Nat) (fo1 : Nat → Int64) (k1 c1 s1 : Nat) (h1 : xH), zWd h1 [(v, .inl (2, [.inl (.int nu), .inl (.int bs), .inl (.int fi), .inl (.int sz), .inl (.int gr), .inr o, .inr r, .inr fr, .inr hd, .inl (.int dr), .inr kp])), (o, .inl (3, [.inr q1, .inl (.int (Int32.ofNat (z + 1)))])), (q1, .inr (1, N1, zJ fo1)), (r, .inl (5, [.inr a, .inl (.int (Int32.ofNat (zcnt (zfi fa k y) L)))])), (a, .inr (1, L, zJ (zfi fa k y)))] → zFw [v, o, q, r, a] h h1 → zFree k1 h1 → zSw h [(v, .inl (2, [.inl (.int nu), .inl (.int bs), .inl (.int fi), .inl (.int sz), .inl (.int gr), .inr o, .inr r, .inr fr, .inr hd, .inl (.int dr), .inr kp])), (o, .inl (3, [.inr q, .inl (.int (Int32.ofNat z))])), (q, .inr (1, N, zJ fo)), (r, .inl (5, [.inr a, .inl (.int (Int32.ofNat (zcnt fa L)))])), (a, .inr (1, L, zJ fa))] [(v, .inl (2, [.inl (.int nu), .inl (.int bs), .inl (.int fi), .inl (.int sz), .inl (.int gr), .inr o, .inr r, .inr fr, .inr hd, .inl (.int dr), .inr kp])), (o, .inl (3, [.inr q1, .inl (.int (Int32.ofNat (z + 1)))])), (q1, .inr (1, N1, zJ fo1)), (r, .inl (5, [.inr a, .inl (.int (Int32.ofNat (zcnt (zfi fa k y) L)))])), (a, .inr (1, L, zJ (zfi fa k y)))] → N ≤ N1 ∧ N1 ≤ 320000 ∧ z + 1 ≤ N1 → zApp z fo [y] fo1 → (k0 ≤ k1 ∧ k1 + N ≤ k0 + N1 ∧ c1 + N ≤ c0 + N1 ∧ s1 + zB N ≤ s0 + zB N1) → Q (.inl none) (zNm k1, c1, s1, h1)) :
    zW xPP (d + 2) 78 0 [(0, .inr v), (1, .inl (.int (Int32.ofNat k))), (2, .inl (.long y))] [] (zNm k0, c0, s0, h) Q := by
  have sw : ∀ (q1 : Nat × Nat) (N1 z1 : Nat) (fo1 fa1 : Nat → Int64) (h1 : xH), zWd h1 [(v, .inl (2, [.inl (.int nu), .inl (.int bs), .inl (.int fi), .inl (.int sz), .inl (.int gr), .inr o, .inr r, .inr fr, .inr hd, .inl (.int dr), .inr kp])), (o, .inl (3, [.inr q1, .inl (.int (Int32.ofNat z1))])), (q1, .inr (1, N1, zJ fo1)), (r, .inl (5, [.inr a, .inl (.int (Int32.ofNat (zcnt fa1 L)))])), (a, .inr (1, L, zJ fa1))] → zOn [v, o, q, r, a] h q1 → zSw h [(v, .inl (2, [.inl (.int nu), .inl (.int bs), .inl (.int fi), .inl (.int sz), .inl (.int gr), .inr o, .inr r, .inr fr, .inr hd, .inl (.int dr), .inr kp])), (o, .inl (3, [.inr q, .inl (.int (Int32.ofNat z))])), (q, .inr (1, N, zJ fo)), (r, .inl (5, [.inr a, .inl (.int (Int32.ofNat (zcnt fa L)))])), (a, .inr (1, L, zJ fa))] [(v, .inl (2, [.inl (.int nu), .inl (.int bs), .inl (.int fi), .inl (.int sz), .inl (.int gr), .inr o, .inr r, .inr fr, .inr hd, .inl (.int dr), .inr kp])), (o, .inl (3, [.inr q1, .inl (.int (Int32.ofNat z1))])), (q1, .inr (1, N1, zJ fo1)), (r, .inl (5, [.inr a, .inl (.int (Int32.ofNat (zcnt fa1 L)))])), (a, .inr (1, L, zJ fa1))] := by
    intro q1 N1 z1 fo1 fa1 h1 hw1 hq
    have e0 := hw1.ne 2 0 rfl rfl (by decide)
    have e1 := hw1.ne 2 1 rfl rfl (by decide)
    have e3 := hw1.ne 2 3 rfl rfl (by decide)
    have e4 := hw1.ne 2 4 rfl rfl (by decide)
    refine ⟨rfl, fun i p p1 hp hp1 => ?_⟩
    match i, hp, hp1 with
    | 0, hp, hp1 => cases hp; cases hp1; exact Or.inl rfl
    | 1, hp, hp1 => cases hp; cases hp1; exact Or.inl rfl
    | 3, hp, hp1 => cases hp; cases hp1; exact Or.inl rfl
    | 4, hp, hp1 => cases hp; cases hp1; exact Or.inl rfl
    | 2, hp, hp1 =>
      cases hp
      cases hp1
      cases hq with
      | inr hq => exact Or.inr hq
      | inl hq =>
        simp only [List.mem_cons, List.not_mem_nil, or_false] at hq
        rcases hq with hq | hq | hq | hq | hq
        · exact absurd hq e0
        · exact absurd hq e1
        · exact Or.inl hq
        · exact absurd hq e3
        · exact absurd hq e4
    | i + 5, hp, hp1 => cases hp
  exact w_tellJ hL hN hN0 hzN hz hmy hk hy hfr hmx hw (fun q1 N1 fo1 k1 c1 s1 h1 hv hf hr hq hn ho hx hb => kn q1 N1 fo1 k1 c1 s1 h1 hv hf hr (sw _ _ _ _ _ _ hv hq) hn (zApp.one ho hx) hb)
end ZSP4
