set_option maxRecDepth 100000
section ZR59
/-- a row for finding again: the numbers and sums of its windows -/
def zwA1 (sz gr sp : Nat) (e : zE) (w : Nat) (G : (Nat → Int32) × (Nat → Int32)) : (Nat → Int32) × (Nat → Int32) := if (w : Int) * (sp : Int) + (sz : Int) + (gr : Int) ≤ zeA e then G else (zAd G.1 (w * 8 + zeK e) 1, zAd G.2 (w * 8 + zeK e) (Int32.ofInt (zeV e)))
def zwAN (sz gr sp : Nat) (e : zE) : Nat → Nat → (Nat → Int32) × (Nat → Int32) → (Nat → Int32) × (Nat → Int32)
  | 0, _, G => G
  | n + 1, w, G => zwAN sz gr sp e n (w + 1) (zwA1 sz gr sp e w G)
def zwAga (sz gr sp : Nat) (e : zE) (G : (Nat → Int32) × (Nat → Int32)) : (Nat → Int32) × (Nat → Int32) := zwAN sz gr sp e (zeT e / sp + 1 - zfe sz sp (zeT e : Int)) (zfe sz sp (zeT e : Int)) G
theorem l_waga {d v sz gr sp : Nat} {fi me : Int} {dr : Int32} {Q : xR → Nat → Nat → xH → Prop} {e : zE} {la c s : Nat} (hr : zWr v fi sz gr me sp) (hE : zEr e) (hla : la < zwi sp) : ∀ (n w : Nat) (gn gs gg : Nat → Int32) (h : xH), w + n = la + 1 → zVo h 9 v false fi sz gr dr [zi me, zi (sp : Int), zi (zwi sp : Int), .inr (26, v), .inr (30, v)] → zEn h e → zTal h 30 v (zwi sp * 8) gn gs gg →
    (∀ h1 gg1, zTal h1 30 v (zwi sp * 8) (zwAN sz gr sp e n w (gn, gs)).1 (zwAN sz gr sp e n w (gn, gs)).2 gg1 → (∀ a b : Nat, ¬ (30 ≤ a ∧ a < 34 ∧ b = v) → h1 (a, b) = h (a, b)) → Q (.inl none) c s h1) → zX (d + 2) 97 18 [(0, .inr (20, v)), (1, .inr (8, zeN e)), (2, zi (la : Int)), (3, zi (w : Int))] [] c s h Q := by
  obtain ⟨hvr, hme, hs1, hs2⟩ := id hr
  obtain ⟨r1, r2, r3, r4⟩ := id hvr
  obtain ⟨e1, e2, e3, e4, e5, e6⟩ := id hE
  have hwi := zwi_le hs1
  intro n
  induction n with
  | zero =>
    intro w gn gs gg h hw hV he hT q
    have hp : (w : Int) * (sp : Int) ≤ 400000 := by
      rw [zmul_c]
      have h1 : w * sp ≤ 1001 * 200 := Nat.mul_le_mul (by omega) (by omega)
      omega
    exact r_wa1 (L := zwi sp * 8) (wi := zwi sp) hvr r1 r3 r4 ⟨hs1, by omega⟩ rfl hwi hme hE e2 e3 e4 e6 e5 (zbi_r _) (zbi_r _) (by omega) (by omega) (fun z => by omega) ⟨zmul_0 _ _, hp⟩ hV he hT (fun _ => q h gg hT (fun _ _ _ => rfl)) (fun z => by omega) (fun z => by omega)
  | succ n ih =>
    intro w gn gs gg h hw hV he hT q
    have hwz : w < zwi sp := by omega
    have hm := zwi_mul hs1 hwz
    have hm2 := zmul_c w sp
    refine r_wa1 (L := zwi sp * 8) (wi := zwi sp) hvr r1 r3 r4 ⟨hs1, by omega⟩ rfl hwi hme hE e2 e3 e4 e6 e5 (zbi_r _) (zbi_r _) (by omega) (by omega) (fun z => ⟨hwz, by omega⟩) ⟨zmul_0 _ _, by omega⟩ hV he hT (fun z => by omega) (fun _ z h1 a1 a2 => ?_) (fun _ z => ?_)
    · have hx : zwA1 sz gr sp e w (gn, gs) = (zAd gn (w * 8 + zeK e) 1, zAd gs (w * 8 + zeK e) (Int32.ofInt (zeV e))) := if_neg (Int.not_le.mpr z)
      refine ih (w + 1) _ _ _ h1 (by omega) ((a2 _ _ (by omega)).trans hV) ((a2 _ _ (by omega)).trans he) a1 (fun h2 gg2 b1 b2 => q h2 gg2 ?_ (fun a b hn => (b2 a b hn).trans (a2 a b hn)))
      show zTal h2 30 v (zwi sp * 8) (zwAN sz gr sp e n (w + 1) (zwA1 sz gr sp e w (gn, gs))).1 (zwAN sz gr sp e n (w + 1) (zwA1 sz gr sp e w (gn, gs))).2 gg2
      rw [hx]
      exact b1
    · have hx : zwA1 sz gr sp e w (gn, gs) = (gn, gs) := if_pos z
      refine ih (w + 1) gn gs gg h (by omega) hV he hT (fun h2 gg2 b1 b2 => q h2 gg2 ?_ b2)
      show zTal h2 30 v (zwi sp * 8) (zwAN sz gr sp e n (w + 1) (zwA1 sz gr sp e w (gn, gs))).1 (zwAN sz gr sp e n (w + 1) (zwA1 sz gr sp e w (gn, gs))).2 gg2
      rw [hx]
      exact b1
theorem zfe_last {sz sp t : Nat} : zfe sz sp (t : Int) ≤ t / sp + 1 := by
  unfold zfe
  split
  · exact Nat.zero_le _
  · have h1 : ((t : Int) - (sz : Int)) / (sp : Int) = (((t - sz) / sp : Nat) : Int) := by
      rw [← Int.ofNat_sub (by omega)]
      rfl
    have h2 : (t - sz) / sp ≤ t / sp := Nat.div_le_div_right (by omega)
    rw [h1, Int.toNat_natCast]
    exact Nat.succ_le_succ h2
theorem s_waga {d c s v sz gr sp : Nat} {fi me : Int} {dr : Int32} {h : xH} {Q : xR → Nat → Nat → xH → Prop} {e : zE} {gn gs gg : Nat → Int32} (hr : zWr v fi sz gr me sp) (hE : zEr e) (hV : zVo h 9 v false fi sz gr dr [zi me, zi (sp : Int), zi (zwi sp : Int), .inr (26, v), .inr (30, v)]) (he : zEn h e) (hT : zTal h 30 v (zwi sp * 8) gn gs gg)
    (q : ∀ h1 gg1, zTal h1 30 v (zwi sp * 8) (zwAga sz gr sp e (gn, gs)).1 (zwAga sz gr sp e (gn, gs)).2 gg1 → (∀ a b : Nat, ¬ (30 ≤ a ∧ a < 34 ∧ b = v) → h1 (a, b) = h (a, b)) → Q (.inl none) c s h1) : zX (d + 2) 97 0 [(0, .inr (20, v)), (1, .inr (8, zeN e))] [] c s h Q := by
  obtain ⟨hvr, hme, hs1, hs2⟩ := id hr
  obtain ⟨r1, r2, r3, r4⟩ := id hvr
  obtain ⟨e1, e2, e3, e4, e5, e6⟩ := id hE
  have hwi := zwi_le hs1
  have hla : zeT e / sp < zwi sp := by
    unfold zwi
    have : zeT e / sp ≤ 999 / sp := Nat.div_le_div_right (by omega)
    omega
  refine r_wa0 (d := d + 1) (L := zwi sp * 8) (wi := zwi sp) hvr r1 r3 r4 ⟨hs1, by omega⟩ rfl hwi hme hE e2 e3 e4 e6 e5 (zbi_r _) (zbi_r _) hV he ?_
  exact l_waga hr hE hla _ _ gn gs gg h (Nat.add_sub_of_le zfe_last) hV he hT q
set_option maxHeartbeats 4000000 in
theorem r_wf0 {d c s : Nat} {h : xH} {Q : xR → Nat → Nat → xH → Prop} {v sz gr sp cap : Nat} {fi me m : Int} {dr : Int32} {xs : List (Nat × Nat)} {gn gs gg : Nat → Int32} (hr : zWr v fi sz gr me sp) (hvr : zVr v fi sz gr) (hv : v < 5) (hsz : 1 ≤ sz ∧ sz ≤ 200) (hgr : gr ≤ 200) (hsp : 1 ≤ sp ∧ sp ≤ 200) (hme : me = 99 ∨ me = 115 ∨ me = 109) (hwi : zwi sp ≤ 1000) (hm : -1 ≤ m ∧ m < 1000) (hxl : xs.length ≤ 240) (H_20_v : h (20, v) = some (.inl (9, [zi (v : Int), zi (zbi false), zi fi, zi (sz : Int), zi (gr : Int), .inr (2, 0), .inr (21, v), .inr (23, v), .inr (25, v), .inl (.int dr), zi me, zi (sp : Int), zi (zwi sp : Int), .inr (26, v), .inr (30, v)]))) (P_again : zTal h 30 v (zwi sp * 8) gn gs gg) (P_jr : zAL h 15 0 cap xs)
    (k1 : ∀ h' : xH, zTal h' 30 v (zwi sp * 8) (fun _ => 0) (fun _ => 0) (fun _ => 0) → (∀ za zb : Nat, ¬ ((30 ≤ za ∧ za < 30 + 4 ∧ zb = v)) → h' (za, zb) = h (za, zb)) → zX (d + 2) 96 9 [(0, .inr (20, v)), (1, .inr (15, 0)), (2, zi m), (3, zi 0)] [] c s h' Q) :
    zX (d + 2) 96 0 [(0, .inr (20, v)), (1, .inr (15, 0)), (2, zi m)] [] c s h Q := by
  refine zX.sn 1 (pc2 := 1) (l2 := [(0, .inr (20, v)), (1, .inr (15, 0)), (2, zi m)]) (st2 := [.inr (20, v)]) rfl ?_
  refine zX.getf ⟨rfl, rfl⟩ H_20_v rfl rfl ?_
  refine zX.call (mid2 := 57) (as := [.inr (30, v)]) (rest := []) ⟨rfl, rfl⟩ (fun _ => rfl) (zX.inv rfl (P_again.1) rfl rfl) ⟨Nat.le_of_ble_eq_true rfl, Nat.le_of_ble_eq_true rfl⟩ ?_
  refine s_tclrA (by omega) (by omega) P_again (fun h1 hv1 hF1 => ?_)
  show zX _ 96 7 [(0, .inr (20, v)), (1, .inr (15, 0)), (2, zi m)] [] c s _ _
  refine zX.sn 1 (pc2 := 8) (l2 := [(0, .inr (20, v)), (1, .inr (15, 0)), (2, zi m)]) (st2 := [zi 0]) rfl ?_
  refine zX.sn 1 (pc2 := 9) (l2 := [(3, zi 0), (0, .inr (20, v)), (1, .inr (15, 0)), (2, zi m)]) (st2 := []) rfl ?_
  refine zX.re [(0, .inr (20, v)), (1, .inr (15, 0)), (2, zi m), (3, zi 0)] [1, 2, 3, 0] [3, 0, 1, 2] rfl rfl (by decide) ?_
  exact k1 _ hv1 (fun za zb hn => ((hF1 za zb (by omega)).trans rfl))

set_option maxHeartbeats 4000000 in
theorem r_wf1e {d c s : Nat} {h : xH} {Q : xR → Nat → Nat → xH → Prop} {v sz gr sp cap : Nat} {fi me m : Int} {dr : Int32} {xs : List (Nat × Nat)} {gn gs gg : Nat → Int32} {j : Nat} (hr : zWr v fi sz gr me sp) (hvr : zVr v fi sz gr) (hv : v < 5) (hsz : 1 ≤ sz ∧ sz ≤ 200) (hgr : gr ≤ 200) (hsp : 1 ≤ sp ∧ sp ≤ 200) (hme : me = 99 ∨ me = 115 ∨ me = 109) (hwi : zwi sp ≤ 1000) (hm : -1 ≤ m ∧ m < 1000) (hxl : xs.length ≤ 240) (hj : j = xs.length) (H_20_v : h (20, v) = some (.inl (9, [zi (v : Int), zi (zbi false), zi fi, zi (sz : Int), zi (gr : Int), .inr (2, 0), .inr (21, v), .inr (23, v), .inr (25, v), .inl (.int dr), zi me, zi (sp : Int), zi (zwi sp : Int), .inr (26, v), .inr (30, v)]))) (P_jr : zAL h 15 0 cap xs)
    (k1 : zX (d + 1) 96 50 [(0, .inr (20, v)), (2, zi m), (3, zi 0)] [] c s h Q) :
    zX (d + 1) 96 9 [(0, .inr (20, v)), (1, .inr (15, 0)), (2, zi m), (3, zi (j : Int))] [] c s h Q := by
  refine zX.sn 1 (pc2 := 10) (l2 := [(0, .inr (20, v)), (1, .inr (15, 0)), (2, zi m), (3, zi (j : Int))]) (st2 := [zi (j : Int)]) rfl ?_
  refine zX.sn 1 (pc2 := 11) (l2 := [(0, .inr (20, v)), (1, .inr (15, 0)), (2, zi m), (3, zi (j : Int))]) (st2 := [.inr (15, 0), zi (j : Int)]) rfl ?_
  refine zX.call (mid2 := 150) (as := [.inr (15, 0)]) (rest := [zi (j : Int)]) ⟨rfl, rfl⟩ (fun _ => rfl) (zX.invA rfl P_jr rfl rfl) ⟨Nat.le_of_ble_eq_true rfl, Nat.le_of_ble_eq_true rfl⟩ ?_
  refine s_size P_jr ?_
  show zX _ 96 14 [(0, .inr (20, v)), (1, .inr (15, 0)), (2, zi m), (3, zi (j : Int))] [zi (xs.length : Int), zi (j : Int)] c s _ _
  refine zX.icmp (tgt := 48) ⟨rfl, rfl⟩ rfl (by omega) (by omega) (fun (e1 : (xs.length : Int) ≤ (j : Int)) => ?_) (fun (zz : (j : Int) < (xs.length : Int)) => absurd zz (by omega))
  refine zX.sn 1 (pc2 := 49) (l2 := [(0, .inr (20, v)), (1, .inr (15, 0)), (2, zi m), (3, zi (j : Int))]) (st2 := [zi 0]) rfl ?_
  refine zX.sn 1 (pc2 := 50) (l2 := [(3, zi 0), (0, .inr (20, v)), (1, .inr (15, 0)), (2, zi m)]) (st2 := []) rfl ?_
  refine zX.re [(0, .inr (20, v)), (2, zi m), (3, zi 0)] [1, 3, 0] [3, 0, 1, 2] rfl rfl (by decide) ?_
  exact k1

set_option maxHeartbeats 4000000 in
theorem r_wf1 {d c s : Nat} {h : xH} {Q : xR → Nat → Nat → xH → Prop} {v sz gr sp cap : Nat} {fi me m : Int} {dr : Int32} {xs : List (Nat × Nat)} {gn gs gg : Nat → Int32} {e : zE} {j : Nat} (hr : zWr v fi sz gr me sp) (hvr : zVr v fi sz gr) (hv : v < 5) (hsz : 1 ≤ sz ∧ sz ≤ 200) (hgr : gr ≤ 200) (hsp : 1 ≤ sp ∧ sp ≤ 200) (hme : me = 99 ∨ me = 115 ∨ me = 109) (hwi : zwi sp ≤ 1000) (hm : -1 ≤ m ∧ m < 1000) (hxl : xs.length ≤ 240) (hEe : zEr e) (hkye : zeK e < 8) (htme : zeT e < 1000) (hvae : -99 ≤ zeV e ∧ zeV e ≤ 99) (hahe : -1 ≤ zeA e ∧ zeA e < 1000) (hode : zeO e < 240) (hire : 0 ≤ zbi (zeR e) ∧ zbi (zeR e) ≤ 1) (hile : 0 ≤ zbi (zeL e) ∧ zbi (zeL e) ≤ 1) (hj : j < xs.length) (hx : xs[j]? = some (8, zeN e)) (H_20_v : h (20, v) = some (.inl (9, [zi (v : Int), zi (zbi false), zi fi, zi (sz : Int), zi (gr : Int), .inr (2, 0), .inr (21, v), .inr (23, v), .inr (25, v), .inl (.int dr), zi me, zi (sp : Int), zi (zwi sp : Int), .inr (26, v), .inr (30, v)]))) (H_8_zeN_e : h (8, zeN e) = some (.inl (1, [zi (zeP e : Int), zi (zbi (zeR e)), zi (zbi (zeL e)), zi (zeK e : Int), zi (zeT e : Int), zi (zeV e), zi (zeO e : Int), zi (zeA e), zi (zeB e)]))) (P_again : zTal h 30 v (zwi sp * 8) gn gs gg) (P_jr : zAL h 15 0 cap xs)
    (k1 : (zLet false fi e = false) → zX (d + 3) 96 9 [(0, .inr (20, v)), (1, .inr (15, 0)), (2, zi m), (3, zi ((j : Int) + 1))] [] c s h Q)
    (k2 : (zLet false fi e = true) → ∀ gg3 : Nat → Int32, ∀ h' : xH, zTal h' 30 v (zwi sp * 8) ((zwAga sz gr sp e (gn, gs)).1) ((zwAga sz gr sp e (gn, gs)).2) (gg3) → (∀ za zb : Nat, ¬ ((30 ≤ za ∧ za < 30 + 4 ∧ zb = v)) → h' (za, zb) = h (za, zb)) → zX (d + 3) 96 9 [(0, .inr (20, v)), (1, .inr (15, 0)), (2, zi m), (3, zi ((j : Int) + 1))] [] c s h' Q) :
    zX (d + 3) 96 9 [(0, .inr (20, v)), (1, .inr (15, 0)), (2, zi m), (3, zi (j : Int))] [] c s h Q := by
  refine zX.sn 1 (pc2 := 10) (l2 := [(0, .inr (20, v)), (1, .inr (15, 0)), (2, zi m), (3, zi (j : Int))]) (st2 := [zi (j : Int)]) rfl ?_
  refine zX.sn 1 (pc2 := 11) (l2 := [(0, .inr (20, v)), (1, .inr (15, 0)), (2, zi m), (3, zi (j : Int))]) (st2 := [.inr (15, 0), zi (j : Int)]) rfl ?_
  refine zX.call (mid2 := 150) (as := [.inr (15, 0)]) (rest := [zi (j : Int)]) ⟨rfl, rfl⟩ (fun _ => rfl) (zX.invA rfl P_jr rfl rfl) ⟨Nat.le_of_ble_eq_true rfl, Nat.le_of_ble_eq_true rfl⟩ ?_
  refine s_size P_jr ?_
  show zX _ 96 14 [(0, .inr (20, v)), (1, .inr (15, 0)), (2, zi m), (3, zi (j : Int))] [zi (xs.length : Int), zi (j : Int)] c s _ _
  refine zX.icmp (tgt := 48) ⟨rfl, rfl⟩ rfl (by omega) (by omega) (fun (zz : (xs.length : Int) ≤ (j : Int)) => absurd zz (by omega)) (fun (e1 : (j : Int) < (xs.length : Int)) => ?_)
  refine zX.sn 1 (pc2 := 18) (l2 := [(0, .inr (20, v)), (1, .inr (15, 0)), (2, zi m), (3, zi (j : Int))]) (st2 := [.inr (15, 0)]) rfl ?_
  refine zX.sn 1 (pc2 := 19) (l2 := [(0, .inr (20, v)), (1, .inr (15, 0)), (2, zi m), (3, zi (j : Int))]) (st2 := [zi (j : Int), .inr (15, 0)]) rfl ?_
  refine zX.call (mid2 := 153) (as := [.inr (15, 0), zi (j : Int)]) (rest := []) ⟨rfl, rfl⟩ (fun _ => rfl) (zX.invA rfl P_jr rfl rfl) ⟨Nat.le_of_ble_eq_true rfl, Nat.le_of_ble_eq_true rfl⟩ ?_
  refine s_get (j := j) (x := (8, zeN e)) rfl (by omega) P_jr hx ?_
  show zX _ 96 22 [(0, .inr (20, v)), (1, .inr (15, 0)), (2, zi m), (3, zi (j : Int))] [.inr (8, zeN e)] c s _ _
  refine zX.cast ⟨rfl, rfl⟩ H_8_zeN_e rfl ?_
  refine zX.sn 1 (pc2 := 27) (l2 := [(4, .inr (8, zeN e)), (0, .inr (20, v)), (1, .inr (15, 0)), (2, zi m), (3, zi (j : Int))]) (st2 := []) rfl ?_
  refine zX.sn 1 (pc2 := 28) (l2 := [(4, .inr (8, zeN e)), (0, .inr (20, v)), (1, .inr (15, 0)), (2, zi m), (3, zi (j : Int))]) (st2 := [.inr (20, v)]) rfl ?_
  refine zX.sn 1 (pc2 := 30) (l2 := [(4, .inr (8, zeN e)), (0, .inr (20, v)), (1, .inr (15, 0)), (2, zi m), (3, zi (j : Int))]) (st2 := [.inr (8, zeN e), .inr (20, v)]) rfl ?_
  refine zX.call (mid2 := 75) (as := [.inr (20, v), .inr (8, zeN e)]) (rest := []) ⟨rfl, rfl⟩ (fun _ => rfl) (zX.inv rfl H_20_v rfl rfl) ⟨Nat.le_of_ble_eq_true rfl, Nat.le_of_ble_eq_true rfl⟩ ?_
  refine s_lets (ci := 9) (bs := false) hvr (by omega) hEe (show zVo _ 9 v false fi sz gr _ _ from H_20_v) (show zEn _ e from H_8_zeN_e)  (fun (e2 : zLet false fi e = false) => ?_) (fun (e2 : zLet false fi e = true) => ?_)
  · show zX _ 96 33 [(4, .inr (8, zeN e)), (0, .inr (20, v)), (1, .inr (15, 0)), (2, zi m), (3, zi (j : Int))] [zi 0] c s _ _
    refine zX.icmp0 (tgt := 42) ⟨rfl, rfl⟩ rfl (by omega) (fun (e3 : 0 = 0) => ?_) (fun (zz : ¬ 0 = 0) => absurd zz (by omega))
    refine zX.s1 (pc2 := 45) (l2 := [(3, zi ((j : Int) + 1)), (4, .inr (8, zeN e)), (0, .inr (20, v)), (1, .inr (15, 0)), (2, zi m)]) (st2 := []) ⟨rfl, rfl⟩ (by rw [show (zi ((j : Int) + 1) : xV) = .inl (.int (Int32.ofInt (j : Int) + 1)) from congrArg (fun z => (.inl (.int z) : xV)) (Int32.ofInt_add _ _)]; rfl) ?_
    refine zX.sn 1 (pc2 := 9) (l2 := [(3, zi ((j : Int) + 1)), (4, .inr (8, zeN e)), (0, .inr (20, v)), (1, .inr (15, 0)), (2, zi m)]) (st2 := []) rfl ?_
    refine zX.re [(0, .inr (20, v)), (1, .inr (15, 0)), (2, zi m), (3, zi ((j : Int) + 1))] [2, 3, 4, 0] [3, 4, 0, 1, 2] rfl rfl (by decide) ?_
    exact k1 e2
  · show zX _ 96 33 [(4, .inr (8, zeN e)), (0, .inr (20, v)), (1, .inr (15, 0)), (2, zi m), (3, zi (j : Int))] [zi 1] c s _ _
    refine zX.icmp0 (tgt := 42) ⟨rfl, rfl⟩ rfl (by omega) (fun (zz : 1 = 0) => absurd zz (by omega)) (fun (e4 : ¬ 1 = 0) => ?_)
    refine zX.sn 1 (pc2 := 37) (l2 := [(4, .inr (8, zeN e)), (0, .inr (20, v)), (1, .inr (15, 0)), (2, zi m), (3, zi (j : Int))]) (st2 := [.inr (20, v)]) rfl ?_
    refine zX.sn 1 (pc2 := 39) (l2 := [(4, .inr (8, zeN e)), (0, .inr (20, v)), (1, .inr (15, 0)), (2, zi m), (3, zi (j : Int))]) (st2 := [.inr (8, zeN e), .inr (20, v)]) rfl ?_
    refine zX.call (mid2 := 97) (as := [.inr (20, v), .inr (8, zeN e)]) (rest := []) ⟨rfl, rfl⟩ (fun _ => rfl) (zX.inv rfl H_20_v rfl rfl) ⟨Nat.le_of_ble_eq_true rfl, Nat.le_of_ble_eq_true rfl⟩ ?_
    refine s_waga hr hEe (show zVo _ 9 v false fi sz gr _ _ from H_20_v) (show zEn _ e from H_8_zeN_e) P_again  (fun h3 gg3 hv3 hF3 => ?_)
    show zX _ 96 42 [(4, .inr (8, zeN e)), (0, .inr (20, v)), (1, .inr (15, 0)), (2, zi m), (3, zi (j : Int))] [] c s _ _
    refine zX.s1 (pc2 := 45) (l2 := [(3, zi ((j : Int) + 1)), (4, .inr (8, zeN e)), (0, .inr (20, v)), (1, .inr (15, 0)), (2, zi m)]) (st2 := []) ⟨rfl, rfl⟩ (by rw [show (zi ((j : Int) + 1) : xV) = .inl (.int (Int32.ofInt (j : Int) + 1)) from congrArg (fun z => (.inl (.int z) : xV)) (Int32.ofInt_add _ _)]; rfl) ?_
    refine zX.sn 1 (pc2 := 9) (l2 := [(3, zi ((j : Int) + 1)), (4, .inr (8, zeN e)), (0, .inr (20, v)), (1, .inr (15, 0)), (2, zi m)]) (st2 := []) rfl ?_
    refine zX.re [(0, .inr (20, v)), (1, .inr (15, 0)), (2, zi m), (3, zi ((j : Int) + 1))] [2, 3, 4, 0] [3, 4, 0, 1, 2] rfl rfl (by decide) ?_
    exact k2 e2 gg3 _ hv3 (fun za zb hn => ((hF3 za zb (by omega)).trans rfl))

set_option maxHeartbeats 4000000 in
theorem r_wf2 {d c s : Nat} {h : xH} {Q : xR → Nat → Nat → xH → Prop} {v sz gr sp cap : Nat} {fi me m : Int} {dr : Int32} {xs : List (Nat × Nat)} {gn gs gg : Nat → Int32} {w : Nat} (hr : zWr v fi sz gr me sp) (hvr : zVr v fi sz gr) (hv : v < 5) (hsz : 1 ≤ sz ∧ sz ≤ 200) (hgr : gr ≤ 200) (hsp : 1 ≤ sp ∧ sp ≤ 200) (hme : me = 99 ∨ me = 115 ∨ me = 109) (hwi : zwi sp ≤ 1000) (hm : -1 ≤ m ∧ m < 1000) (hw : w ≤ 2000) (hp : (w : Int) * (sp : Int) ≤ 400000) (hp0 : 0 ≤ (w : Int) * (sp : Int)) (H_20_v : h (20, v) = some (.inl (9, [zi (v : Int), zi (zbi false), zi fi, zi (sz : Int), zi (gr : Int), .inr (2, 0), .inr (21, v), .inr (23, v), .inr (25, v), .inl (.int dr), zi me, zi (sp : Int), zi (zwi sp : Int), .inr (26, v), .inr (30, v)])))
    (k1 : ((zwi sp : Int) ≤ (w : Int)) → Q (.inl none) c s h)
    (k2 : ((w : Int) < (zwi sp : Int)) → (m < (((w : Int) * (sp : Int)) + (sz : Int))) → Q (.inl none) c s h)
    (k3 : ((w : Int) < (zwi sp : Int)) → ((((w : Int) * (sp : Int)) + (sz : Int)) ≤ m) → zX (d + 1) 96 70 [(0, .inr (20, v)), (2, zi m), (3, zi (w : Int)), (4, zi 0)] [] c s h Q) :
    zX (d + 1) 96 50 [(0, .inr (20, v)), (2, zi m), (3, zi (w : Int))] [] c s h Q := by
  refine zX.sn 1 (pc2 := 51) (l2 := [(0, .inr (20, v)), (2, zi m), (3, zi (w : Int))]) (st2 := [zi (w : Int)]) rfl ?_
  refine zX.sn 1 (pc2 := 52) (l2 := [(0, .inr (20, v)), (2, zi m), (3, zi (w : Int))]) (st2 := [.inr (20, v), zi (w : Int)]) rfl ?_
  refine zX.getf ⟨rfl, rfl⟩ H_20_v rfl rfl ?_
  refine zX.icmp (tgt := 130) ⟨rfl, rfl⟩ rfl (by omega) (by omega) (fun (e1 : (zwi sp : Int) ≤ (w : Int)) => ?_) (fun (e1 : (w : Int) < (zwi sp : Int)) => ?_)
  · refine zX.ret rfl rfl ?_
    exact k1 e1
  · refine zX.sn 1 (pc2 := 59) (l2 := [(0, .inr (20, v)), (2, zi m), (3, zi (w : Int))]) (st2 := [.inr (20, v)]) rfl ?_
    refine zX.sn 1 (pc2 := 60) (l2 := [(0, .inr (20, v)), (2, zi m), (3, zi (w : Int))]) (st2 := [zi (w : Int), .inr (20, v)]) rfl ?_
    refine zX.call (mid2 := 87) (as := [.inr (20, v), zi (w : Int)]) (rest := []) ⟨rfl, rfl⟩ (fun _ => rfl) (zX.inv rfl H_20_v rfl rfl) ⟨Nat.le_of_ble_eq_true rfl, Nat.le_of_ble_eq_true rfl⟩ ?_
    show zX _ 87 0 [(0, .inr (20, v)), (1, zi (w : Int))] [] c s _ _
    refine zX.sn 1 (pc2 := 1) (l2 := [(0, .inr (20, v)), (1, zi (w : Int))]) (st2 := [zi (w : Int)]) rfl ?_
    refine zX.sn 1 (pc2 := 2) (l2 := [(0, .inr (20, v)), (1, zi (w : Int))]) (st2 := [.inr (20, v), zi (w : Int)]) rfl ?_
    refine zX.getf ⟨rfl, rfl⟩ H_20_v rfl rfl ?_
    refine zX.imul ⟨rfl, rfl⟩ ?_
    refine zX.sn 1 (pc2 := 7) (l2 := [(0, .inr (20, v)), (1, zi (w : Int))]) (st2 := [.inr (20, v), zi ((w : Int) * (sp : Int))]) rfl ?_
    refine zX.getf ⟨rfl, rfl⟩ H_20_v rfl rfl ?_
    refine zX.iadd ⟨rfl, rfl⟩ ?_
    refine zX.ret rfl rfl ?_
    show zX _ 96 63 [(0, .inr (20, v)), (2, zi m), (3, zi (w : Int))] [zi (((w : Int) * (sp : Int)) + (sz : Int))] c s _ _
    refine zX.sn 1 (pc2 := 64) (l2 := [(0, .inr (20, v)), (2, zi m), (3, zi (w : Int))]) (st2 := [zi m, zi (((w : Int) * (sp : Int)) + (sz : Int))]) rfl ?_
    refine zX.icmp (tgt := 130) ⟨rfl, rfl⟩ rfl (by omega) (by omega) (fun (e2 : m < (((w : Int) * (sp : Int)) + (sz : Int))) => ?_) (fun (e2 : (((w : Int) * (sp : Int)) + (sz : Int)) ≤ m) => ?_)
    · refine zX.ret rfl rfl ?_
      exact k2 e1 e2
    · refine zX.sn 1 (pc2 := 68) (l2 := [(0, .inr (20, v)), (2, zi m), (3, zi (w : Int))]) (st2 := [zi 0]) rfl ?_
      refine zX.sn 1 (pc2 := 70) (l2 := [(4, zi 0), (0, .inr (20, v)), (2, zi m), (3, zi (w : Int))]) (st2 := []) rfl ?_
      refine zX.re [(0, .inr (20, v)), (2, zi m), (3, zi (w : Int)), (4, zi 0)] [1, 2, 3, 0] [4, 0, 2, 3] rfl rfl (by decide) ?_
      exact k3 e1 e2

set_option maxHeartbeats 4000000 in
theorem r_wf3 {d c s : Nat} {h : xH} {Q : xR → Nat → Nat → xH → Prop} {v sz gr sp cap : Nat} {fi me m : Int} {dr : Int32} {xs : List (Nat × Nat)} {gn gs gg : Nat → Int32} {w k : Nat} {fb : Nat → Int64} (hr : zWr v fi sz gr me sp) (hvr : zVr v fi sz gr) (hv : v < 5) (hsz : 1 ≤ sz ∧ sz ≤ 200) (hgr : gr ≤ 200) (hsp : 1 ≤ sp ∧ sp ≤ 200) (hme : me = 99 ∨ me = 115 ∨ me = 109) (hwi : zwi sp ≤ 1000) (hm : -1 ≤ m ∧ m < 1000) (hw : w ≤ 2000) (hp : (w : Int) * (sp : Int) ≤ 1000) (hp0 : 0 ≤ (w : Int) * (sp : Int)) (hk : k ≤ 8) (hwz : w < zwi sp) (H_20_v : h (20, v) = some (.inl (9, [zi (v : Int), zi (zbi false), zi fi, zi (sz : Int), zi (gr : Int), .inr (2, 0), .inr (21, v), .inr (23, v), .inr (25, v), .inl (.int dr), zi me, zi (sp : Int), zi (zwi sp : Int), .inr (26, v), .inr (30, v)]))) (P_again : zTal h 30 v (zwi sp * 8) gn gs gg) (P_found : zRes h 23 v (zwi sp * 8) fb)
    (k1 : (8 ≤ (k : Int)) → zX (d + 3) 96 50 [(0, .inr (20, v)), (2, zi m), (3, zi ((w : Int) + 1))] [] c s h Q)
    (k2 : ((k : Int) < 8) → (¬ 0 < gn ((w * 8) + k)) → zX (d + 3) 96 70 [(0, .inr (20, v)), (2, zi m), (3, zi (w : Int)), (4, zi ((k : Int) + 1))] [] c s h Q)
    (k3 : ((k : Int) < 8) → (0 < gn ((w * 8) + k)) → ∀ h' : xH, zRes h' 23 v (zwi sp * 8) (zfi fb ((w * 8) + k) (zro (v : Int) (k : Int) ((w : Int) * (sp : Int)) (((w : Int) * (sp : Int)) + (sz : Int)) (zme me (gn ((w * 8) + k)) (gs ((w * 8) + k))))) → (∀ za zb : Nat, ¬ ((23 ≤ za ∧ za < 23 + 2 ∧ zb = v)) → h' (za, zb) = h (za, zb)) → zX (d + 3) 96 70 [(0, .inr (20, v)), (2, zi m), (3, zi (w : Int)), (4, zi ((k : Int) + 1))] [] c s h' Q) :
    zX (d + 3) 96 70 [(0, .inr (20, v)), (2, zi m), (3, zi (w : Int)), (4, zi (k : Int))] [] c s h Q := by
  refine zX.sn 1 (pc2 := 72) (l2 := [(0, .inr (20, v)), (2, zi m), (3, zi (w : Int)), (4, zi (k : Int))]) (st2 := [zi (k : Int)]) rfl ?_
  refine zX.sn 1 (pc2 := 74) (l2 := [(0, .inr (20, v)), (2, zi m), (3, zi (w : Int)), (4, zi (k : Int))]) (st2 := [zi 8, zi (k : Int)]) rfl ?_
  refine zX.icmp (tgt := 124) ⟨rfl, rfl⟩ rfl (by omega) (by omega) (fun (e1 : 8 ≤ (k : Int)) => ?_) (fun (e1 : (k : Int) < 8) => ?_)
  · refine zX.s1 (pc2 := 127) (l2 := [(3, zi ((w : Int) + 1)), (0, .inr (20, v)), (2, zi m), (4, zi (k : Int))]) (st2 := []) ⟨rfl, rfl⟩ (by rw [show (zi ((w : Int) + 1) : xV) = .inl (.int (Int32.ofInt (w : Int) + 1)) from congrArg (fun z => (.inl (.int z) : xV)) (Int32.ofInt_add _ _)]; rfl) ?_
    refine zX.sn 1 (pc2 := 50) (l2 := [(3, zi ((w : Int) + 1)), (0, .inr (20, v)), (2, zi m), (4, zi (k : Int))]) (st2 := []) rfl ?_
    refine zX.re [(0, .inr (20, v)), (2, zi m), (3, zi ((w : Int) + 1))] [1, 2, 0] [3, 0, 2, 4] rfl rfl (by decide) ?_
    exact k1 e1
  · refine zX.sn 1 (pc2 := 78) (l2 := [(0, .inr (20, v)), (2, zi m), (3, zi (w : Int)), (4, zi (k : Int))]) (st2 := [zi (w : Int)]) rfl ?_
    refine zX.sn 1 (pc2 := 80) (l2 := [(0, .inr (20, v)), (2, zi m), (3, zi (w : Int)), (4, zi (k : Int))]) (st2 := [zi 8, zi (w : Int)]) rfl ?_
    refine zX.imul ⟨rfl, rfl⟩ ?_
    refine zX.sn 1 (pc2 := 83) (l2 := [(0, .inr (20, v)), (2, zi m), (3, zi (w : Int)), (4, zi (k : Int))]) (st2 := [zi (k : Int), zi ((w : Int) * 8)]) rfl ?_
    refine zX.iadd ⟨rfl, rfl⟩ ?_
    refine zX.sn 1 (pc2 := 86) (l2 := [(5, zi (((w : Int) * 8) + (k : Int))), (0, .inr (20, v)), (2, zi m), (3, zi (w : Int)), (4, zi (k : Int))]) (st2 := []) rfl ?_
    refine zX.sn 1 (pc2 := 87) (l2 := [(5, zi (((w : Int) * 8) + (k : Int))), (0, .inr (20, v)), (2, zi m), (3, zi (w : Int)), (4, zi (k : Int))]) (st2 := [.inr (20, v)]) rfl ?_
    refine zX.getf ⟨rfl, rfl⟩ H_20_v rfl rfl ?_
    refine zX.sn 1 (pc2 := 92) (l2 := [(5, zi (((w : Int) * 8) + (k : Int))), (0, .inr (20, v)), (2, zi m), (3, zi (w : Int)), (4, zi (k : Int))]) (st2 := [zi (((w : Int) * 8) + (k : Int)), .inr (30, v)]) rfl ?_
    refine zX.call (mid2 := 53) (as := [.inr (30, v), zi (((w : Int) * 8) + (k : Int))]) (rest := []) ⟨rfl, rfl⟩ (fun _ => rfl) (zX.inv rfl (P_again.1) rfl rfl) ⟨Nat.le_of_ble_eq_true rfl, Nat.le_of_ble_eq_true rfl⟩ ?_
    refine s_has (k := ((w * 8) + k)) (by omega) (by omega) (by omega) (by omega) P_again (fun (e2 : ¬ 0 < gn ((w * 8) + k)) => ?_) (fun (e2 : 0 < gn ((w * 8) + k)) => ?_)
    · show zX _ 96 95 [(5, zi (((w : Int) * 8) + (k : Int))), (0, .inr (20, v)), (2, zi m), (3, zi (w : Int)), (4, zi (k : Int))] [zi 0] c s _ _
      refine zX.icmp0 (tgt := 118) ⟨rfl, rfl⟩ rfl (by omega) (fun (e3 : 0 = 0) => ?_) (fun (zz : ¬ 0 = 0) => absurd zz (by omega))
      refine zX.s1 (pc2 := 121) (l2 := [(4, zi ((k : Int) + 1)), (5, zi (((w : Int) * 8) + (k : Int))), (0, .inr (20, v)), (2, zi m), (3, zi (w : Int))]) (st2 := []) ⟨rfl, rfl⟩ (by rw [show (zi ((k : Int) + 1) : xV) = .inl (.int (Int32.ofInt (k : Int) + 1)) from congrArg (fun z => (.inl (.int z) : xV)) (Int32.ofInt_add _ _)]; rfl) ?_
      refine zX.sn 1 (pc2 := 70) (l2 := [(4, zi ((k : Int) + 1)), (5, zi (((w : Int) * 8) + (k : Int))), (0, .inr (20, v)), (2, zi m), (3, zi (w : Int))]) (st2 := []) rfl ?_
      refine zX.re [(0, .inr (20, v)), (2, zi m), (3, zi (w : Int)), (4, zi ((k : Int) + 1))] [2, 3, 4, 0] [4, 5, 0, 2, 3] rfl rfl (by decide) ?_
      exact k2 e1 e2
    · show zX _ 96 95 [(5, zi (((w : Int) * 8) + (k : Int))), (0, .inr (20, v)), (2, zi m), (3, zi (w : Int)), (4, zi (k : Int))] [zi 1] c s _ _
      refine zX.icmp0 (tgt := 118) ⟨rfl, rfl⟩ rfl (by omega) (fun (zz : 1 = 0) => absurd zz (by omega)) (fun (e4 : ¬ 1 = 0) => ?_)
      refine zX.sn 1 (pc2 := 99) (l2 := [(5, zi (((w : Int) * 8) + (k : Int))), (0, .inr (20, v)), (2, zi m), (3, zi (w : Int)), (4, zi (k : Int))]) (st2 := [.inr (20, v)]) rfl ?_
      refine zX.getf ⟨rfl, rfl⟩ H_20_v rfl rfl ?_
      refine zX.sn 1 (pc2 := 104) (l2 := [(5, zi (((w : Int) * 8) + (k : Int))), (0, .inr (20, v)), (2, zi m), (3, zi (w : Int)), (4, zi (k : Int))]) (st2 := [zi (((w : Int) * 8) + (k : Int)), .inr (23, v)]) rfl ?_
      refine zX.sn 1 (pc2 := 105) (l2 := [(5, zi (((w : Int) * 8) + (k : Int))), (0, .inr (20, v)), (2, zi m), (3, zi (w : Int)), (4, zi (k : Int))]) (st2 := [.inr (20, v), zi (((w : Int) * 8) + (k : Int)), .inr (23, v)]) rfl ?_
      refine zX.sn 1 (pc2 := 106) (l2 := [(5, zi (((w : Int) * 8) + (k : Int))), (0, .inr (20, v)), (2, zi m), (3, zi (w : Int)), (4, zi (k : Int))]) (st2 := [zi (w : Int), .inr (20, v), zi (((w : Int) * 8) + (k : Int)), .inr (23, v)]) rfl ?_
      refine zX.sn 1 (pc2 := 108) (l2 := [(5, zi (((w : Int) * 8) + (k : Int))), (0, .inr (20, v)), (2, zi m), (3, zi (w : Int)), (4, zi (k : Int))]) (st2 := [zi (k : Int), zi (w : Int), .inr (20, v), zi (((w : Int) * 8) + (k : Int)), .inr (23, v)]) rfl ?_
      refine zX.sn 1 (pc2 := 109) (l2 := [(5, zi (((w : Int) * 8) + (k : Int))), (0, .inr (20, v)), (2, zi m), (3, zi (w : Int)), (4, zi (k : Int))]) (st2 := [.inr (20, v), zi (k : Int), zi (w : Int), .inr (20, v), zi (((w : Int) * 8) + (k : Int)), .inr (23, v)]) rfl ?_
      refine zX.getf ⟨rfl, rfl⟩ H_20_v rfl rfl ?_
      refine zX.call (mid2 := 91) (as := [.inr (20, v), zi (w : Int), zi (k : Int), .inr (30, v)]) (rest := [zi (((w : Int) * 8) + (k : Int)), .inr (23, v)]) ⟨rfl, rfl⟩ (fun _ => rfl) (zX.inv rfl H_20_v rfl rfl) ⟨Nat.le_of_ble_eq_true rfl, Nat.le_of_ble_eq_true rfl⟩ ?_
      show zX _ 91 0 [(0, .inr (20, v)), (1, zi (w : Int)), (2, zi (k : Int)), (3, .inr (30, v))] [] c s _ _
      refine zX.sn 1 (pc2 := 1) (l2 := [(0, .inr (20, v)), (1, zi (w : Int)), (2, zi (k : Int)), (3, .inr (30, v))]) (st2 := [.inr (30, v)]) rfl ?_
      refine zX.sn 1 (pc2 := 2) (l2 := [(0, .inr (20, v)), (1, zi (w : Int)), (2, zi (k : Int)), (3, .inr (30, v))]) (st2 := [zi (w : Int), .inr (30, v)]) rfl ?_
      refine zX.sn 1 (pc2 := 4) (l2 := [(0, .inr (20, v)), (1, zi (w : Int)), (2, zi (k : Int)), (3, .inr (30, v))]) (st2 := [zi 8, zi (w : Int), .inr (30, v)]) rfl ?_
      refine zX.imul ⟨rfl, rfl⟩ ?_
      refine zX.sn 1 (pc2 := 6) (l2 := [(0, .inr (20, v)), (1, zi (w : Int)), (2, zi (k : Int)), (3, .inr (30, v))]) (st2 := [zi (k : Int), zi ((w : Int) * 8), .inr (30, v)]) rfl ?_
      refine zX.iadd ⟨rfl, rfl⟩ ?_
      refine zX.sn 1 (pc2 := 8) (l2 := [(0, .inr (20, v)), (1, zi (w : Int)), (2, zi (k : Int)), (3, .inr (30, v))]) (st2 := [.inr (20, v), zi (((w : Int) * 8) + (k : Int)), .inr (30, v)]) rfl ?_
      refine zX.getf ⟨rfl, rfl⟩ H_20_v rfl rfl ?_
      refine zX.call (mid2 := 58) (as := [.inr (30, v), zi (((w : Int) * 8) + (k : Int)), zi me]) (rest := []) ⟨rfl, rfl⟩ (fun _ => rfl) (zX.inv rfl (P_again.1) rfl rfl) ⟨Nat.le_of_ble_eq_true rfl, Nat.le_of_ble_eq_true rfl⟩ ?_
      refine s_meas (k := ((w * 8) + k)) (by omega) (by omega) (by omega) (by omega) hme P_again ?_
      show zX _ 91 14 [(0, .inr (20, v)), (1, zi (w : Int)), (2, zi (k : Int)), (3, .inr (30, v))] [.inl (.int (zme me (gn ((w * 8) + k)) (gs ((w * 8) + k))))] c s _ _
      refine zX.sn 1 (pc2 := 16) (l2 := [(4, .inl (.int (zme me (gn ((w * 8) + k)) (gs ((w * 8) + k))))), (0, .inr (20, v)), (1, zi (w : Int)), (2, zi (k : Int)), (3, .inr (30, v))]) (st2 := []) rfl ?_
      refine zX.sn 1 (pc2 := 17) (l2 := [(4, .inl (.int (zme me (gn ((w * 8) + k)) (gs ((w * 8) + k))))), (0, .inr (20, v)), (1, zi (w : Int)), (2, zi (k : Int)), (3, .inr (30, v))]) (st2 := [.inr (20, v)]) rfl ?_
      refine zX.getf ⟨rfl, rfl⟩ H_20_v rfl rfl ?_
      refine zX.sn 1 (pc2 := 21) (l2 := [(4, .inl (.int (zme me (gn ((w * 8) + k)) (gs ((w * 8) + k))))), (0, .inr (20, v)), (1, zi (w : Int)), (2, zi (k : Int)), (3, .inr (30, v))]) (st2 := [zi (k : Int), zi (v : Int)]) rfl ?_
      refine zX.sn 1 (pc2 := 22) (l2 := [(4, .inl (.int (zme me (gn ((w * 8) + k)) (gs ((w * 8) + k))))), (0, .inr (20, v)), (1, zi (w : Int)), (2, zi (k : Int)), (3, .inr (30, v))]) (st2 := [zi (w : Int), zi (k : Int), zi (v : Int)]) rfl ?_
      refine zX.sn 1 (pc2 := 23) (l2 := [(4, .inl (.int (zme me (gn ((w * 8) + k)) (gs ((w * 8) + k))))), (0, .inr (20, v)), (1, zi (w : Int)), (2, zi (k : Int)), (3, .inr (30, v))]) (st2 := [.inr (20, v), zi (w : Int), zi (k : Int), zi (v : Int)]) rfl ?_
      refine zX.getf ⟨rfl, rfl⟩ H_20_v rfl rfl ?_
      refine zX.imul ⟨rfl, rfl⟩ ?_
      refine zX.sn 1 (pc2 := 28) (l2 := [(4, .inl (.int (zme me (gn ((w * 8) + k)) (gs ((w * 8) + k))))), (0, .inr (20, v)), (1, zi (w : Int)), (2, zi (k : Int)), (3, .inr (30, v))]) (st2 := [.inr (20, v), zi ((w : Int) * (sp : Int)), zi (k : Int), zi (v : Int)]) rfl ?_
      refine zX.sn 1 (pc2 := 29) (l2 := [(4, .inl (.int (zme me (gn ((w * 8) + k)) (gs ((w * 8) + k))))), (0, .inr (20, v)), (1, zi (w : Int)), (2, zi (k : Int)), (3, .inr (30, v))]) (st2 := [zi (w : Int), .inr (20, v), zi ((w : Int) * (sp : Int)), zi (k : Int), zi (v : Int)]) rfl ?_
      refine zX.call (mid2 := 87) (as := [.inr (20, v), zi (w : Int)]) (rest := [zi ((w : Int) * (sp : Int)), zi (k : Int), zi (v : Int)]) ⟨rfl, rfl⟩ (fun _ => rfl) (zX.inv rfl H_20_v rfl rfl) ⟨Nat.le_of_ble_eq_true rfl, Nat.le_of_ble_eq_true rfl⟩ ?_
      show zX _ 87 0 [(0, .inr (20, v)), (1, zi (w : Int))] [] c s _ _
      refine zX.sn 1 (pc2 := 1) (l2 := [(0, .inr (20, v)), (1, zi (w : Int))]) (st2 := [zi (w : Int)]) rfl ?_
      refine zX.sn 1 (pc2 := 2) (l2 := [(0, .inr (20, v)), (1, zi (w : Int))]) (st2 := [.inr (20, v), zi (w : Int)]) rfl ?_
      refine zX.getf ⟨rfl, rfl⟩ H_20_v rfl rfl ?_
      refine zX.imul ⟨rfl, rfl⟩ ?_
      refine zX.sn 1 (pc2 := 7) (l2 := [(0, .inr (20, v)), (1, zi (w : Int))]) (st2 := [.inr (20, v), zi ((w : Int) * (sp : Int))]) rfl ?_
      refine zX.getf ⟨rfl, rfl⟩ H_20_v rfl rfl ?_
      refine zX.iadd ⟨rfl, rfl⟩ ?_
      refine zX.ret rfl rfl ?_
      show zX _ 91 32 [(4, .inl (.int (zme me (gn ((w * 8) + k)) (gs ((w * 8) + k))))), (0, .inr (20, v)), (1, zi (w : Int)), (2, zi (k : Int)), (3, .inr (30, v))] [zi (((w : Int) * (sp : Int)) + (sz : Int)), zi ((w : Int) * (sp : Int)), zi (k : Int), zi (v : Int)] c s _ _
      refine zX.sn 1 (pc2 := 34) (l2 := [(4, .inl (.int (zme me (gn ((w * 8) + k)) (gs ((w * 8) + k))))), (0, .inr (20, v)), (1, zi (w : Int)), (2, zi (k : Int)), (3, .inr (30, v))]) (st2 := [.inl (.int (zme me (gn ((w * 8) + k)) (gs ((w * 8) + k)))), zi (((w : Int) * (sp : Int)) + (sz : Int)), zi ((w : Int) * (sp : Int)), zi (k : Int), zi (v : Int)]) rfl ?_
      refine zX.call (mid2 := 14) (as := [zi (v : Int), zi (k : Int), zi ((w : Int) * (sp : Int)), zi (((w : Int) * (sp : Int)) + (sz : Int)), .inl (.int (zme me (gn ((w * 8) + k)) (gs ((w * 8) + k))))]) (rest := []) ⟨rfl, rfl⟩ (fun _ => rfl) rfl ⟨Nat.le_of_ble_eq_true rfl, Nat.le_of_ble_eq_true rfl⟩ ?_
      refine s_of  ?_
      show zX _ 91 37 [(4, .inl (.int (zme me (gn ((w * 8) + k)) (gs ((w * 8) + k))))), (0, .inr (20, v)), (1, zi (w : Int)), (2, zi (k : Int)), (3, .inr (30, v))] [.inl (.long (zro (v : Int) (k : Int) ((w : Int) * (sp : Int)) (((w : Int) * (sp : Int)) + (sz : Int)) (zme me (gn ((w * 8) + k)) (gs ((w * 8) + k)))))] c s _ _
      refine zX.ret rfl rfl ?_
      show zX _ 96 115 [(5, zi (((w : Int) * 8) + (k : Int))), (0, .inr (20, v)), (2, zi m), (3, zi (w : Int)), (4, zi (k : Int))] [.inl (.long (zro (v : Int) (k : Int) ((w : Int) * (sp : Int)) (((w : Int) * (sp : Int)) + (sz : Int)) (zme me (gn ((w * 8) + k)) (gs ((w * 8) + k))))), zi (((w : Int) * 8) + (k : Int)), .inr (23, v)] c s _ _
      refine zX.call (mid2 := 24) (as := [.inr (23, v), zi (((w : Int) * 8) + (k : Int)), .inl (.long (zro (v : Int) (k : Int) ((w : Int) * (sp : Int)) (((w : Int) * (sp : Int)) + (sz : Int)) (zme me (gn ((w * 8) + k)) (gs ((w * 8) + k)))))]) (rest := []) ⟨rfl, rfl⟩ (fun _ => rfl) (zX.inv rfl (P_found.1) rfl rfl) ⟨Nat.le_of_ble_eq_true rfl, Nat.le_of_ble_eq_true rfl⟩ ?_
      refine s_put (k := ((w * 8) + k)) (by omega) (by omega) (by omega) (by omega) zro_nz P_found (fun h3 hv3 hF3 => ?_)
      show zX _ 96 118 [(5, zi (((w : Int) * 8) + (k : Int))), (0, .inr (20, v)), (2, zi m), (3, zi (w : Int)), (4, zi (k : Int))] [] c s _ _
      refine zX.s1 (pc2 := 121) (l2 := [(4, zi ((k : Int) + 1)), (5, zi (((w : Int) * 8) + (k : Int))), (0, .inr (20, v)), (2, zi m), (3, zi (w : Int))]) (st2 := []) ⟨rfl, rfl⟩ (by rw [show (zi ((k : Int) + 1) : xV) = .inl (.int (Int32.ofInt (k : Int) + 1)) from congrArg (fun z => (.inl (.int z) : xV)) (Int32.ofInt_add _ _)]; rfl) ?_
      refine zX.sn 1 (pc2 := 70) (l2 := [(4, zi ((k : Int) + 1)), (5, zi (((w : Int) * 8) + (k : Int))), (0, .inr (20, v)), (2, zi m), (3, zi (w : Int))]) (st2 := []) rfl ?_
      refine zX.re [(0, .inr (20, v)), (2, zi m), (3, zi (w : Int)), (4, zi ((k : Int) + 1))] [2, 3, 4, 0] [4, 5, 0, 2, 3] rfl rfl (by decide) ?_
      exact k3 e1 e2 _ hv3 (fun za zb hn => ((hF3 za zb (by omega)).trans rfl))

end ZR59
