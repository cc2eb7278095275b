set_option maxRecDepth 100000
section ZR64
theorem zsLa_le {e : zE} {js : List Nat} (hE : zEr e) (hj : ∀ x ∈ js, x < 8000) : zsLa e js ≤ 999 := by
  unfold zsLa
  have key : ∀ (js : List Nat) (x : Nat), x ≤ 999 → (∀ y ∈ js, y < 8000) → js.foldl (fun x a => if x < a / 8 then a / 8 else x) x ≤ 999 := by
    intro js
    induction js with
    | nil => intro x hx _; exact hx
    | cons a r ih =>
      intro x hx hy
      refine ih _ ?_ (fun y hy2 => hy y (List.mem_cons_of_mem _ hy2))
      have := hy a List.mem_cons_self
      dsimp only
      split <;> omega
  exact key js _ (by have := hE.2.2.1; omega) hj
theorem zsK_lt {e : zE} {js : List Nat} (hE : zEr e) (hj : ∀ x ∈ js, x < 8000) : zsK e js < 8000 := by
  have h1 := zsLa_le hE hj
  have h2 := hE.2.1
  unfold zsK
  omega
theorem zsFi_ok {e : zE} {js : List Nat} {ff : Nat → Int} (hE : zEr e) (hf : ∀ j, 0 ≤ ff j ∧ ff j ≤ 1000) : 0 ≤ zsFi e js ff ∧ zsFi e js ff ≤ 1000 := by
  unfold zsFi
  have key : ∀ (js : List Nat) (x : Int), 0 ≤ x ∧ x ≤ 1000 → 0 ≤ js.foldl (fun x a => if ff a < x then ff a else x) x ∧ js.foldl (fun x a => if ff a < x then ff a else x) x ≤ 1000 := by
    intro js
    induction js with
    | nil => intro x hx; exact hx
    | cons a r ih =>
      intro x hx
      refine ih _ ?_
      have := hf a
      dsimp only
      split <;> omega
  exact key js _ (by have := hE.2.2.1; omega)
theorem zsF_ok {e : zE} {js : List Nat} {ff : Nat → Int} (hE : zEr e) (hf : ∀ j, 0 ≤ ff j ∧ ff j ≤ 1000) : ∀ j, 0 ≤ zfi ff (zsK e js) (zsFi e js ff) j ∧ zfi ff (zsK e js) (zsFi e js ff) j ≤ 1000 := fun j => by
  unfold zfi
  split
  · exact zsFi_ok hE hf
  · exact hf j
set_option maxHeartbeats 4000000 in
theorem r_stake {d c s : Nat} {h : xH} {Q : xR → Nat → Nat → xH → Prop} {v sz gr : Nat} {fi me : Int} {dr : Int32} {e : zE} {fn fs fg : Nat → Int32} {ff : Nat → Int} {jj : Nat → Int} {N : Nat} {hd : Nat → Int32} {fa : Nat → Int64} {out : List Int64} (hvr : zVr v fi sz gr) (hv : v < 5) (hsz : 1 ≤ sz ∧ sz ≤ 200) (hgr : gr ≤ 200) (hme : me = 99 ∨ me = 115 ∨ me = 109) (hEe : zEr e) (hkye : zeK e < 8) (htme : zeT e < 1000) (hvae : -99 ≤ zeV e ∧ zeV e ≤ 99) (hahe : -1 ≤ zeA e ∧ zeA e < 1000) (hode : zeO e < 240) (hire : 0 ≤ zbi (zeR e) ∧ zbi (zeR e) ≤ 1) (hile : 0 ≤ zbi (zeL e) ∧ zbi (zeL e) ≤ 1) (hff : ∀ j, 0 ≤ ff j ∧ ff j ≤ 1000) (ho : out.length + 8 < 200000) (H_20_v : h (20, v) = some (.inl (6, [zi (v : Int), zi (zbi false), zi fi, zi (sz : Int), zi (gr : Int), .inr (2, 0), .inr (21, v), .inr (23, v), .inr (25, v), .inl (.int dr), zi me, .inr (26, v), .inr (30, v), .inr (34, v), .inr (35, v)]))) (H_8_zeN_e : h (8, zeN e) = some (.inl (1, [zi (zeP e : Int), zi (zbi (zeR e)), zi (zbi (zeL e)), zi (zeK e : Int), zi (zeT e : Int), zi (zeV e), zi (zeO e : Int), zi (zeA e), zi (zeB e)]))) (H_34_v : h (34, v) = some (.inr (0, 8000, zA ff))) (H_35_v : h (35, v) = some (.inr (0, 2, zA jj))) (H_25_v : h (25, v) = some (.inr (0, 8, zI hd))) (P_rows : zTal h 26 v 8001 fn fs fg) (P_told : zRes h 21 v 8000 fa) (P_out : zOut h N out)
    (k1 : (¬ zLate sz gr e) → ∀ jj1 : Nat → Int, (zsJj (zsLook sz fn ff e) jj1) → ∀ gg2 : Nat → Int32, ∀ N4 : Nat, ∀ c4 : Nat, ∀ s4 : Nat, (zCo N c s N4 c4 s4) → ∀ h' : xH, h' (35, v) = some (.inr (0, 2, zA jj1)) → h' (34, v) = some (.inr (0, 8000, zA (zfi ff (zsK e (zsLook sz fn ff e)) (zsFi e (zsLook sz fn ff e) ff)))) → h' (25, v) = some (.inr (0, 8, zI (zfi hd (zeK e) (hd (zeK e) + Int32.ofInt (1 - ((zsLook sz fn ff e).length : Int)))))) → zTal h' 26 v 8001 (zaaN (zsJs e (zsLook sz fn ff e) fn fs).1 (zsK e (zsLook sz fn ff e)) 8000) (zaaS (zsJs e (zsLook sz fn ff e) fn fs).1 (zsJs e (zsLook sz fn ff e) fn fs).2 (zsK e (zsLook sz fn ff e)) 8000) (gg2) → zRes h' 21 v 8000 ((zsTj v sz me e (zsLook sz fn ff e) (zsK e (zsLook sz fn ff e)) (zaaN (zsJs e (zsLook sz fn ff e) fn fs).1 (zsK e (zsLook sz fn ff e)) 8000) (zaaS (zsJs e (zsLook sz fn ff e) fn fs).1 (zsJs e (zsLook sz fn ff e) fn fs).2 (zsK e (zsLook sz fn ff e)) 8000) (zfi ff (zsK e (zsLook sz fn ff e)) (zsFi e (zsLook sz fn ff e) ff)) (fa, out)).1) → zOut h' N4 ((zsTj v sz me e (zsLook sz fn ff e) (zsK e (zsLook sz fn ff e)) (zaaN (zsJs e (zsLook sz fn ff e) fn fs).1 (zsK e (zsLook sz fn ff e)) 8000) (zaaS (zsJs e (zsLook sz fn ff e) fn fs).1 (zsJs e (zsLook sz fn ff e) fn fs).2 (zsK e (zsLook sz fn ff e)) 8000) (zfi ff (zsK e (zsLook sz fn ff e)) (zsFi e (zsLook sz fn ff e) ff)) (fa, out)).2) → (∀ za zb : Nat, ¬ ((za = 35 ∧ zb = v) ∨ (za = 34 ∧ zb = v) ∨ (za = 25 ∧ zb = v) ∨ (26 ≤ za ∧ za < 26 + 4 ∧ zb = v) ∨ (21 ≤ za ∧ za < 21 + 2 ∧ zb = v) ∨ (2 ≤ za ∧ za < 4)) → h' (za, zb) = h (za, zb)) → Q (.inl none) c4 s4 h')
    (k2 : (zLate sz gr e) → ∀ h' : xH, h' (20, v) = some (.inl (6, [zi (v : Int), zi (zbi false), zi fi, zi (sz : Int), zi (gr : Int), .inr (2, 0), .inr (21, v), .inr (23, v), .inr (25, v), .inl (.int (dr + (Int32.ofInt 1))), zi me, .inr (26, v), .inr (30, v), .inr (34, v), .inr (35, v)])) → (∀ za zb : Nat, ¬ ((za = 20 ∧ zb = v)) → h' (za, zb) = h (za, zb)) → Q (.inl none) c s h') :
    zX (d + 5) 41 0 [(0, .inr (20, v)), (1, .inr (8, zeN e))] [] c s h Q := by
  refine zX.sn 1 (pc2 := 1) (l2 := [(0, .inr (20, v)), (1, .inr (8, zeN e))]) (st2 := [.inr (20, v)]) rfl ?_
  refine zX.sn 1 (pc2 := 2) (l2 := [(0, .inr (20, v)), (1, .inr (8, zeN e))]) (st2 := [.inr (8, zeN e), .inr (20, v)]) rfl ?_
  refine zX.call (mid2 := 84) (as := [.inr (20, v), .inr (8, zeN e)]) (rest := []) ⟨rfl, rfl⟩ (fun _ => rfl) (zX.inv rfl H_20_v rfl rfl) ⟨Nat.le_of_ble_eq_true rfl, Nat.le_of_ble_eq_true rfl⟩ ?_
  refine s_late (ci := 6) (bs := false) hvr (by omega) hEe (show zVo _ 6 v false fi sz gr _ _ from H_20_v) (show zEn _ e from H_8_zeN_e)  (fun (e1 : ¬ zLate sz gr e) => ?_) (fun (e1 : zLate sz gr e) => ?_)
  · show zX _ 41 5 [(0, .inr (20, v)), (1, .inr (8, zeN e))] [zi 0] c s _ _
    refine zX.icmp0 (tgt := 19) ⟨rfl, rfl⟩ rfl (by omega) (fun (e2 : 0 = 0) => ?_) (fun (zz : ¬ 0 = 0) => absurd zz (by omega))
    refine zX.sn 1 (pc2 := 20) (l2 := [(0, .inr (20, v)), (1, .inr (8, zeN e))]) (st2 := [.inr (20, v)]) rfl ?_
    refine zX.sn 1 (pc2 := 21) (l2 := [(0, .inr (20, v)), (1, .inr (8, zeN e))]) (st2 := [.inr (8, zeN e), .inr (20, v)]) rfl ?_
    refine zX.call (mid2 := 42) (as := [.inr (20, v), .inr (8, zeN e)]) (rest := []) ⟨rfl, rfl⟩ (fun _ => rfl) (zX.inv rfl H_20_v rfl rfl) ⟨Nat.le_of_ble_eq_true rfl, Nat.le_of_ble_eq_true rfl⟩ ?_
    refine s_slook hvr hme hEe hff (show zVo _ 6 v false fi sz gr _ [zi me, .inr (26, v), .inr (30, v), .inr (34, v), .inr (35, v)] from H_20_v) (show zEn _ e from H_8_zeN_e) H_34_v H_35_v P_rows  (fun h1 jj1 hv1 hq1 hF1 => ?_)
    show zX _ 41 24 [(0, .inr (20, v)), (1, .inr (8, zeN e))] [zi ((zsLook sz fn ff e).length : Int)] c s _ _
    refine zX.sn 1 (pc2 := 25) (l2 := [(2, zi ((zsLook sz fn ff e).length : Int)), (0, .inr (20, v)), (1, .inr (8, zeN e))]) (st2 := []) rfl ?_
    refine zX.sn 1 (pc2 := 26) (l2 := [(2, zi ((zsLook sz fn ff e).length : Int)), (0, .inr (20, v)), (1, .inr (8, zeN e))]) (st2 := [.inr (20, v)]) rfl ?_
    refine zX.sn 1 (pc2 := 27) (l2 := [(2, zi ((zsLook sz fn ff e).length : Int)), (0, .inr (20, v)), (1, .inr (8, zeN e))]) (st2 := [.inr (8, zeN e), .inr (20, v)]) rfl ?_
    refine zX.sn 1 (pc2 := 28) (l2 := [(2, zi ((zsLook sz fn ff e).length : Int)), (0, .inr (20, v)), (1, .inr (8, zeN e))]) (st2 := [zi ((zsLook sz fn ff e).length : Int), .inr (8, zeN e), .inr (20, v)]) rfl ?_
    refine zX.call (mid2 := 43) (as := [.inr (20, v), .inr (8, zeN e), zi ((zsLook sz fn ff e).length : Int)]) (rest := []) ⟨rfl, rfl⟩ (fun _ => rfl) (zX.inv rfl ((hF1 20 v (by omega)).trans H_20_v) rfl rfl) ⟨Nat.le_of_ble_eq_true rfl, Nat.le_of_ble_eq_true rfl⟩ ?_
    refine s_sjoin (js := (zsLook sz fn ff e)) hvr hme hEe hff (zsLook_ok hEe) hq1 (show zVo _ 6 v false fi sz gr _ [zi me, .inr (26, v), .inr (30, v), .inr (34, v), .inr (35, v)] from ((hF1 20 v (by omega)).trans H_20_v)) (show zEn _ e from ((hF1 8 (zeN e) (by omega)).trans H_8_zeN_e)) ((hF1 34 v (by omega)).trans H_34_v) hv1 (zTal.fr P_rows (fun za zb hi => ((hF1 za zb (by omega)).trans rfl)))  (fun h2 gg2 hv2 ht2 hF2 => ?_)
    show zX _ 41 31 [(2, zi ((zsLook sz fn ff e).length : Int)), (0, .inr (20, v)), (1, .inr (8, zeN e))] [zi (zsK e (zsLook sz fn ff e) : Int)] c s _ _
    refine zX.sn 1 (pc2 := 32) (l2 := [(3, zi (zsK e (zsLook sz fn ff e) : Int)), (2, zi ((zsLook sz fn ff e).length : Int)), (0, .inr (20, v)), (1, .inr (8, zeN e))]) (st2 := []) rfl ?_
    refine zX.sn 1 (pc2 := 33) (l2 := [(3, zi (zsK e (zsLook sz fn ff e) : Int)), (2, zi ((zsLook sz fn ff e).length : Int)), (0, .inr (20, v)), (1, .inr (8, zeN e))]) (st2 := [.inr (20, v)]) rfl ?_
    refine zX.sn 1 (pc2 := 34) (l2 := [(3, zi (zsK e (zsLook sz fn ff e) : Int)), (2, zi ((zsLook sz fn ff e).length : Int)), (0, .inr (20, v)), (1, .inr (8, zeN e))]) (st2 := [.inr (8, zeN e), .inr (20, v)]) rfl ?_
    refine zX.getf ⟨rfl, rfl⟩ ((hF2 8 (zeN e) (by omega)).trans ((hF1 8 (zeN e) (by omega)).trans H_8_zeN_e)) rfl rfl ?_
    refine zX.sn 1 (pc2 := 38) (l2 := [(3, zi (zsK e (zsLook sz fn ff e) : Int)), (2, zi ((zsLook sz fn ff e).length : Int)), (0, .inr (20, v)), (1, .inr (8, zeN e))]) (st2 := [zi 1, zi (zeK e : Int), .inr (20, v)]) rfl ?_
    refine zX.sn 1 (pc2 := 39) (l2 := [(3, zi (zsK e (zsLook sz fn ff e) : Int)), (2, zi ((zsLook sz fn ff e).length : Int)), (0, .inr (20, v)), (1, .inr (8, zeN e))]) (st2 := [zi ((zsLook sz fn ff e).length : Int), zi 1, zi (zeK e : Int), .inr (20, v)]) rfl ?_
    refine zX.isub ⟨rfl, rfl⟩ ?_
    refine zX.call (mid2 := 81) (as := [.inr (20, v), zi (zeK e : Int), zi (1 - ((zsLook sz fn ff e).length : Int))]) (rest := []) ⟨rfl, rfl⟩ (fun _ => rfl) (zX.inv rfl ((hF2 20 v (by omega)).trans ((hF1 20 v (by omega)).trans H_20_v)) rfl rfl) ⟨Nat.le_of_ble_eq_true rfl, Nat.le_of_ble_eq_true rfl⟩ ?_
    refine s_hold (ci := 6) (k := zeK e) rfl (by omega) hvr (by omega) (show zVo _ 6 v false fi sz gr _ _ from ((hF2 20 v (by omega)).trans ((hF1 20 v (by omega)).trans H_20_v))) ((hF2 25 v (by omega)).trans ((hF1 25 v (by omega)).trans H_25_v)) (fun h3 hv3 hF3 => ?_)
    show zX _ 41 43 [(3, zi (zsK e (zsLook sz fn ff e) : Int)), (2, zi ((zsLook sz fn ff e).length : Int)), (0, .inr (20, v)), (1, .inr (8, zeN e))] [] c s _ _
    refine zX.sn 1 (pc2 := 44) (l2 := [(3, zi (zsK e (zsLook sz fn ff e) : Int)), (2, zi ((zsLook sz fn ff e).length : Int)), (0, .inr (20, v)), (1, .inr (8, zeN e))]) (st2 := [.inr (20, v)]) rfl ?_
    refine zX.sn 1 (pc2 := 45) (l2 := [(3, zi (zsK e (zsLook sz fn ff e) : Int)), (2, zi ((zsLook sz fn ff e).length : Int)), (0, .inr (20, v)), (1, .inr (8, zeN e))]) (st2 := [.inr (8, zeN e), .inr (20, v)]) rfl ?_
    refine zX.sn 1 (pc2 := 46) (l2 := [(3, zi (zsK e (zsLook sz fn ff e) : Int)), (2, zi ((zsLook sz fn ff e).length : Int)), (0, .inr (20, v)), (1, .inr (8, zeN e))]) (st2 := [zi ((zsLook sz fn ff e).length : Int), .inr (8, zeN e), .inr (20, v)]) rfl ?_
    refine zX.sn 1 (pc2 := 47) (l2 := [(3, zi (zsK e (zsLook sz fn ff e) : Int)), (2, zi ((zsLook sz fn ff e).length : Int)), (0, .inr (20, v)), (1, .inr (8, zeN e))]) (st2 := [zi (zsK e (zsLook sz fn ff e) : Int), zi ((zsLook sz fn ff e).length : Int), .inr (8, zeN e), .inr (20, v)]) rfl ?_
    refine zX.call (mid2 := 44) (as := [.inr (20, v), .inr (8, zeN e), zi ((zsLook sz fn ff e).length : Int), zi (zsK e (zsLook sz fn ff e) : Int)]) (rest := []) ⟨rfl, rfl⟩ (fun _ => rfl) (zX.inv rfl ((hF3 20 v (by omega)).trans ((hF2 20 v (by omega)).trans ((hF1 20 v (by omega)).trans H_20_v))) rfl rfl) ⟨Nat.le_of_ble_eq_true rfl, Nat.le_of_ble_eq_true rfl⟩ ?_
    refine s_stj (js := (zsLook sz fn ff e)) (k := zsK e (zsLook sz fn ff e)) hvr hme hEe (zsF_ok hEe hff) (zsLook_ok hEe) hq1 (zsK_lt hEe (zsLook_ok hEe).2) (by omega) (show zVo _ 6 v false fi sz gr _ [zi me, .inr (26, v), .inr (30, v), .inr (34, v), .inr (35, v)] from ((hF3 20 v (by omega)).trans ((hF2 20 v (by omega)).trans ((hF1 20 v (by omega)).trans H_20_v)))) (show zEn _ e from ((hF3 8 (zeN e) (by omega)).trans ((hF2 8 (zeN e) (by omega)).trans ((hF1 8 (zeN e) (by omega)).trans H_8_zeN_e)))) ((hF3 34 v (by omega)).trans hv2) ((hF3 35 v (by omega)).trans ((hF2 35 v (by omega)).trans hv1)) (zTal.fr ht2 (fun za zb hi => ((hF3 za zb (by omega)).trans rfl))) (zRes.fr P_told (fun za zb hi => ((hF3 za zb (by omega)).trans ((hF2 za zb (by omega)).trans ((hF1 za zb (by omega)).trans rfl))))) (zOut.fr P_out (fun za zb hi => ((hF3 za zb (by omega)).trans ((hF2 za zb (by omega)).trans ((hF1 za zb (by omega)).trans rfl)))))  (fun h4 N4 c4 s4 hv4 ho4 hF4 hb4 => ?_)
    show zX _ 41 50 [(3, zi (zsK e (zsLook sz fn ff e) : Int)), (2, zi ((zsLook sz fn ff e).length : Int)), (0, .inr (20, v)), (1, .inr (8, zeN e))] [] c4 s4 _ _
    refine zX.ret rfl rfl ?_
    exact k1 e1 jj1 hq1 gg2 N4 c4 s4 hb4 _ ((hF4 35 v (by omega)).trans ((hF3 35 v (by omega)).trans ((hF2 35 v (by omega)).trans hv1))) ((hF4 34 v (by omega)).trans ((hF3 34 v (by omega)).trans hv2)) ((hF4 25 v (by omega)).trans hv3) (zTal.fr ht2 (fun za zb hi => ((hF4 za zb (by omega)).trans ((hF3 za zb (by omega)).trans rfl)))) hv4 ho4 (fun za zb hn => ((hF4 za zb (by omega)).trans ((hF3 za zb (by omega)).trans ((hF2 za zb (by omega)).trans ((hF1 za zb (by omega)).trans rfl)))))
  · show zX _ 41 5 [(0, .inr (20, v)), (1, .inr (8, zeN e))] [zi 1] c s _ _
    refine zX.icmp0 (tgt := 19) ⟨rfl, rfl⟩ rfl (by omega) (fun (zz : 1 = 0) => absurd zz (by omega)) (fun (e3 : ¬ 1 = 0) => ?_)
    refine zX.sn 1 (pc2 := 9) (l2 := [(0, .inr (20, v)), (1, .inr (8, zeN e))]) (st2 := [.inr (20, v)]) rfl ?_
    refine zX.sn 1 (pc2 := 10) (l2 := [(0, .inr (20, v)), (1, .inr (8, zeN e))]) (st2 := [.inr (20, v), .inr (20, v)]) rfl ?_
    refine zX.getf ⟨rfl, rfl⟩ H_20_v rfl rfl ?_
    refine zX.sn 1 (pc2 := 14) (l2 := [(0, .inr (20, v)), (1, .inr (8, zeN e))]) (st2 := [zi 1, .inl (.int dr), .inr (20, v)]) rfl ?_
    refine zX.sn 1 (pc2 := 15) (l2 := [(0, .inr (20, v)), (1, .inr (8, zeN e))]) (st2 := [.inl (.int (dr + (Int32.ofInt 1))), .inr (20, v)]) rfl ?_
    refine zX.putf ⟨rfl, rfl⟩ H_20_v rfl (by omega) rfl ?_
    show zX _ 41 18 [(0, .inr (20, v)), (1, .inr (8, zeN e))] [] c s (xup h (20, v) (.inl (6, [zi (v : Int), zi (zbi false), zi fi, zi (sz : Int), zi (gr : Int), .inr (2, 0), .inr (21, v), .inr (23, v), .inr (25, v), .inl (.int (dr + (Int32.ofInt 1))), zi me, .inr (26, v), .inr (30, v), .inr (34, v), .inr (35, v)]))) _
    refine zX.ret rfl rfl ?_
    exact k2 e1 _ zup_s (fun za zb hn => (zup_n (zn (by omega)) rfl))

set_option maxHeartbeats 4000000 in
theorem r_sfone {d c s : Nat} {h : xH} {Q : xR → Nat → Nat → xH → Prop} {v sz gr : Nat} {fi me : Int} {dr : Int32} {gn gs gg : Nat → Int32} {k : Nat} {fst lst m : Int} {fb : Nat → Int64} (hvr : zVr v fi sz gr) (hv : v < 5) (hsz : 1 ≤ sz ∧ sz ≤ 200) (hgr : gr ≤ 200) (hme : me = 99 ∨ me = 115 ∨ me = 109) (hk : k < 8) (hm : -1 ≤ m ∧ m < 1000) (hlst : -1 ≤ lst ∧ lst < 1000) (H_20_v : h (20, v) = some (.inl (6, [zi (v : Int), zi (zbi false), zi fi, zi (sz : Int), zi (gr : Int), .inr (2, 0), .inr (21, v), .inr (23, v), .inr (25, v), .inl (.int dr), zi me, .inr (26, v), .inr (30, v), .inr (34, v), .inr (35, v)]))) (P_again : zTal h 30 v 8000 gn gs gg) (P_found : zRes h 23 v 8000 fb)
    (k1 : (lst < 0) → Q (.inl none) c s h)
    (k2 : (0 ≤ lst) → (m ≤ (lst + (sz : Int))) → Q (.inl none) c s h)
    (k3 : (0 ≤ lst) → ((lst + (sz : Int)) < m) → ∀ h' : xH, zRes h' 23 v 8000 (zfi fb (lst.toNat * 8 + k) (zro (v : Int) (k : Int) fst lst (zme me (gn (lst.toNat * 8 + k)) (gs (lst.toNat * 8 + k))))) → (∀ za zb : Nat, ¬ ((23 ≤ za ∧ za < 23 + 2 ∧ zb = v)) → h' (za, zb) = h (za, zb)) → Q (.inl none) c s h') :
    zX (d + 2) 49 0 [(0, .inr (20, v)), (1, zi (k : Int)), (2, zi fst), (3, zi lst), (4, zi m)] [] c s h Q := by
  refine zX.sn 1 (pc2 := 1) (l2 := [(0, .inr (20, v)), (1, zi (k : Int)), (2, zi fst), (3, zi lst), (4, zi m)]) (st2 := [zi lst]) rfl ?_
  refine zX.icmp0 (tgt := 54) ⟨rfl, rfl⟩ rfl (by omega) (fun (e1 : lst < 0) => ?_) (fun (e1 : 0 ≤ lst) => ?_)
  · refine zX.ret rfl rfl ?_
    exact k1 e1
  · refine zX.sn 1 (pc2 := 6) (l2 := [(0, .inr (20, v)), (1, zi (k : Int)), (2, zi fst), (3, zi lst), (4, zi m)]) (st2 := [zi m]) rfl ?_
    refine zX.sn 1 (pc2 := 7) (l2 := [(0, .inr (20, v)), (1, zi (k : Int)), (2, zi fst), (3, zi lst), (4, zi m)]) (st2 := [zi lst, zi m]) rfl ?_
    refine zX.sn 1 (pc2 := 8) (l2 := [(0, .inr (20, v)), (1, zi (k : Int)), (2, zi fst), (3, zi lst), (4, zi m)]) (st2 := [.inr (20, v), zi lst, zi m]) rfl ?_
    refine zX.getf ⟨rfl, rfl⟩ H_20_v rfl rfl ?_
    refine zX.iadd ⟨rfl, rfl⟩ ?_
    refine zX.icmp (tgt := 54) ⟨rfl, rfl⟩ rfl (by omega) (by omega) (fun (e2 : m ≤ (lst + (sz : Int))) => ?_) (fun (e2 : (lst + (sz : Int)) < m) => ?_)
    · refine zX.ret rfl rfl ?_
      exact k2 e1 e2
    · refine zX.sn 1 (pc2 := 16) (l2 := [(0, .inr (20, v)), (1, zi (k : Int)), (2, zi fst), (3, zi lst), (4, zi m)]) (st2 := [zi lst]) rfl ?_
      refine zX.sn 1 (pc2 := 17) (l2 := [(0, .inr (20, v)), (1, zi (k : Int)), (2, zi fst), (3, zi lst), (4, zi m)]) (st2 := [zi (k : Int), zi lst]) rfl ?_
      refine zX.call (mid2 := 36) (as := [zi lst, zi (k : Int)]) (rest := []) ⟨rfl, rfl⟩ (fun _ => rfl) rfl ⟨Nat.le_of_ble_eq_true rfl, Nat.le_of_ble_eq_true rfl⟩ ?_
      show zX _ 36 0 [(0, zi lst), (1, zi (k : Int))] [] c s _ _
      refine zX.sn 1 (pc2 := 1) (l2 := [(0, zi lst), (1, zi (k : Int))]) (st2 := [zi lst]) rfl ?_
      refine zX.sn 1 (pc2 := 3) (l2 := [(0, zi lst), (1, zi (k : Int))]) (st2 := [zi 8, zi lst]) rfl ?_
      refine zX.imul ⟨rfl, rfl⟩ ?_
      refine zX.sn 1 (pc2 := 5) (l2 := [(0, zi lst), (1, zi (k : Int))]) (st2 := [zi (k : Int), zi (lst * 8)]) rfl ?_
      refine zX.iadd ⟨rfl, rfl⟩ ?_
      refine zX.ret rfl rfl ?_
      show zX _ 49 20 [(0, .inr (20, v)), (1, zi (k : Int)), (2, zi fst), (3, zi lst), (4, zi m)] [zi ((lst * 8) + (k : Int))] c s _ _
      refine zX.sn 1 (pc2 := 22) (l2 := [(5, zi ((lst * 8) + (k : Int))), (0, .inr (20, v)), (1, zi (k : Int)), (2, zi fst), (3, zi lst), (4, zi m)]) (st2 := []) rfl ?_
      refine zX.sn 1 (pc2 := 23) (l2 := [(5, zi ((lst * 8) + (k : Int))), (0, .inr (20, v)), (1, zi (k : Int)), (2, zi fst), (3, zi lst), (4, zi m)]) (st2 := [.inr (20, v)]) rfl ?_
      refine zX.getf ⟨rfl, rfl⟩ H_20_v rfl rfl ?_
      refine zX.sn 1 (pc2 := 28) (l2 := [(5, zi ((lst * 8) + (k : Int))), (0, .inr (20, v)), (1, zi (k : Int)), (2, zi fst), (3, zi lst), (4, zi m)]) (st2 := [zi ((lst * 8) + (k : Int)), .inr (23, v)]) rfl ?_
      refine zX.sn 1 (pc2 := 29) (l2 := [(5, zi ((lst * 8) + (k : Int))), (0, .inr (20, v)), (1, zi (k : Int)), (2, zi fst), (3, zi lst), (4, zi m)]) (st2 := [.inr (20, v), zi ((lst * 8) + (k : Int)), .inr (23, v)]) rfl ?_
      refine zX.getf ⟨rfl, rfl⟩ H_20_v rfl rfl ?_
      refine zX.sn 1 (pc2 := 33) (l2 := [(5, zi ((lst * 8) + (k : Int))), (0, .inr (20, v)), (1, zi (k : Int)), (2, zi fst), (3, zi lst), (4, zi m)]) (st2 := [zi (k : Int), zi (v : Int), zi ((lst * 8) + (k : Int)), .inr (23, v)]) rfl ?_
      refine zX.sn 1 (pc2 := 34) (l2 := [(5, zi ((lst * 8) + (k : Int))), (0, .inr (20, v)), (1, zi (k : Int)), (2, zi fst), (3, zi lst), (4, zi m)]) (st2 := [zi fst, zi (k : Int), zi (v : Int), zi ((lst * 8) + (k : Int)), .inr (23, v)]) rfl ?_
      refine zX.sn 1 (pc2 := 35) (l2 := [(5, zi ((lst * 8) + (k : Int))), (0, .inr (20, v)), (1, zi (k : Int)), (2, zi fst), (3, zi lst), (4, zi m)]) (st2 := [zi lst, zi fst, zi (k : Int), zi (v : Int), zi ((lst * 8) + (k : Int)), .inr (23, v)]) rfl ?_
      refine zX.sn 1 (pc2 := 36) (l2 := [(5, zi ((lst * 8) + (k : Int))), (0, .inr (20, v)), (1, zi (k : Int)), (2, zi fst), (3, zi lst), (4, zi m)]) (st2 := [.inr (20, v), zi lst, zi fst, zi (k : Int), zi (v : Int), zi ((lst * 8) + (k : Int)), .inr (23, v)]) rfl ?_
      refine zX.getf ⟨rfl, rfl⟩ H_20_v rfl rfl ?_
      refine zX.sn 1 (pc2 := 41) (l2 := [(5, zi ((lst * 8) + (k : Int))), (0, .inr (20, v)), (1, zi (k : Int)), (2, zi fst), (3, zi lst), (4, zi m)]) (st2 := [zi ((lst * 8) + (k : Int)), .inr (30, v), zi lst, zi fst, zi (k : Int), zi (v : Int), zi ((lst * 8) + (k : Int)), .inr (23, v)]) rfl ?_
      refine zX.sn 1 (pc2 := 42) (l2 := [(5, zi ((lst * 8) + (k : Int))), (0, .inr (20, v)), (1, zi (k : Int)), (2, zi fst), (3, zi lst), (4, zi m)]) (st2 := [.inr (20, v), zi ((lst * 8) + (k : Int)), .inr (30, v), zi lst, zi fst, zi (k : Int), zi (v : Int), zi ((lst * 8) + (k : Int)), .inr (23, v)]) rfl ?_
      refine zX.getf ⟨rfl, rfl⟩ H_20_v rfl rfl ?_
      refine zX.call (mid2 := 58) (as := [.inr (30, v), zi ((lst * 8) + (k : Int)), zi me]) (rest := [zi lst, zi fst, zi (k : Int), zi (v : Int), zi ((lst * 8) + (k : Int)), .inr (23, v)]) ⟨rfl, rfl⟩ (fun _ => rfl) (zX.inv rfl (P_again.1) rfl rfl) ⟨Nat.le_of_ble_eq_true rfl, Nat.le_of_ble_eq_true rfl⟩ ?_
      refine s_meas (k := (lst.toNat * 8 + k)) (by omega) (by omega) (by omega) (by omega) hme P_again ?_
      show zX _ 49 48 [(5, zi ((lst * 8) + (k : Int))), (0, .inr (20, v)), (1, zi (k : Int)), (2, zi fst), (3, zi lst), (4, zi m)] [.inl (.int (zme me (gn (lst.toNat * 8 + k)) (gs (lst.toNat * 8 + k)))), zi lst, zi fst, zi (k : Int), zi (v : Int), zi ((lst * 8) + (k : Int)), .inr (23, v)] c s _ _
      refine zX.call (mid2 := 14) (as := [zi (v : Int), zi (k : Int), zi fst, zi lst, .inl (.int (zme me (gn (lst.toNat * 8 + k)) (gs (lst.toNat * 8 + k))))]) (rest := [zi ((lst * 8) + (k : Int)), .inr (23, v)]) ⟨rfl, rfl⟩ (fun _ => rfl) rfl ⟨Nat.le_of_ble_eq_true rfl, Nat.le_of_ble_eq_true rfl⟩ ?_
      refine s_of  ?_
      show zX _ 49 51 [(5, zi ((lst * 8) + (k : Int))), (0, .inr (20, v)), (1, zi (k : Int)), (2, zi fst), (3, zi lst), (4, zi m)] [.inl (.long (zro (v : Int) (k : Int) fst lst (zme me (gn (lst.toNat * 8 + k)) (gs (lst.toNat * 8 + k))))), zi ((lst * 8) + (k : Int)), .inr (23, v)] c s _ _
      refine zX.call (mid2 := 24) (as := [.inr (23, v), zi ((lst * 8) + (k : Int)), .inl (.long (zro (v : Int) (k : Int) fst lst (zme me (gn (lst.toNat * 8 + k)) (gs (lst.toNat * 8 + k)))))]) (rest := []) ⟨rfl, rfl⟩ (fun _ => rfl) (zX.inv rfl (P_found.1) rfl rfl) ⟨Nat.le_of_ble_eq_true rfl, Nat.le_of_ble_eq_true rfl⟩ ?_
      refine s_put (k := (lst.toNat * 8 + k)) (by omega) (by omega) (by omega) (by omega) zro_nz P_found (fun h3 hv3 hF3 => ?_)
      show zX _ 49 54 [(5, zi ((lst * 8) + (k : Int))), (0, .inr (20, v)), (1, zi (k : Int)), (2, zi fst), (3, zi lst), (4, zi m)] [] c s _ _
      refine zX.ret rfl rfl ?_
      exact k3 e1 e2 _ hv3 (fun za zb hn => ((hF3 za zb (by omega)).trans rfl))

/-- one session that is found -/
noncomputable def zsO1 (v sz : Nat) (me : Int) (gn gs : Nat → Int32) (k : Nat) (fst lst m : Int) (fb : Nat → Int64) : Nat → Int64 := if 0 ≤ lst ∧ lst + (sz : Int) < m then zfi fb (lst.toNat * 8 + k) (zro (v : Int) (k : Int) fst lst (zme me (gn (lst.toNat * 8 + k)) (gs (lst.toNat * 8 + k)))) else fb
theorem s_sfone {d c s v sz gr : Nat} {fi me : Int} {dr : Int32} {h : xH} {Q : xR → Nat → Nat → xH → Prop} {gn gs gg : Nat → Int32} {k : Nat} {fst lst m : Int} {fb : Nat → Int64} (hr : zVr v fi sz gr) (hme : me = 99 ∨ me = 115 ∨ me = 109) (hk : k < 8) (hm : -1 ≤ m ∧ m < 1000) (hl : -1 ≤ lst ∧ lst < 1000) (hV : zVo h 6 v false fi sz gr dr [zi me, .inr (26, v), .inr (30, v), .inr (34, v), .inr (35, v)]) (hT : zTal h 30 v 8000 gn gs gg) (hR : zRes h 23 v 8000 fb)
    (q : ∀ h1, zRes h1 23 v 8000 (zsO1 v sz me gn gs k fst lst m fb) → (∀ a b : Nat, ¬ (23 ≤ a ∧ a < 25 ∧ b = v) → h1 (a, b) = h (a, b)) → Q (.inl none) c s h1) : zX (d + 2) 49 0 [(0, .inr (20, v)), (1, zi (k : Int)), (2, zi fst), (3, zi lst), (4, zi m)] [] c s h Q := by
  obtain ⟨r1, r2, r3, r4⟩ := id hr
  unfold zsO1 at q
  refine r_sfone hr r1 r3 r4 hme hk hm hl hV hT hR (fun z => ?_) (fun z z2 => ?_) (fun z z2 h1 a1 a2 => ?_)
  · rw [if_neg (by omega)] at q
    exact q h hR (fun _ _ _ => rfl)
  · rw [if_neg (by omega)] at q
    exact q h hR (fun _ _ _ => rfl)
  · rw [if_pos (by omega)] at q
    exact q h1 a1 a2
set_option maxHeartbeats 4000000 in
theorem r_sfo0 {d c s : Nat} {h : xH} {Q : xR → Nat → Nat → xH → Prop} {v sz gr : Nat} {fi me : Int} {dr : Int32} {k : Nat} {m : Int} (hvr : zVr v fi sz gr) (hv : v < 5) (hsz : 1 ≤ sz ∧ sz ≤ 200) (hgr : gr ≤ 200) (hme : me = 99 ∨ me = 115 ∨ me = 109) (hk : k < 8) (H_20_v : h (20, v) = some (.inl (6, [zi (v : Int), zi (zbi false), zi fi, zi (sz : Int), zi (gr : Int), .inr (2, 0), .inr (21, v), .inr (23, v), .inr (25, v), .inl (.int dr), zi me, .inr (26, v), .inr (30, v), .inr (34, v), .inr (35, v)])))
    (k1 : zX d 48 8 [(0, .inr (20, v)), (1, zi (k : Int)), (2, zi m), (3, zi 0), (4, zi (-1)), (5, zi 0)] [] c s h Q) :
    zX d 48 0 [(0, .inr (20, v)), (1, zi (k : Int)), (2, zi m)] [] c s h Q := by
  refine zX.sn 1 (pc2 := 1) (l2 := [(0, .inr (20, v)), (1, zi (k : Int)), (2, zi m)]) (st2 := [zi 0]) rfl ?_
  refine zX.sn 1 (pc2 := 2) (l2 := [(3, zi 0), (0, .inr (20, v)), (1, zi (k : Int)), (2, zi m)]) (st2 := []) rfl ?_
  refine zX.sn 1 (pc2 := 3) (l2 := [(3, zi 0), (0, .inr (20, v)), (1, zi (k : Int)), (2, zi m)]) (st2 := [zi (-1)]) rfl ?_
  refine zX.sn 1 (pc2 := 5) (l2 := [(4, zi (-1)), (3, zi 0), (0, .inr (20, v)), (1, zi (k : Int)), (2, zi m)]) (st2 := []) rfl ?_
  refine zX.sn 1 (pc2 := 6) (l2 := [(4, zi (-1)), (3, zi 0), (0, .inr (20, v)), (1, zi (k : Int)), (2, zi m)]) (st2 := [zi 0]) rfl ?_
  refine zX.sn 1 (pc2 := 8) (l2 := [(5, zi 0), (4, zi (-1)), (3, zi 0), (0, .inr (20, v)), (1, zi (k : Int)), (2, zi m)]) (st2 := []) rfl ?_
  refine zX.re [(0, .inr (20, v)), (1, zi (k : Int)), (2, zi m), (3, zi 0), (4, zi (-1)), (5, zi 0)] [3, 4, 5, 2, 1, 0] [5, 4, 3, 0, 1, 2] rfl rfl (by decide) ?_
  exact k1

set_option maxHeartbeats 4000000 in
theorem r_sfo {d c s : Nat} {h : xH} {Q : xR → Nat → Nat → xH → Prop} {v sz gr : Nat} {fi me : Int} {dr : Int32} {gn gs gg : Nat → Int32} {k t : Nat} {fst lst m : Int} {fb : Nat → Int64} (hvr : zVr v fi sz gr) (hv : v < 5) (hsz : 1 ≤ sz ∧ sz ≤ 200) (hgr : gr ≤ 200) (hme : me = 99 ∨ me = 115 ∨ me = 109) (hk : k < 8) (hm : -1 ≤ m ∧ m < 1000) (hlst : -1 ≤ lst ∧ lst < 1000) (ht : t ≤ 1000) (hlt : lst < (t : Int)) (H_20_v : h (20, v) = some (.inl (6, [zi (v : Int), zi (zbi false), zi fi, zi (sz : Int), zi (gr : Int), .inr (2, 0), .inr (21, v), .inr (23, v), .inr (25, v), .inl (.int dr), zi me, .inr (26, v), .inr (30, v), .inr (34, v), .inr (35, v)]))) (P_again : zTal h 30 v 8000 gn gs gg) (P_found : zRes h 23 v 8000 fb)
    (k1 : (1000 ≤ (t : Int)) → ∀ h' : xH, zRes h' 23 v 8000 (zsO1 v sz me gn gs k fst lst m fb) → (∀ za zb : Nat, ¬ ((23 ≤ za ∧ za < 23 + 2 ∧ zb = v)) → h' (za, zb) = h (za, zb)) → Q (.inl none) c s h')
    (k2 : ((t : Int) < 1000) → (¬ 0 < gn ((t * 8) + k)) → zX (d + 3) 48 8 [(0, .inr (20, v)), (1, zi (k : Int)), (2, zi m), (3, zi fst), (4, zi lst), (5, zi ((t : Int) + 1))] [] c s h Q)
    (k3 : ((t : Int) < 1000) → (0 < gn ((t * 8) + k)) → (lst < 0) → ∀ h' : xH, zRes h' 23 v 8000 (zsO1 v sz me gn gs k fst lst m fb) → (∀ za zb : Nat, ¬ ((23 ≤ za ∧ za < 23 + 2 ∧ zb = v)) → h' (za, zb) = h (za, zb)) → zX (d + 3) 48 8 [(0, .inr (20, v)), (1, zi (k : Int)), (2, zi m), (3, zi (t : Int)), (4, zi (t : Int)), (5, zi ((t : Int) + 1))] [] c s h' Q)
    (k4 : ((t : Int) < 1000) → (0 < gn ((t * 8) + k)) → (0 ≤ lst) → ((sz : Int) < ((t : Int) - lst)) → ∀ h' : xH, zRes h' 23 v 8000 (zsO1 v sz me gn gs k fst lst m fb) → (∀ za zb : Nat, ¬ ((23 ≤ za ∧ za < 23 + 2 ∧ zb = v)) → h' (za, zb) = h (za, zb)) → zX (d + 3) 48 8 [(0, .inr (20, v)), (1, zi (k : Int)), (2, zi m), (3, zi (t : Int)), (4, zi (t : Int)), (5, zi ((t : Int) + 1))] [] c s h' Q)
    (k5 : ((t : Int) < 1000) → (0 < gn ((t * 8) + k)) → (0 ≤ lst) → (((t : Int) - lst) ≤ (sz : Int)) → ∀ gg4 : Nat → Int32, ∀ h' : xH, zTal h' 30 v 8000 (zaaN gn ((t * 8) + k) (lst.toNat * 8 + k)) (zaaS gn gs ((t * 8) + k) (lst.toNat * 8 + k)) (gg4) → (∀ za zb : Nat, ¬ ((30 ≤ za ∧ za < 30 + 4 ∧ zb = v)) → h' (za, zb) = h (za, zb)) → zX (d + 3) 48 8 [(0, .inr (20, v)), (1, zi (k : Int)), (2, zi m), (3, zi fst), (4, zi (t : Int)), (5, zi ((t : Int) + 1))] [] c s h' Q) :
    zX (d + 3) 48 8 [(0, .inr (20, v)), (1, zi (k : Int)), (2, zi m), (3, zi fst), (4, zi lst), (5, zi (t : Int))] [] c s h Q := by
  refine zX.sn 1 (pc2 := 10) (l2 := [(0, .inr (20, v)), (1, zi (k : Int)), (2, zi m), (3, zi fst), (4, zi lst), (5, zi (t : Int))]) (st2 := [zi (t : Int)]) rfl ?_
  refine zX.sn 1 (pc2 := 13) (l2 := [(0, .inr (20, v)), (1, zi (k : Int)), (2, zi m), (3, zi fst), (4, zi lst), (5, zi (t : Int))]) (st2 := [zi 1000, zi (t : Int)]) rfl ?_
  refine zX.icmp (tgt := 93) ⟨rfl, rfl⟩ rfl (by omega) (by omega) (fun (e1 : 1000 ≤ (t : Int)) => ?_) (fun (e1 : (t : Int) < 1000) => ?_)
  · refine zX.sn 1 (pc2 := 94) (l2 := [(0, .inr (20, v)), (1, zi (k : Int)), (2, zi m), (3, zi fst), (4, zi lst), (5, zi (t : Int))]) (st2 := [.inr (20, v)]) rfl ?_
    refine zX.sn 1 (pc2 := 95) (l2 := [(0, .inr (20, v)), (1, zi (k : Int)), (2, zi m), (3, zi fst), (4, zi lst), (5, zi (t : Int))]) (st2 := [zi (k : Int), .inr (20, v)]) rfl ?_
    refine zX.sn 1 (pc2 := 96) (l2 := [(0, .inr (20, v)), (1, zi (k : Int)), (2, zi m), (3, zi fst), (4, zi lst), (5, zi (t : Int))]) (st2 := [zi fst, zi (k : Int), .inr (20, v)]) rfl ?_
    refine zX.sn 1 (pc2 := 98) (l2 := [(0, .inr (20, v)), (1, zi (k : Int)), (2, zi m), (3, zi fst), (4, zi lst), (5, zi (t : Int))]) (st2 := [zi lst, zi fst, zi (k : Int), .inr (20, v)]) rfl ?_
    refine zX.sn 1 (pc2 := 99) (l2 := [(0, .inr (20, v)), (1, zi (k : Int)), (2, zi m), (3, zi fst), (4, zi lst), (5, zi (t : Int))]) (st2 := [zi m, zi lst, zi fst, zi (k : Int), .inr (20, v)]) rfl ?_
    refine zX.call (mid2 := 49) (as := [.inr (20, v), zi (k : Int), zi fst, zi lst, zi m]) (rest := []) ⟨rfl, rfl⟩ (fun _ => rfl) (zX.inv rfl H_20_v rfl rfl) ⟨Nat.le_of_ble_eq_true rfl, Nat.le_of_ble_eq_true rfl⟩ ?_
    refine s_sfone (k := k) hvr hme (by omega) (by omega) (by omega) (show zVo _ 6 v false fi sz gr _ [zi me, .inr (26, v), .inr (30, v), .inr (34, v), .inr (35, v)] from H_20_v) P_again P_found  (fun h1 hv1 hF1 => ?_)
    show zX _ 48 102 [(0, .inr (20, v)), (1, zi (k : Int)), (2, zi m), (3, zi fst), (4, zi lst), (5, zi (t : Int))] [] c s _ _
    refine zX.ret rfl rfl ?_
    exact k1 e1 _ hv1 (fun za zb hn => ((hF1 za zb (by omega)).trans rfl))
  · refine zX.sn 1 (pc2 := 18) (l2 := [(0, .inr (20, v)), (1, zi (k : Int)), (2, zi m), (3, zi fst), (4, zi lst), (5, zi (t : Int))]) (st2 := [zi (t : Int)]) rfl ?_
    refine zX.sn 1 (pc2 := 19) (l2 := [(0, .inr (20, v)), (1, zi (k : Int)), (2, zi m), (3, zi fst), (4, zi lst), (5, zi (t : Int))]) (st2 := [zi (k : Int), zi (t : Int)]) rfl ?_
    refine zX.call (mid2 := 36) (as := [zi (t : Int), zi (k : Int)]) (rest := []) ⟨rfl, rfl⟩ (fun _ => rfl) rfl ⟨Nat.le_of_ble_eq_true rfl, Nat.le_of_ble_eq_true rfl⟩ ?_
    show zX _ 36 0 [(0, zi (t : Int)), (1, zi (k : Int))] [] c s _ _
    refine zX.sn 1 (pc2 := 1) (l2 := [(0, zi (t : Int)), (1, zi (k : Int))]) (st2 := [zi (t : Int)]) rfl ?_
    refine zX.sn 1 (pc2 := 3) (l2 := [(0, zi (t : Int)), (1, zi (k : Int))]) (st2 := [zi 8, zi (t : Int)]) rfl ?_
    refine zX.imul ⟨rfl, rfl⟩ ?_
    refine zX.sn 1 (pc2 := 5) (l2 := [(0, zi (t : Int)), (1, zi (k : Int))]) (st2 := [zi (k : Int), zi ((t : Int) * 8)]) rfl ?_
    refine zX.iadd ⟨rfl, rfl⟩ ?_
    refine zX.ret rfl rfl ?_
    show zX _ 48 22 [(0, .inr (20, v)), (1, zi (k : Int)), (2, zi m), (3, zi fst), (4, zi lst), (5, zi (t : Int))] [zi (((t : Int) * 8) + (k : Int))] c s _ _
    refine zX.sn 1 (pc2 := 24) (l2 := [(6, zi (((t : Int) * 8) + (k : Int))), (0, .inr (20, v)), (1, zi (k : Int)), (2, zi m), (3, zi fst), (4, zi lst), (5, zi (t : Int))]) (st2 := []) rfl ?_
    refine zX.sn 1 (pc2 := 25) (l2 := [(6, zi (((t : Int) * 8) + (k : Int))), (0, .inr (20, v)), (1, zi (k : Int)), (2, zi m), (3, zi fst), (4, zi lst), (5, zi (t : Int))]) (st2 := [.inr (20, v)]) rfl ?_
    refine zX.getf ⟨rfl, rfl⟩ H_20_v rfl rfl ?_
    refine zX.sn 1 (pc2 := 30) (l2 := [(6, zi (((t : Int) * 8) + (k : Int))), (0, .inr (20, v)), (1, zi (k : Int)), (2, zi m), (3, zi fst), (4, zi lst), (5, zi (t : Int))]) (st2 := [zi (((t : Int) * 8) + (k : Int)), .inr (30, v)]) rfl ?_
    refine zX.call (mid2 := 53) (as := [.inr (30, v), zi (((t : Int) * 8) + (k : Int))]) (rest := []) ⟨rfl, rfl⟩ (fun _ => rfl) (zX.inv rfl (P_again.1) rfl rfl) ⟨Nat.le_of_ble_eq_true rfl, Nat.le_of_ble_eq_true rfl⟩ ?_
    refine s_has (k := ((t * 8) + k)) (by omega) (by omega) (by omega) (by omega) P_again (fun (e2 : ¬ 0 < gn ((t * 8) + k)) => ?_) (fun (e2 : 0 < gn ((t * 8) + k)) => ?_)
    · show zX _ 48 33 [(6, zi (((t : Int) * 8) + (k : Int))), (0, .inr (20, v)), (1, zi (k : Int)), (2, zi m), (3, zi fst), (4, zi lst), (5, zi (t : Int))] [zi 0] c s _ _
      refine zX.icmp0 (tgt := 87) ⟨rfl, rfl⟩ rfl (by omega) (fun (e3 : 0 = 0) => ?_) (fun (zz : ¬ 0 = 0) => absurd zz (by omega))
      refine zX.s1 (pc2 := 90) (l2 := [(5, zi ((t : Int) + 1)), (6, zi (((t : Int) * 8) + (k : Int))), (0, .inr (20, v)), (1, zi (k : Int)), (2, zi m), (3, zi fst), (4, zi lst)]) (st2 := []) ⟨rfl, rfl⟩ (by rw [show (zi ((t : Int) + 1) : xV) = .inl (.int (Int32.ofInt (t : Int) + 1)) from congrArg (fun z => (.inl (.int z) : xV)) (Int32.ofInt_add _ _)]; rfl) ?_
      refine zX.sn 1 (pc2 := 8) (l2 := [(5, zi ((t : Int) + 1)), (6, zi (((t : Int) * 8) + (k : Int))), (0, .inr (20, v)), (1, zi (k : Int)), (2, zi m), (3, zi fst), (4, zi lst)]) (st2 := []) rfl ?_
      refine zX.re [(0, .inr (20, v)), (1, zi (k : Int)), (2, zi m), (3, zi fst), (4, zi lst), (5, zi ((t : Int) + 1))] [2, 3, 4, 5, 6, 0] [5, 6, 0, 1, 2, 3, 4] rfl rfl (by decide) ?_
      exact k2 e1 e2
    · show zX _ 48 33 [(6, zi (((t : Int) * 8) + (k : Int))), (0, .inr (20, v)), (1, zi (k : Int)), (2, zi m), (3, zi fst), (4, zi lst), (5, zi (t : Int))] [zi 1] c s _ _
      refine zX.icmp0 (tgt := 87) ⟨rfl, rfl⟩ rfl (by omega) (fun (zz : 1 = 0) => absurd zz (by omega)) (fun (e4 : ¬ 1 = 0) => ?_)
      refine zX.sn 1 (pc2 := 38) (l2 := [(6, zi (((t : Int) * 8) + (k : Int))), (0, .inr (20, v)), (1, zi (k : Int)), (2, zi m), (3, zi fst), (4, zi lst), (5, zi (t : Int))]) (st2 := [zi lst]) rfl ?_
      refine zX.icmp0 (tgt := 71) ⟨rfl, rfl⟩ rfl (by omega) (fun (e5 : lst < 0) => ?_) (fun (e5 : 0 ≤ lst) => ?_)
      · refine zX.sn 1 (pc2 := 72) (l2 := [(6, zi (((t : Int) * 8) + (k : Int))), (0, .inr (20, v)), (1, zi (k : Int)), (2, zi m), (3, zi fst), (4, zi lst), (5, zi (t : Int))]) (st2 := [.inr (20, v)]) rfl ?_
        refine zX.sn 1 (pc2 := 73) (l2 := [(6, zi (((t : Int) * 8) + (k : Int))), (0, .inr (20, v)), (1, zi (k : Int)), (2, zi m), (3, zi fst), (4, zi lst), (5, zi (t : Int))]) (st2 := [zi (k : Int), .inr (20, v)]) rfl ?_
        refine zX.sn 1 (pc2 := 74) (l2 := [(6, zi (((t : Int) * 8) + (k : Int))), (0, .inr (20, v)), (1, zi (k : Int)), (2, zi m), (3, zi fst), (4, zi lst), (5, zi (t : Int))]) (st2 := [zi fst, zi (k : Int), .inr (20, v)]) rfl ?_
        refine zX.sn 1 (pc2 := 76) (l2 := [(6, zi (((t : Int) * 8) + (k : Int))), (0, .inr (20, v)), (1, zi (k : Int)), (2, zi m), (3, zi fst), (4, zi lst), (5, zi (t : Int))]) (st2 := [zi lst, zi fst, zi (k : Int), .inr (20, v)]) rfl ?_
        refine zX.sn 1 (pc2 := 77) (l2 := [(6, zi (((t : Int) * 8) + (k : Int))), (0, .inr (20, v)), (1, zi (k : Int)), (2, zi m), (3, zi fst), (4, zi lst), (5, zi (t : Int))]) (st2 := [zi m, zi lst, zi fst, zi (k : Int), .inr (20, v)]) rfl ?_
        refine zX.call (mid2 := 49) (as := [.inr (20, v), zi (k : Int), zi fst, zi lst, zi m]) (rest := []) ⟨rfl, rfl⟩ (fun _ => rfl) (zX.inv rfl H_20_v rfl rfl) ⟨Nat.le_of_ble_eq_true rfl, Nat.le_of_ble_eq_true rfl⟩ ?_
        refine s_sfone (k := k) hvr hme (by omega) (by omega) (by omega) (show zVo _ 6 v false fi sz gr _ [zi me, .inr (26, v), .inr (30, v), .inr (34, v), .inr (35, v)] from H_20_v) P_again P_found  (fun h2 hv2 hF2 => ?_)
        show zX _ 48 80 [(6, zi (((t : Int) * 8) + (k : Int))), (0, .inr (20, v)), (1, zi (k : Int)), (2, zi m), (3, zi fst), (4, zi lst), (5, zi (t : Int))] [] c s _ _
        refine zX.sn 1 (pc2 := 82) (l2 := [(6, zi (((t : Int) * 8) + (k : Int))), (0, .inr (20, v)), (1, zi (k : Int)), (2, zi m), (3, zi fst), (4, zi lst), (5, zi (t : Int))]) (st2 := [zi (t : Int)]) rfl ?_
        refine zX.sn 1 (pc2 := 83) (l2 := [(3, zi (t : Int)), (6, zi (((t : Int) * 8) + (k : Int))), (0, .inr (20, v)), (1, zi (k : Int)), (2, zi m), (4, zi lst), (5, zi (t : Int))]) (st2 := []) rfl ?_
        refine zX.sn 1 (pc2 := 85) (l2 := [(3, zi (t : Int)), (6, zi (((t : Int) * 8) + (k : Int))), (0, .inr (20, v)), (1, zi (k : Int)), (2, zi m), (4, zi lst), (5, zi (t : Int))]) (st2 := [zi (t : Int)]) rfl ?_
        refine zX.sn 1 (pc2 := 87) (l2 := [(4, zi (t : Int)), (3, zi (t : Int)), (6, zi (((t : Int) * 8) + (k : Int))), (0, .inr (20, v)), (1, zi (k : Int)), (2, zi m), (5, zi (t : Int))]) (st2 := []) rfl ?_
        refine zX.s1 (pc2 := 90) (l2 := [(5, zi ((t : Int) + 1)), (4, zi (t : Int)), (3, zi (t : Int)), (6, zi (((t : Int) * 8) + (k : Int))), (0, .inr (20, v)), (1, zi (k : Int)), (2, zi m)]) (st2 := []) ⟨rfl, rfl⟩ (by rw [show (zi ((t : Int) + 1) : xV) = .inl (.int (Int32.ofInt (t : Int) + 1)) from congrArg (fun z => (.inl (.int z) : xV)) (Int32.ofInt_add _ _)]; rfl) ?_
        refine zX.sn 1 (pc2 := 8) (l2 := [(5, zi ((t : Int) + 1)), (4, zi (t : Int)), (3, zi (t : Int)), (6, zi (((t : Int) * 8) + (k : Int))), (0, .inr (20, v)), (1, zi (k : Int)), (2, zi m)]) (st2 := []) rfl ?_
        refine zX.re [(0, .inr (20, v)), (1, zi (k : Int)), (2, zi m), (3, zi (t : Int)), (4, zi (t : Int)), (5, zi ((t : Int) + 1))] [4, 5, 6, 2, 1, 0] [5, 4, 3, 6, 0, 1, 2] rfl rfl (by decide) ?_
        exact k3 e1 e2 e5 _ hv2 (fun za zb hn => ((hF2 za zb (by omega)).trans rfl))
      · refine zX.sn 1 (pc2 := 43) (l2 := [(6, zi (((t : Int) * 8) + (k : Int))), (0, .inr (20, v)), (1, zi (k : Int)), (2, zi m), (3, zi fst), (4, zi lst), (5, zi (t : Int))]) (st2 := [zi (t : Int)]) rfl ?_
        refine zX.sn 1 (pc2 := 45) (l2 := [(6, zi (((t : Int) * 8) + (k : Int))), (0, .inr (20, v)), (1, zi (k : Int)), (2, zi m), (3, zi fst), (4, zi lst), (5, zi (t : Int))]) (st2 := [zi lst, zi (t : Int)]) rfl ?_
        refine zX.isub ⟨rfl, rfl⟩ ?_
        refine zX.sn 1 (pc2 := 47) (l2 := [(6, zi (((t : Int) * 8) + (k : Int))), (0, .inr (20, v)), (1, zi (k : Int)), (2, zi m), (3, zi fst), (4, zi lst), (5, zi (t : Int))]) (st2 := [.inr (20, v), zi ((t : Int) - lst)]) rfl ?_
        refine zX.getf ⟨rfl, rfl⟩ H_20_v rfl rfl ?_
        refine zX.icmp (tgt := 71) ⟨rfl, rfl⟩ rfl (by omega) (by omega) (fun (e6 : (sz : Int) < ((t : Int) - lst)) => ?_) (fun (e6 : ((t : Int) - lst) ≤ (sz : Int)) => ?_)
        · refine zX.sn 1 (pc2 := 72) (l2 := [(6, zi (((t : Int) * 8) + (k : Int))), (0, .inr (20, v)), (1, zi (k : Int)), (2, zi m), (3, zi fst), (4, zi lst), (5, zi (t : Int))]) (st2 := [.inr (20, v)]) rfl ?_
          refine zX.sn 1 (pc2 := 73) (l2 := [(6, zi (((t : Int) * 8) + (k : Int))), (0, .inr (20, v)), (1, zi (k : Int)), (2, zi m), (3, zi fst), (4, zi lst), (5, zi (t : Int))]) (st2 := [zi (k : Int), .inr (20, v)]) rfl ?_
          refine zX.sn 1 (pc2 := 74) (l2 := [(6, zi (((t : Int) * 8) + (k : Int))), (0, .inr (20, v)), (1, zi (k : Int)), (2, zi m), (3, zi fst), (4, zi lst), (5, zi (t : Int))]) (st2 := [zi fst, zi (k : Int), .inr (20, v)]) rfl ?_
          refine zX.sn 1 (pc2 := 76) (l2 := [(6, zi (((t : Int) * 8) + (k : Int))), (0, .inr (20, v)), (1, zi (k : Int)), (2, zi m), (3, zi fst), (4, zi lst), (5, zi (t : Int))]) (st2 := [zi lst, zi fst, zi (k : Int), .inr (20, v)]) rfl ?_
          refine zX.sn 1 (pc2 := 77) (l2 := [(6, zi (((t : Int) * 8) + (k : Int))), (0, .inr (20, v)), (1, zi (k : Int)), (2, zi m), (3, zi fst), (4, zi lst), (5, zi (t : Int))]) (st2 := [zi m, zi lst, zi fst, zi (k : Int), .inr (20, v)]) rfl ?_
          refine zX.call (mid2 := 49) (as := [.inr (20, v), zi (k : Int), zi fst, zi lst, zi m]) (rest := []) ⟨rfl, rfl⟩ (fun _ => rfl) (zX.inv rfl H_20_v rfl rfl) ⟨Nat.le_of_ble_eq_true rfl, Nat.le_of_ble_eq_true rfl⟩ ?_
          refine s_sfone (k := k) hvr hme (by omega) (by omega) (by omega) (show zVo _ 6 v false fi sz gr _ [zi me, .inr (26, v), .inr (30, v), .inr (34, v), .inr (35, v)] from H_20_v) P_again P_found  (fun h3 hv3 hF3 => ?_)
          show zX _ 48 80 [(6, zi (((t : Int) * 8) + (k : Int))), (0, .inr (20, v)), (1, zi (k : Int)), (2, zi m), (3, zi fst), (4, zi lst), (5, zi (t : Int))] [] c s _ _
          refine zX.sn 1 (pc2 := 82) (l2 := [(6, zi (((t : Int) * 8) + (k : Int))), (0, .inr (20, v)), (1, zi (k : Int)), (2, zi m), (3, zi fst), (4, zi lst), (5, zi (t : Int))]) (st2 := [zi (t : Int)]) rfl ?_
          refine zX.sn 1 (pc2 := 83) (l2 := [(3, zi (t : Int)), (6, zi (((t : Int) * 8) + (k : Int))), (0, .inr (20, v)), (1, zi (k : Int)), (2, zi m), (4, zi lst), (5, zi (t : Int))]) (st2 := []) rfl ?_
          refine zX.sn 1 (pc2 := 85) (l2 := [(3, zi (t : Int)), (6, zi (((t : Int) * 8) + (k : Int))), (0, .inr (20, v)), (1, zi (k : Int)), (2, zi m), (4, zi lst), (5, zi (t : Int))]) (st2 := [zi (t : Int)]) rfl ?_
          refine zX.sn 1 (pc2 := 87) (l2 := [(4, zi (t : Int)), (3, zi (t : Int)), (6, zi (((t : Int) * 8) + (k : Int))), (0, .inr (20, v)), (1, zi (k : Int)), (2, zi m), (5, zi (t : Int))]) (st2 := []) rfl ?_
          refine zX.s1 (pc2 := 90) (l2 := [(5, zi ((t : Int) + 1)), (4, zi (t : Int)), (3, zi (t : Int)), (6, zi (((t : Int) * 8) + (k : Int))), (0, .inr (20, v)), (1, zi (k : Int)), (2, zi m)]) (st2 := []) ⟨rfl, rfl⟩ (by rw [show (zi ((t : Int) + 1) : xV) = .inl (.int (Int32.ofInt (t : Int) + 1)) from congrArg (fun z => (.inl (.int z) : xV)) (Int32.ofInt_add _ _)]; rfl) ?_
          refine zX.sn 1 (pc2 := 8) (l2 := [(5, zi ((t : Int) + 1)), (4, zi (t : Int)), (3, zi (t : Int)), (6, zi (((t : Int) * 8) + (k : Int))), (0, .inr (20, v)), (1, zi (k : Int)), (2, zi m)]) (st2 := []) rfl ?_
          refine zX.re [(0, .inr (20, v)), (1, zi (k : Int)), (2, zi m), (3, zi (t : Int)), (4, zi (t : Int)), (5, zi ((t : Int) + 1))] [4, 5, 6, 2, 1, 0] [5, 4, 3, 6, 0, 1, 2] rfl rfl (by decide) ?_
          exact k4 e1 e2 e5 e6 _ hv3 (fun za zb hn => ((hF3 za zb (by omega)).trans rfl))
        · refine zX.sn 1 (pc2 := 54) (l2 := [(6, zi (((t : Int) * 8) + (k : Int))), (0, .inr (20, v)), (1, zi (k : Int)), (2, zi m), (3, zi fst), (4, zi lst), (5, zi (t : Int))]) (st2 := [.inr (20, v)]) rfl ?_
          refine zX.getf ⟨rfl, rfl⟩ H_20_v rfl rfl ?_
          refine zX.sn 1 (pc2 := 59) (l2 := [(6, zi (((t : Int) * 8) + (k : Int))), (0, .inr (20, v)), (1, zi (k : Int)), (2, zi m), (3, zi fst), (4, zi lst), (5, zi (t : Int))]) (st2 := [zi (((t : Int) * 8) + (k : Int)), .inr (30, v)]) rfl ?_
          refine zX.sn 1 (pc2 := 61) (l2 := [(6, zi (((t : Int) * 8) + (k : Int))), (0, .inr (20, v)), (1, zi (k : Int)), (2, zi m), (3, zi fst), (4, zi lst), (5, zi (t : Int))]) (st2 := [zi lst, zi (((t : Int) * 8) + (k : Int)), .inr (30, v)]) rfl ?_
          refine zX.sn 1 (pc2 := 62) (l2 := [(6, zi (((t : Int) * 8) + (k : Int))), (0, .inr (20, v)), (1, zi (k : Int)), (2, zi m), (3, zi fst), (4, zi lst), (5, zi (t : Int))]) (st2 := [zi (k : Int), zi lst, zi (((t : Int) * 8) + (k : Int)), .inr (30, v)]) rfl ?_
          refine zX.call (mid2 := 36) (as := [zi lst, zi (k : Int)]) (rest := [zi (((t : Int) * 8) + (k : Int)), .inr (30, v)]) ⟨rfl, rfl⟩ (fun _ => rfl) rfl ⟨Nat.le_of_ble_eq_true rfl, Nat.le_of_ble_eq_true rfl⟩ ?_
          show zX _ 36 0 [(0, zi lst), (1, zi (k : Int))] [] c s _ _
          refine zX.sn 1 (pc2 := 1) (l2 := [(0, zi lst), (1, zi (k : Int))]) (st2 := [zi lst]) rfl ?_
          refine zX.sn 1 (pc2 := 3) (l2 := [(0, zi lst), (1, zi (k : Int))]) (st2 := [zi 8, zi lst]) rfl ?_
          refine zX.imul ⟨rfl, rfl⟩ ?_
          refine zX.sn 1 (pc2 := 5) (l2 := [(0, zi lst), (1, zi (k : Int))]) (st2 := [zi (k : Int), zi (lst * 8)]) rfl ?_
          refine zX.iadd ⟨rfl, rfl⟩ ?_
          refine zX.ret rfl rfl ?_
          show zX _ 48 65 [(6, zi (((t : Int) * 8) + (k : Int))), (0, .inr (20, v)), (1, zi (k : Int)), (2, zi m), (3, zi fst), (4, zi lst), (5, zi (t : Int))] [zi ((lst * 8) + (k : Int)), zi (((t : Int) * 8) + (k : Int)), .inr (30, v)] c s _ _
          refine zX.call (mid2 := 55) (as := [.inr (30, v), zi (((t : Int) * 8) + (k : Int)), zi ((lst * 8) + (k : Int))]) (rest := []) ⟨rfl, rfl⟩ (fun _ => rfl) (zX.inv rfl (P_again.1) rfl rfl) ⟨Nat.le_of_ble_eq_true rfl, Nat.le_of_ble_eq_true rfl⟩ ?_
          refine s_tall2 (k := ((t * 8) + k)) (j := (lst.toNat * 8 + k)) (by omega) (by omega) (by omega) (by omega) (by omega) (by omega) P_again  (fun h4 gg4 hv4 hF4 => ?_)
          show zX _ 48 68 [(6, zi (((t : Int) * 8) + (k : Int))), (0, .inr (20, v)), (1, zi (k : Int)), (2, zi m), (3, zi fst), (4, zi lst), (5, zi (t : Int))] [] c s _ _
          refine zX.sn 1 (pc2 := 83) (l2 := [(6, zi (((t : Int) * 8) + (k : Int))), (0, .inr (20, v)), (1, zi (k : Int)), (2, zi m), (3, zi fst), (4, zi lst), (5, zi (t : Int))]) (st2 := []) rfl ?_
          refine zX.sn 1 (pc2 := 85) (l2 := [(6, zi (((t : Int) * 8) + (k : Int))), (0, .inr (20, v)), (1, zi (k : Int)), (2, zi m), (3, zi fst), (4, zi lst), (5, zi (t : Int))]) (st2 := [zi (t : Int)]) rfl ?_
          refine zX.sn 1 (pc2 := 87) (l2 := [(4, zi (t : Int)), (6, zi (((t : Int) * 8) + (k : Int))), (0, .inr (20, v)), (1, zi (k : Int)), (2, zi m), (3, zi fst), (5, zi (t : Int))]) (st2 := []) rfl ?_
          refine zX.s1 (pc2 := 90) (l2 := [(5, zi ((t : Int) + 1)), (4, zi (t : Int)), (6, zi (((t : Int) * 8) + (k : Int))), (0, .inr (20, v)), (1, zi (k : Int)), (2, zi m), (3, zi fst)]) (st2 := []) ⟨rfl, rfl⟩ (by rw [show (zi ((t : Int) + 1) : xV) = .inl (.int (Int32.ofInt (t : Int) + 1)) from congrArg (fun z => (.inl (.int z) : xV)) (Int32.ofInt_add _ _)]; rfl) ?_
          refine zX.sn 1 (pc2 := 8) (l2 := [(5, zi ((t : Int) + 1)), (4, zi (t : Int)), (6, zi (((t : Int) * 8) + (k : Int))), (0, .inr (20, v)), (1, zi (k : Int)), (2, zi m), (3, zi fst)]) (st2 := []) rfl ?_
          refine zX.re [(0, .inr (20, v)), (1, zi (k : Int)), (2, zi m), (3, zi fst), (4, zi (t : Int)), (5, zi ((t : Int) + 1))] [3, 4, 5, 6, 1, 0] [5, 4, 6, 0, 1, 2, 3] rfl rfl (by decide) ?_
          exact k5 e1 e2 e5 e6 gg4 _ hv4 (fun za zb hn => ((hF4 za zb (by omega)).trans rfl))

end ZR64
