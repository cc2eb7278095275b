set_option maxRecDepth 100000
section ZR82
set_option maxHeartbeats 4000000 in
theorem r_bw {d c s : Nat} {h : xH} {Q : xR → Nat → Nat → xH → Prop} {v sz gr L : Nat} {fi me : Int} {dr : Int32} {sp : Nat} {wi : Int} {hd : Nat → Int32} {fa : Nat → Int64} {L2 : Nat} {fn fs fg : Nat → Int32} (hvr : zVr v fi sz gr) (hv : v < 5) (hsz : 1 ≤ sz ∧ sz ≤ 200) (hgr : gr ≤ 200) (hhd : ∀ t, 8 ≤ t → hd t = 0) (hL : L ≤ 67108864) (hL2 : L2 ≤ 67108864) (H_20_v : h (20, v) = some (.inl (9, [zi (v : Int), zi (zbi false), zi fi, zi (sz : Int), zi (gr : Int), .inr (2, 0), .inr (21, v), .inr (23, v), .inr (25, v), .inl (.int dr), zi me, zi (sp : Int), zi wi, .inr (26, v), .inr (30, v)]))) (H_25_v : h (25, v) = some (.inr (0, 8, zI hd))) (P_told : zRes h 21 v L fa) (P_rows : zTal h 26 v L2 fn fs fg)
    (k1 : ∀ h' : xH, h' (25, v) = some (.inr (0, 8, zI (fun _ => 0))) → h' (20, v) = some (.inl (9, [zi (v : Int), zi (zbi false), zi fi, zi (sz : Int), zi (gr : Int), .inr (2, 0), .inr (21, v), .inr (23, v), .inr (25, v), zi 0, zi me, zi (sp : Int), zi wi, .inr (26, v), .inr (30, v)])) → zRes h' 21 v L (fun _ => 0) → zTal h' 26 v L2 (fun _ => 0) (fun _ => 0) (fun _ => 0) → (∀ za zb : Nat, ¬ ((za = 25 ∧ zb = v) ∨ (za = 20 ∧ zb = v) ∨ (21 ≤ za ∧ za < 21 + 2 ∧ zb = v) ∨ (26 ≤ za ∧ za < 26 + 4 ∧ zb = v)) → h' (za, zb) = h (za, zb)) → Q (.inl none) c s h') :
    zX (d + 3) 76 0 [(0, .inr (20, v))] [] c s h Q := by
  refine zX.sn 1 (pc2 := 1) (l2 := [(0, .inr (20, v))]) (st2 := [.inr (20, v)]) rfl ?_
  refine zX.getf ⟨rfl, rfl⟩ H_20_v rfl rfl ?_
  refine zX.call (mid2 := 26) (as := [.inr (21, v)]) (rest := []) ⟨rfl, rfl⟩ (fun _ => rfl) (zX.inv rfl (P_told.1) rfl rfl) ⟨Nat.le_of_ble_eq_true rfl, Nat.le_of_ble_eq_true rfl⟩ ?_
  refine s_rclr (by omega) (by omega) P_told (fun h1 hv1 hF1 => ?_)
  show zX _ 76 7 [(0, .inr (20, v))] [] c s _ _
  refine zX.sn 1 (pc2 := 8) (l2 := [(0, .inr (20, v))]) (st2 := [.inr (20, v)]) rfl ?_
  refine zX.getf ⟨rfl, rfl⟩ ((hF1 20 v (by omega)).trans H_20_v) rfl rfl ?_
  refine zX.sn 1 (pc2 := 12) (l2 := [(0, .inr (20, v))]) (st2 := [zi 0, .inr (25, v)]) rfl ?_
  refine zX.call (mid2 := 160) (as := [.inr (25, v), zi 0]) (rest := []) ⟨rfl, rfl⟩ (fun _ => rfl) rfl ⟨Nat.le_of_ble_eq_true rfl, Nat.le_of_ble_eq_true rfl⟩ ?_
  refine s_fillI (by omega) (by omega) hhd ((hF1 25 v (by omega)).trans H_25_v) (fun h2 hv2 hF2 => ?_)
  show zX _ 76 15 [(0, .inr (20, v))] [] c s _ _
  refine zX.sn 1 (pc2 := 16) (l2 := [(0, .inr (20, v))]) (st2 := [.inr (20, v)]) rfl ?_
  refine zX.sn 1 (pc2 := 17) (l2 := [(0, .inr (20, v))]) (st2 := [zi 0, .inr (20, v)]) rfl ?_
  refine zX.putf ⟨rfl, rfl⟩ ((hF2 20 v (by omega)).trans ((hF1 20 v (by omega)).trans H_20_v)) rfl (by omega) rfl ?_
  show zX _ 76 20 [(0, .inr (20, v))] [] c s (xup h2 (20, v) (.inl (9, [zi (v : Int), zi (zbi false), zi fi, zi (sz : Int), zi (gr : Int), .inr (2, 0), .inr (21, v), .inr (23, v), .inr (25, v), zi 0, zi me, zi (sp : Int), zi wi, .inr (26, v), .inr (30, v)]))) _
  refine zX.sn 1 (pc2 := 21) (l2 := [(0, .inr (20, v))]) (st2 := [.inr (20, v)]) rfl ?_
  refine zX.call (mid2 := 98) (as := [.inr (20, v)]) (rest := []) ⟨rfl, rfl⟩ (fun _ => rfl) (zX.inv rfl zup_s rfl rfl) ⟨Nat.le_of_ble_eq_true rfl, Nat.le_of_ble_eq_true rfl⟩ ?_
  show zX _ 98 0 [(0, .inr (20, v))] [] c s _ _
  refine zX.sn 1 (pc2 := 1) (l2 := [(0, .inr (20, v))]) (st2 := [.inr (20, v)]) rfl ?_
  refine zX.getf ⟨rfl, rfl⟩ zup_s rfl rfl ?_
  refine zX.call (mid2 := 57) (as := [.inr (26, v)]) (rest := []) ⟨rfl, rfl⟩ (fun _ => rfl) (zX.inv rfl ((zTal.fr P_rows (fun za zb hi => (zup_n (zn (by omega)) ((hF2 za zb (by omega)).trans ((hF1 za zb (by omega)).trans rfl))))).1) rfl rfl) ⟨Nat.le_of_ble_eq_true rfl, Nat.le_of_ble_eq_true rfl⟩ ?_
  refine s_tclrA (by omega) (by omega) (zTal.fr P_rows (fun za zb hi => (zup_n (zn (by omega)) ((hF2 za zb (by omega)).trans ((hF1 za zb (by omega)).trans rfl))))) (fun h3 hv3 hF3 => ?_)
  show zX _ 98 7 [(0, .inr (20, v))] [] c s _ _
  refine zX.ret rfl rfl ?_
  show zX _ 76 24 [(0, .inr (20, v))] [] c s _ _
  refine zX.ret rfl rfl ?_
  exact k1 _ ((hF3 25 v (by omega)).trans (zup_n (zn (by omega)) hv2)) ((hF3 20 v (by omega)).trans zup_s) (zRes.fr hv1 (fun za zb hi => ((hF3 za zb (by omega)).trans (zup_n (zn (by omega)) ((hF2 za zb (by omega)).trans rfl))))) hv3 (fun za zb hn => ((hF3 za zb (by omega)).trans (zup_n (zn (by omega)) ((hF2 za zb (by omega)).trans ((hF1 za zb (by omega)).trans rfl)))))

set_option maxHeartbeats 4000000 in
theorem r_bs {d c s : Nat} {h : xH} {Q : xR → Nat → Nat → xH → Prop} {v sz gr L : Nat} {fi me : Int} {dr : Int32} {hd : Nat → Int32} {fa : Nat → Int64} {L2 : Nat} {fn fs fg : Nat → Int32} (hvr : zVr v fi sz gr) (hv : v < 5) (hsz : 1 ≤ sz ∧ sz ≤ 200) (hgr : gr ≤ 200) (hhd : ∀ t, 8 ≤ t → hd t = 0) (hL : L ≤ 67108864) (hL2 : L2 ≤ 67108864) (H_20_v : h (20, v) = some (.inl (6, [zi (v : Int), zi (zbi false), zi fi, zi (sz : Int), zi (gr : Int), .inr (2, 0), .inr (21, v), .inr (23, v), .inr (25, v), .inl (.int dr), zi me, .inr (26, v), .inr (30, v), .inr (34, v), .inr (35, v)]))) (H_25_v : h (25, v) = some (.inr (0, 8, zI hd))) (P_told : zRes h 21 v L fa) (P_rows : zTal h 26 v L2 fn fs fg)
    (k1 : ∀ h' : xH, h' (25, v) = some (.inr (0, 8, zI (fun _ => 0))) → h' (20, v) = some (.inl (6, [zi (v : Int), zi (zbi false), zi fi, zi (sz : Int), zi (gr : Int), .inr (2, 0), .inr (21, v), .inr (23, v), .inr (25, v), zi 0, zi me, .inr (26, v), .inr (30, v), .inr (34, v), .inr (35, v)])) → zRes h' 21 v L (fun _ => 0) → zTal h' 26 v L2 (fun _ => 0) (fun _ => 0) (fun _ => 0) → (∀ za zb : Nat, ¬ ((za = 25 ∧ zb = v) ∨ (za = 20 ∧ zb = v) ∨ (21 ≤ za ∧ za < 21 + 2 ∧ zb = v) ∨ (26 ≤ za ∧ za < 26 + 4 ∧ zb = v)) → h' (za, zb) = h (za, zb)) → Q (.inl none) c s h') :
    zX (d + 3) 76 0 [(0, .inr (20, v))] [] c s h Q := by
  refine zX.sn 1 (pc2 := 1) (l2 := [(0, .inr (20, v))]) (st2 := [.inr (20, v)]) rfl ?_
  refine zX.getf ⟨rfl, rfl⟩ H_20_v rfl rfl ?_
  refine zX.call (mid2 := 26) (as := [.inr (21, v)]) (rest := []) ⟨rfl, rfl⟩ (fun _ => rfl) (zX.inv rfl (P_told.1) rfl rfl) ⟨Nat.le_of_ble_eq_true rfl, Nat.le_of_ble_eq_true rfl⟩ ?_
  refine s_rclr (by omega) (by omega) P_told (fun h1 hv1 hF1 => ?_)
  show zX _ 76 7 [(0, .inr (20, v))] [] c s _ _
  refine zX.sn 1 (pc2 := 8) (l2 := [(0, .inr (20, v))]) (st2 := [.inr (20, v)]) rfl ?_
  refine zX.getf ⟨rfl, rfl⟩ ((hF1 20 v (by omega)).trans H_20_v) rfl rfl ?_
  refine zX.sn 1 (pc2 := 12) (l2 := [(0, .inr (20, v))]) (st2 := [zi 0, .inr (25, v)]) rfl ?_
  refine zX.call (mid2 := 160) (as := [.inr (25, v), zi 0]) (rest := []) ⟨rfl, rfl⟩ (fun _ => rfl) rfl ⟨Nat.le_of_ble_eq_true rfl, Nat.le_of_ble_eq_true rfl⟩ ?_
  refine s_fillI (by omega) (by omega) hhd ((hF1 25 v (by omega)).trans H_25_v) (fun h2 hv2 hF2 => ?_)
  show zX _ 76 15 [(0, .inr (20, v))] [] c s _ _
  refine zX.sn 1 (pc2 := 16) (l2 := [(0, .inr (20, v))]) (st2 := [.inr (20, v)]) rfl ?_
  refine zX.sn 1 (pc2 := 17) (l2 := [(0, .inr (20, v))]) (st2 := [zi 0, .inr (20, v)]) rfl ?_
  refine zX.putf ⟨rfl, rfl⟩ ((hF2 20 v (by omega)).trans ((hF1 20 v (by omega)).trans H_20_v)) rfl (by omega) rfl ?_
  show zX _ 76 20 [(0, .inr (20, v))] [] c s (xup h2 (20, v) (.inl (6, [zi (v : Int), zi (zbi false), zi fi, zi (sz : Int), zi (gr : Int), .inr (2, 0), .inr (21, v), .inr (23, v), .inr (25, v), zi 0, zi me, .inr (26, v), .inr (30, v), .inr (34, v), .inr (35, v)]))) _
  refine zX.sn 1 (pc2 := 21) (l2 := [(0, .inr (20, v))]) (st2 := [.inr (20, v)]) rfl ?_
  refine zX.call (mid2 := 50) (as := [.inr (20, v)]) (rest := []) ⟨rfl, rfl⟩ (fun _ => rfl) (zX.inv rfl zup_s rfl rfl) ⟨Nat.le_of_ble_eq_true rfl, Nat.le_of_ble_eq_true rfl⟩ ?_
  show zX _ 50 0 [(0, .inr (20, v))] [] c s _ _
  refine zX.sn 1 (pc2 := 1) (l2 := [(0, .inr (20, v))]) (st2 := [.inr (20, v)]) rfl ?_
  refine zX.getf ⟨rfl, rfl⟩ zup_s rfl rfl ?_
  refine zX.call (mid2 := 57) (as := [.inr (26, v)]) (rest := []) ⟨rfl, rfl⟩ (fun _ => rfl) (zX.inv rfl ((zTal.fr P_rows (fun za zb hi => (zup_n (zn (by omega)) ((hF2 za zb (by omega)).trans ((hF1 za zb (by omega)).trans rfl))))).1) rfl rfl) ⟨Nat.le_of_ble_eq_true rfl, Nat.le_of_ble_eq_true rfl⟩ ?_
  refine s_tclrA (by omega) (by omega) (zTal.fr P_rows (fun za zb hi => (zup_n (zn (by omega)) ((hF2 za zb (by omega)).trans ((hF1 za zb (by omega)).trans rfl))))) (fun h3 hv3 hF3 => ?_)
  show zX _ 50 7 [(0, .inr (20, v))] [] c s _ _
  refine zX.ret rfl rfl ?_
  show zX _ 76 24 [(0, .inr (20, v))] [] c s _ _
  refine zX.ret rfl rfl ?_
  exact k1 _ ((hF3 25 v (by omega)).trans (zup_n (zn (by omega)) hv2)) ((hF3 20 v (by omega)).trans zup_s) (zRes.fr hv1 (fun za zb hi => ((hF3 za zb (by omega)).trans (zup_n (zn (by omega)) ((hF2 za zb (by omega)).trans rfl))))) hv3 (fun za zb hn => ((hF3 za zb (by omega)).trans (zup_n (zn (by omega)) ((hF2 za zb (by omega)).trans ((hF1 za zb (by omega)).trans rfl)))))

set_option maxHeartbeats 4000000 in
theorem r_bj {d c s : Nat} {h : xH} {Q : xR → Nat → Nat → xH → Prop} {v sz gr L : Nat} {fi me : Int} {dr : Int32} {hd : Nat → Int32} {fa : Nat → Int64} {cap1 cap2 : Nat} {k1s k2s : List (Nat × Nat)} (hvr : zVr v fi sz gr) (hv : v < 5) (hsz : 1 ≤ sz ∧ sz ≤ 200) (hgr : gr ≤ 200) (hhd : ∀ t, 8 ≤ t → hd t = 0) (hL : L ≤ 67108864) (H_20_v : h (20, v) = some (.inl (2, [zi (v : Int), zi (zbi true), zi fi, zi (sz : Int), zi (gr : Int), .inr (2, 0), .inr (21, v), .inr (23, v), .inr (25, v), .inl (.int dr), .inr (36, v)]))) (H_25_v : h (25, v) = some (.inr (0, 8, zI hd))) (P_told : zRes h 21 v L fa) (P_kept : zAL h 36 v cap1 k1s)
    (k1 : ∀ h' : xH, h' (25, v) = some (.inr (0, 8, zI (fun _ => 0))) → h' (20, v) = some (.inl (2, [zi (v : Int), zi (zbi true), zi fi, zi (sz : Int), zi (gr : Int), .inr (2, 0), .inr (21, v), .inr (23, v), .inr (25, v), zi 0, .inr (36, v)])) → zRes h' 21 v L (fun _ => 0) → zAL h' 36 v cap1 ([]) → (∀ za zb : Nat, ¬ ((za = 25 ∧ zb = v) ∨ (za = 20 ∧ zb = v) ∨ (21 ≤ za ∧ za < 21 + 2 ∧ zb = v) ∨ (36 ≤ za ∧ za < 36 + 2 ∧ zb % 8 = v % 8)) → h' (za, zb) = h (za, zb)) → Q (.inl none) c s h') :
    zX (d + 2) 76 0 [(0, .inr (20, v))] [] c s h Q := by
  refine zX.sn 1 (pc2 := 1) (l2 := [(0, .inr (20, v))]) (st2 := [.inr (20, v)]) rfl ?_
  refine zX.getf ⟨rfl, rfl⟩ H_20_v rfl rfl ?_
  refine zX.call (mid2 := 26) (as := [.inr (21, v)]) (rest := []) ⟨rfl, rfl⟩ (fun _ => rfl) (zX.inv rfl (P_told.1) rfl rfl) ⟨Nat.le_of_ble_eq_true rfl, Nat.le_of_ble_eq_true rfl⟩ ?_
  refine s_rclr (by omega) (by omega) P_told (fun h1 hv1 hF1 => ?_)
  show zX _ 76 7 [(0, .inr (20, v))] [] c s _ _
  refine zX.sn 1 (pc2 := 8) (l2 := [(0, .inr (20, v))]) (st2 := [.inr (20, v)]) rfl ?_
  refine zX.getf ⟨rfl, rfl⟩ ((hF1 20 v (by omega)).trans H_20_v) rfl rfl ?_
  refine zX.sn 1 (pc2 := 12) (l2 := [(0, .inr (20, v))]) (st2 := [zi 0, .inr (25, v)]) rfl ?_
  refine zX.call (mid2 := 160) (as := [.inr (25, v), zi 0]) (rest := []) ⟨rfl, rfl⟩ (fun _ => rfl) rfl ⟨Nat.le_of_ble_eq_true rfl, Nat.le_of_ble_eq_true rfl⟩ ?_
  refine s_fillI (by omega) (by omega) hhd ((hF1 25 v (by omega)).trans H_25_v) (fun h2 hv2 hF2 => ?_)
  show zX _ 76 15 [(0, .inr (20, v))] [] c s _ _
  refine zX.sn 1 (pc2 := 16) (l2 := [(0, .inr (20, v))]) (st2 := [.inr (20, v)]) rfl ?_
  refine zX.sn 1 (pc2 := 17) (l2 := [(0, .inr (20, v))]) (st2 := [zi 0, .inr (20, v)]) rfl ?_
  refine zX.putf ⟨rfl, rfl⟩ ((hF2 20 v (by omega)).trans ((hF1 20 v (by omega)).trans H_20_v)) rfl (by omega) rfl ?_
  show zX _ 76 20 [(0, .inr (20, v))] [] c s (xup h2 (20, v) (.inl (2, [zi (v : Int), zi (zbi true), zi fi, zi (sz : Int), zi (gr : Int), .inr (2, 0), .inr (21, v), .inr (23, v), .inr (25, v), zi 0, .inr (36, v)]))) _
  refine zX.sn 1 (pc2 := 21) (l2 := [(0, .inr (20, v))]) (st2 := [.inr (20, v)]) rfl ?_
  refine zX.call (mid2 := 9) (as := [.inr (20, v)]) (rest := []) ⟨rfl, rfl⟩ (fun _ => rfl) (zX.inv rfl zup_s rfl rfl) ⟨Nat.le_of_ble_eq_true rfl, Nat.le_of_ble_eq_true rfl⟩ ?_
  show zX _ 9 0 [(0, .inr (20, v))] [] c s _ _
  refine zX.sn 1 (pc2 := 1) (l2 := [(0, .inr (20, v))]) (st2 := [.inr (20, v)]) rfl ?_
  refine zX.getf ⟨rfl, rfl⟩ zup_s rfl rfl ?_
  refine zX.call (mid2 := 158) (as := [.inr (36, v)]) (rest := []) ⟨rfl, rfl⟩ (fun _ => rfl) (zX.invA rfl (zAL.fr P_kept (fun za zb hi => (zup_n (zn (by omega)) ((hF2 za zb (by omega)).trans ((hF1 za zb (by omega)).trans rfl))))) rfl rfl) ⟨Nat.le_of_ble_eq_true rfl, Nat.le_of_ble_eq_true rfl⟩ ?_
  refine s_clear (by omega) (by omega) (zAL.fr P_kept (fun za zb hi => (zup_n (zn (by omega)) ((hF2 za zb (by omega)).trans ((hF1 za zb (by omega)).trans rfl))))) (fun h3 hv3 hF3 => ?_)
  show zX _ 9 7 [(0, .inr (20, v))] [] c s _ _
  refine zX.ret rfl rfl ?_
  show zX _ 76 24 [(0, .inr (20, v))] [] c s _ _
  refine zX.ret rfl rfl ?_
  exact k1 _ ((hF3 25 v (by omega)).trans (zup_n (zn (by omega)) hv2)) ((hF3 20 v (by omega)).trans zup_s) (zRes.fr hv1 (fun za zb hi => ((hF3 za zb (by omega)).trans (zup_n (zn (by omega)) ((hF2 za zb (by omega)).trans rfl))))) hv3 (fun za zb hn => ((hF3 za zb (by omega)).trans (zup_n (zn (by omega)) ((hF2 za zb (by omega)).trans ((hF1 za zb (by omega)).trans rfl)))))

set_option maxHeartbeats 4000000 in
theorem r_bv {d c s : Nat} {h : xH} {Q : xR → Nat → Nat → xH → Prop} {v sz gr L : Nat} {fi me : Int} {dr : Int32} {hd : Nat → Int32} {fa : Nat → Int64} {cap1 cap2 : Nat} {k1s k2s : List (Nat × Nat)} (hvr : zVr v fi sz gr) (hv : v < 5) (hsz : 1 ≤ sz ∧ sz ≤ 200) (hgr : gr ≤ 200) (hhd : ∀ t, 8 ≤ t → hd t = 0) (hL : L ≤ 67108864) (H_20_v : h (20, v) = some (.inl (8, [zi (v : Int), zi (zbi true), zi fi, zi (sz : Int), zi (gr : Int), .inr (2, 0), .inr (21, v), .inr (23, v), .inr (25, v), .inl (.int dr), .inr (36, v), .inr (38, v), .inr (40, v)]))) (H_25_v : h (25, v) = some (.inr (0, 8, zI hd))) (P_told : zRes h 21 v L fa) (P_lef : zAL h 36 v cap1 k1s) (P_ver : zAL h 38 v cap2 k2s)
    (k1 : ∀ h' : xH, h' (25, v) = some (.inr (0, 8, zI (fun _ => 0))) → h' (20, v) = some (.inl (8, [zi (v : Int), zi (zbi true), zi fi, zi (sz : Int), zi (gr : Int), .inr (2, 0), .inr (21, v), .inr (23, v), .inr (25, v), zi 0, .inr (36, v), .inr (38, v), .inr (40, v)])) → zRes h' 21 v L (fun _ => 0) → zAL h' 36 v cap1 ([]) → zAL h' 38 v cap2 ([]) → (∀ za zb : Nat, ¬ ((za = 25 ∧ zb = v) ∨ (za = 20 ∧ zb = v) ∨ (21 ≤ za ∧ za < 21 + 2 ∧ zb = v) ∨ (36 ≤ za ∧ za < 36 + 2 ∧ zb % 8 = v % 8) ∨ (38 ≤ za ∧ za < 38 + 2 ∧ zb % 8 = v % 8)) → h' (za, zb) = h (za, zb)) → Q (.inl none) c s h') :
    zX (d + 2) 76 0 [(0, .inr (20, v))] [] c s h Q := by
  refine zX.sn 1 (pc2 := 1) (l2 := [(0, .inr (20, v))]) (st2 := [.inr (20, v)]) rfl ?_
  refine zX.getf ⟨rfl, rfl⟩ H_20_v rfl rfl ?_
  refine zX.call (mid2 := 26) (as := [.inr (21, v)]) (rest := []) ⟨rfl, rfl⟩ (fun _ => rfl) (zX.inv rfl (P_told.1) rfl rfl) ⟨Nat.le_of_ble_eq_true rfl, Nat.le_of_ble_eq_true rfl⟩ ?_
  refine s_rclr (by omega) (by omega) P_told (fun h1 hv1 hF1 => ?_)
  show zX _ 76 7 [(0, .inr (20, v))] [] c s _ _
  refine zX.sn 1 (pc2 := 8) (l2 := [(0, .inr (20, v))]) (st2 := [.inr (20, v)]) rfl ?_
  refine zX.getf ⟨rfl, rfl⟩ ((hF1 20 v (by omega)).trans H_20_v) rfl rfl ?_
  refine zX.sn 1 (pc2 := 12) (l2 := [(0, .inr (20, v))]) (st2 := [zi 0, .inr (25, v)]) rfl ?_
  refine zX.call (mid2 := 160) (as := [.inr (25, v), zi 0]) (rest := []) ⟨rfl, rfl⟩ (fun _ => rfl) rfl ⟨Nat.le_of_ble_eq_true rfl, Nat.le_of_ble_eq_true rfl⟩ ?_
  refine s_fillI (by omega) (by omega) hhd ((hF1 25 v (by omega)).trans H_25_v) (fun h2 hv2 hF2 => ?_)
  show zX _ 76 15 [(0, .inr (20, v))] [] c s _ _
  refine zX.sn 1 (pc2 := 16) (l2 := [(0, .inr (20, v))]) (st2 := [.inr (20, v)]) rfl ?_
  refine zX.sn 1 (pc2 := 17) (l2 := [(0, .inr (20, v))]) (st2 := [zi 0, .inr (20, v)]) rfl ?_
  refine zX.putf ⟨rfl, rfl⟩ ((hF2 20 v (by omega)).trans ((hF1 20 v (by omega)).trans H_20_v)) rfl (by omega) rfl ?_
  show zX _ 76 20 [(0, .inr (20, v))] [] c s (xup h2 (20, v) (.inl (8, [zi (v : Int), zi (zbi true), zi fi, zi (sz : Int), zi (gr : Int), .inr (2, 0), .inr (21, v), .inr (23, v), .inr (25, v), zi 0, .inr (36, v), .inr (38, v), .inr (40, v)]))) _
  refine zX.sn 1 (pc2 := 21) (l2 := [(0, .inr (20, v))]) (st2 := [.inr (20, v)]) rfl ?_
  refine zX.call (mid2 := 73) (as := [.inr (20, v)]) (rest := []) ⟨rfl, rfl⟩ (fun _ => rfl) (zX.inv rfl zup_s rfl rfl) ⟨Nat.le_of_ble_eq_true rfl, Nat.le_of_ble_eq_true rfl⟩ ?_
  show zX _ 73 0 [(0, .inr (20, v))] [] c s _ _
  refine zX.sn 1 (pc2 := 1) (l2 := [(0, .inr (20, v))]) (st2 := [.inr (20, v)]) rfl ?_
  refine zX.getf ⟨rfl, rfl⟩ zup_s rfl rfl ?_
  refine zX.call (mid2 := 158) (as := [.inr (36, v)]) (rest := []) ⟨rfl, rfl⟩ (fun _ => rfl) (zX.invA rfl (zAL.fr P_lef (fun za zb hi => (zup_n (zn (by omega)) ((hF2 za zb (by omega)).trans ((hF1 za zb (by omega)).trans rfl))))) rfl rfl) ⟨Nat.le_of_ble_eq_true rfl, Nat.le_of_ble_eq_true rfl⟩ ?_
  refine s_clear (by omega) (by omega) (zAL.fr P_lef (fun za zb hi => (zup_n (zn (by omega)) ((hF2 za zb (by omega)).trans ((hF1 za zb (by omega)).trans rfl))))) (fun h3 hv3 hF3 => ?_)
  show zX _ 73 7 [(0, .inr (20, v))] [] c s _ _
  refine zX.sn 1 (pc2 := 8) (l2 := [(0, .inr (20, v))]) (st2 := [.inr (20, v)]) rfl ?_
  refine zX.getf ⟨rfl, rfl⟩ ((hF3 20 v (by omega)).trans zup_s) rfl rfl ?_
  refine zX.call (mid2 := 158) (as := [.inr (38, v)]) (rest := []) ⟨rfl, rfl⟩ (fun _ => rfl) (zX.invA rfl (zAL.fr P_ver (fun za zb hi => ((hF3 za zb (by omega)).trans (zup_n (zn (by omega)) ((hF2 za zb (by omega)).trans ((hF1 za zb (by omega)).trans rfl)))))) rfl rfl) ⟨Nat.le_of_ble_eq_true rfl, Nat.le_of_ble_eq_true rfl⟩ ?_
  refine s_clear (by omega) (by omega) (zAL.fr P_ver (fun za zb hi => ((hF3 za zb (by omega)).trans (zup_n (zn (by omega)) ((hF2 za zb (by omega)).trans ((hF1 za zb (by omega)).trans rfl)))))) (fun h4 hv4 hF4 => ?_)
  show zX _ 73 14 [(0, .inr (20, v))] [] c s _ _
  refine zX.ret rfl rfl ?_
  show zX _ 76 24 [(0, .inr (20, v))] [] c s _ _
  refine zX.ret rfl rfl ?_
  exact k1 _ ((hF4 25 v (by omega)).trans ((hF3 25 v (by omega)).trans (zup_n (zn (by omega)) hv2))) ((hF4 20 v (by omega)).trans ((hF3 20 v (by omega)).trans zup_s)) (zRes.fr hv1 (fun za zb hi => ((hF4 za zb (by omega)).trans ((hF3 za zb (by omega)).trans (zup_n (zn (by omega)) ((hF2 za zb (by omega)).trans rfl)))))) (zAL.fr hv3 (fun za zb hi => ((hF4 za zb (by omega)).trans rfl))) hv4 (fun za zb hn => ((hF4 za zb (by omega)).trans ((hF3 za zb (by omega)).trans (zup_n (zn (by omega)) ((hF2 za zb (by omega)).trans ((hF1 za zb (by omega)).trans rfl))))))

end ZR82
