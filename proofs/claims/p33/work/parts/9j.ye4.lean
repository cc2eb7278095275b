set_option maxRecDepth 100000
section YD9j
variable {d : Nat} {Q : xR → Nat → Nat → xH → Prop}
theorem s_resInit {ro i L c s : Nat} {h : xH} (h0 : 0 < ro) (hL : 1 ≤ L ∧ L ≤ 67108864) (hr : h (ro, i) = some (.inl (5, [.inl .null, zi 0]))) (hfr : h (ro + 1, i) = none)
    (q : ∀ h1 : xH, zRes h1 ro i L (fun _ => 0) → (∀ a b : Nat, ¬ (ro ≤ a ∧ a < ro + 2 ∧ b = i) → h1 (a, b) = h (a, b)) → Q (.inl none) (c + 1) (s + L) h1) : zX d 22 0 [(0, .inr (ro, i)), (1, zi (L : Int))] [] c s h Q := by
  refine zX.sn 1 (pc2 := 1) (l2 := [(0, .inr (ro, i)), (1, zi (L : Int))]) (st2 := [.inr (ro, i)]) rfl ?_
  refine zX.obj ⟨rfl, rfl⟩ (Nat.le_of_ble_eq_true rfl) ?_
  refine zX.sn 1 (pc2 := 5) (l2 := [(0, .inr (ro, i)), (1, zi (L : Int))]) (st2 := [.inr (ro, i)]) rfl ?_
  refine zX.sn 1 (pc2 := 6) (l2 := [(0, .inr (ro, i)), (1, zi (L : Int))]) (st2 := [zi 0, .inr (ro, i)]) rfl ?_
  refine zX.putf ⟨rfl, rfl⟩ hr rfl (by omega) rfl ?_
  show zX _ 22 9 [(0, .inr (ro, i)), (1, zi (L : Int))] [] c s (xup h (ro, i) (.inl (5, [.inl .null, zi 0]))) _
  generalize hh1 : xup h (ro, i) (.inl (5, [.inl .null, zi 0])) = h1
  have hs1 : h1 (ro, i) = some (.inl (5, [.inl .null, zi 0])) := by
    rw [← hh1]
    exact zup_s
  have hn1 : ∀ a b : Nat, ¬ (a = ro ∧ b = i) → h1 (a, b) = h (a, b) := fun a b hn => by
    rw [← hh1]
    exact zup_n (zn (by omega)) rfl
  refine zX.sn 1 (pc2 := 10) (l2 := [(0, .inr (ro, i)), (1, zi (L : Int))]) (st2 := [.inr (ro, i)]) rfl ?_
  refine zX.sn 1 (pc2 := 11) (l2 := [(0, .inr (ro, i)), (1, zi (L : Int))]) (st2 := [zi (L : Int), .inr (ro, i)]) rfl ?_
  refine zX.sn 1 (pc2 := 12) (l2 := [(0, .inr (ro, i)), (1, zi (L : Int))]) (st2 := [zi 1, zi (L : Int), .inr (ro, i)]) rfl ?_
  refine zX.maxi ⟨rfl, rfl⟩ (by omega) (by omega) (Nat.le_of_ble_eq_true rfl) ?_
  rw [if_neg (by omega)]
  refine zX.newa (n := L) ((ro + 1), i) ⟨rfl, rfl⟩ ((hn1 _ _ (by omega)).trans hfr) (by omega) rfl (by omega) ?_
  show zX _ 22 17 [(0, .inr (ro, i)), (1, zi (L : Int))] [.inr ((ro + 1), i), .inr (ro, i)] (c + 1) (s + L) (xup h1 ((ro + 1), i) (.inr (1, L, zJ (fun _ => 0)))) _
  generalize hh2 : xup h1 ((ro + 1), i) (.inr (1, L, zJ (fun _ => 0))) = h2
  have hs2 : h2 ((ro + 1), i) = some (.inr (1, L, zJ (fun _ => 0))) := by
    rw [← hh2]
    exact zup_s
  have hn2 : ∀ a b : Nat, ¬ (a = (ro + 1) ∧ b = i) → h2 (a, b) = h1 (a, b) := fun a b hn => by
    rw [← hh2]
    exact zup_n (zn (by omega)) rfl
  refine zX.putf ⟨rfl, rfl⟩ ((hn2 _ _ (by omega)).trans hs1) rfl (by omega) rfl ?_
  show zX _ 22 20 [(0, .inr (ro, i)), (1, zi (L : Int))] [] (c + 1) (s + L) (xup h2 (ro, i) (.inl (5, [.inr (ro + 1, i), zi 0]))) _
  generalize hh3 : xup h2 (ro, i) (.inl (5, [.inr (ro + 1, i), zi 0])) = h3
  have hs3 : h3 (ro, i) = some (.inl (5, [.inr (ro + 1, i), zi 0])) := by
    rw [← hh3]
    exact zup_s
  have hn3 : ∀ a b : Nat, ¬ (a = ro ∧ b = i) → h3 (a, b) = h2 (a, b) := fun a b hn => by
    rw [← hh3]
    exact zup_n (zn (by omega)) rfl
  refine zX.ret rfl rfl ?_
  refine q h3 ⟨by rw [zcnt_0]; exact hs3, (hn3 _ _ (by omega)).trans hs2, fun _ _ => rfl⟩ (fun a b hn => (hn3 a b (by omega)).trans ((hn2 a b (by omega)).trans (hn1 a b (by omega))))
theorem s_talInit {ro i L c s : Nat} {h : xH} (h0 : 0 < ro) (hL : 1 ≤ L ∧ L ≤ 67108864) (hr : h (ro, i) = some (.inl (7, [.inl .null, .inl .null, .inl .null]))) (hf1 : h (ro + 1, i) = none) (hf2 : h (ro + 2, i) = none) (hf3 : h (ro + 3, i) = none)
    (q : ∀ h1 : xH, zTal h1 ro i L (fun _ => 0) (fun _ => 0) (fun _ => 0) → (∀ a b : Nat, ¬ (ro ≤ a ∧ a < ro + 4 ∧ b = i) → h1 (a, b) = h (a, b)) → Q (.inl none) (c + 1 + 1 + 1) (s + L + L + L) h1) : zX d 51 0 [(0, .inr (ro, i)), (1, zi (L : Int))] [] c s h Q := by
  refine zX.sn 1 (pc2 := 1) (l2 := [(0, .inr (ro, i)), (1, zi (L : Int))]) (st2 := [.inr (ro, i)]) rfl ?_
  refine zX.obj ⟨rfl, rfl⟩ (Nat.le_of_ble_eq_true rfl) ?_
  refine zX.sn 1 (pc2 := 5) (l2 := [(0, .inr (ro, i)), (1, zi (L : Int))]) (st2 := [zi (L : Int)]) rfl ?_
  refine zX.sn 1 (pc2 := 6) (l2 := [(0, .inr (ro, i)), (1, zi (L : Int))]) (st2 := [zi 1, zi (L : Int)]) rfl ?_
  refine zX.maxi ⟨rfl, rfl⟩ (by omega) (by omega) (Nat.le_of_ble_eq_true rfl) ?_
  rw [if_neg (by omega)]
  refine zX.sn 1 (pc2 := 10) (l2 := [(2, zi (L : Int)), (0, .inr (ro, i)), (1, zi (L : Int))]) (st2 := []) rfl ?_
  refine zX.sn 1 (pc2 := 11) (l2 := [(2, zi (L : Int)), (0, .inr (ro, i)), (1, zi (L : Int))]) (st2 := [.inr (ro, i)]) rfl ?_
  refine zX.sn 1 (pc2 := 12) (l2 := [(2, zi (L : Int)), (0, .inr (ro, i)), (1, zi (L : Int))]) (st2 := [zi (L : Int), .inr (ro, i)]) rfl ?_
  refine zX.newa (n := L) ((ro + 1), i) ⟨rfl, rfl⟩ hf1 (by omega) rfl (by omega) ?_
  show zX _ 51 14 [(2, zi (L : Int)), (0, .inr (ro, i)), (1, zi (L : Int))] [.inr ((ro + 1), i), .inr (ro, i)] (c + 1) (s + L) (xup h ((ro + 1), i) (.inr (0, L, zI (fun _ => 0)))) _
  generalize hh1 : xup h ((ro + 1), i) (.inr (0, L, zI (fun _ => 0))) = h1
  have hs1 : h1 ((ro + 1), i) = some (.inr (0, L, zI (fun _ => 0))) := by
    rw [← hh1]
    exact zup_s
  have hn1 : ∀ a b : Nat, ¬ (a = (ro + 1) ∧ b = i) → h1 (a, b) = h (a, b) := fun a b hn => by
    rw [← hh1]
    exact zup_n (zn (by omega)) rfl
  refine zX.putf ⟨rfl, rfl⟩ ((hn1 _ _ (by omega)).trans hr) rfl (by omega) rfl ?_
  show zX _ 51 17 [(2, zi (L : Int)), (0, .inr (ro, i)), (1, zi (L : Int))] [] (c + 1) (s + L) (xup h1 (ro, i) (.inl (7, [.inr (ro + 1, i), .inl .null, .inl .null]))) _
  generalize hh2 : xup h1 (ro, i) (.inl (7, [.inr (ro + 1, i), .inl .null, .inl .null])) = h2
  have hs2 : h2 (ro, i) = some (.inl (7, [.inr (ro + 1, i), .inl .null, .inl .null])) := by
    rw [← hh2]
    exact zup_s
  have hn2 : ∀ a b : Nat, ¬ (a = ro ∧ b = i) → h2 (a, b) = h1 (a, b) := fun a b hn => by
    rw [← hh2]
    exact zup_n (zn (by omega)) rfl
  have hq1 : ∀ a b : Nat, ¬ (ro ≤ a ∧ a < ro + 2 ∧ b = i) → h2 (a, b) = h (a, b) := fun a b hn => (hn2 a b (by omega)).trans ((hn1 a b (by omega)).trans (rfl))
  refine zX.sn 1 (pc2 := 18) (l2 := [(2, zi (L : Int)), (0, .inr (ro, i)), (1, zi (L : Int))]) (st2 := [.inr (ro, i)]) rfl ?_
  refine zX.sn 1 (pc2 := 19) (l2 := [(2, zi (L : Int)), (0, .inr (ro, i)), (1, zi (L : Int))]) (st2 := [zi (L : Int), .inr (ro, i)]) rfl ?_
  refine zX.newa (n := L) ((ro + 2), i) ⟨rfl, rfl⟩ ((hq1 _ _ (by omega)).trans hf2) (by omega) rfl (by omega) ?_
  show zX _ 51 21 [(2, zi (L : Int)), (0, .inr (ro, i)), (1, zi (L : Int))] [.inr ((ro + 2), i), .inr (ro, i)] ((c + 1) + 1) ((s + L) + L) (xup h2 ((ro + 2), i) (.inr (0, L, zI (fun _ => 0)))) _
  generalize hh3 : xup h2 ((ro + 2), i) (.inr (0, L, zI (fun _ => 0))) = h3
  have hs3 : h3 ((ro + 2), i) = some (.inr (0, L, zI (fun _ => 0))) := by
    rw [← hh3]
    exact zup_s
  have hn3 : ∀ a b : Nat, ¬ (a = (ro + 2) ∧ b = i) → h3 (a, b) = h2 (a, b) := fun a b hn => by
    rw [← hh3]
    exact zup_n (zn (by omega)) rfl
  refine zX.putf ⟨rfl, rfl⟩ ((hn3 _ _ (by omega)).trans hs2) rfl (by omega) rfl ?_
  show zX _ 51 24 [(2, zi (L : Int)), (0, .inr (ro, i)), (1, zi (L : Int))] [] ((c + 1) + 1) ((s + L) + L) (xup h3 (ro, i) (.inl (7, [.inr (ro + 1, i), .inr (ro + 2, i), .inl .null]))) _
  generalize hh4 : xup h3 (ro, i) (.inl (7, [.inr (ro + 1, i), .inr (ro + 2, i), .inl .null])) = h4
  have hs4 : h4 (ro, i) = some (.inl (7, [.inr (ro + 1, i), .inr (ro + 2, i), .inl .null])) := by
    rw [← hh4]
    exact zup_s
  have hn4 : ∀ a b : Nat, ¬ (a = ro ∧ b = i) → h4 (a, b) = h3 (a, b) := fun a b hn => by
    rw [← hh4]
    exact zup_n (zn (by omega)) rfl
  have hq2 : ∀ a b : Nat, ¬ (ro ≤ a ∧ a < ro + 3 ∧ b = i) → h4 (a, b) = h (a, b) := fun a b hn => (hn4 a b (by omega)).trans ((hn3 a b (by omega)).trans (hq1 a b (by omega)))
  refine zX.sn 1 (pc2 := 25) (l2 := [(2, zi (L : Int)), (0, .inr (ro, i)), (1, zi (L : Int))]) (st2 := [.inr (ro, i)]) rfl ?_
  refine zX.sn 1 (pc2 := 26) (l2 := [(2, zi (L : Int)), (0, .inr (ro, i)), (1, zi (L : Int))]) (st2 := [zi (L : Int), .inr (ro, i)]) rfl ?_
  refine zX.newa (n := L) ((ro + 3), i) ⟨rfl, rfl⟩ ((hq2 _ _ (by omega)).trans hf3) (by omega) rfl (by omega) ?_
  show zX _ 51 28 [(2, zi (L : Int)), (0, .inr (ro, i)), (1, zi (L : Int))] [.inr ((ro + 3), i), .inr (ro, i)] (((c + 1) + 1) + 1) (((s + L) + L) + L) (xup h4 ((ro + 3), i) (.inr (0, L, zI (fun _ => 0)))) _
  generalize hh5 : xup h4 ((ro + 3), i) (.inr (0, L, zI (fun _ => 0))) = h5
  have hs5 : h5 ((ro + 3), i) = some (.inr (0, L, zI (fun _ => 0))) := by
    rw [← hh5]
    exact zup_s
  have hn5 : ∀ a b : Nat, ¬ (a = (ro + 3) ∧ b = i) → h5 (a, b) = h4 (a, b) := fun a b hn => by
    rw [← hh5]
    exact zup_n (zn (by omega)) rfl
  refine zX.putf ⟨rfl, rfl⟩ ((hn5 _ _ (by omega)).trans hs4) rfl (by omega) rfl ?_
  show zX _ 51 31 [(2, zi (L : Int)), (0, .inr (ro, i)), (1, zi (L : Int))] [] (((c + 1) + 1) + 1) (((s + L) + L) + L) (xup h5 (ro, i) (.inl (7, [.inr (ro + 1, i), .inr (ro + 2, i), .inr (ro + 3, i)]))) _
  generalize hh6 : xup h5 (ro, i) (.inl (7, [.inr (ro + 1, i), .inr (ro + 2, i), .inr (ro + 3, i)])) = h6
  have hs6 : h6 (ro, i) = some (.inl (7, [.inr (ro + 1, i), .inr (ro + 2, i), .inr (ro + 3, i)])) := by
    rw [← hh6]
    exact zup_s
  have hn6 : ∀ a b : Nat, ¬ (a = ro ∧ b = i) → h6 (a, b) = h5 (a, b) := fun a b hn => by
    rw [← hh6]
    exact zup_n (zn (by omega)) rfl
  have hq3 : ∀ a b : Nat, ¬ (ro ≤ a ∧ a < ro + 4 ∧ b = i) → h6 (a, b) = h (a, b) := fun a b hn => (hn6 a b (by omega)).trans ((hn5 a b (by omega)).trans (hq2 a b (by omega)))
  refine zX.ret rfl rfl ?_
  refine q h6 ⟨hs6, ?_, ?_, ?_, fun _ _ => ⟨rfl, rfl, rfl⟩⟩ (fun a b hn => hq3 a b (by omega))
  · exact (hn6 _ _ (by omega)).trans ((hn5 _ _ (by omega)).trans ((hn4 _ _ (by omega)).trans ((hn3 _ _ (by omega)).trans ((hn2 _ _ (by omega)).trans hs1))))
  · exact (hn6 _ _ (by omega)).trans ((hn5 _ _ (by omega)).trans ((hn4 _ _ (by omega)).trans hs3))
  · exact (hn6 _ _ (by omega)).trans hs5
theorem s_listInit {ro i c s : Nat} {h : xH} {g : Nat → xV} (h0 : 0 < ro) (hemp : h (0, 1) = some (.inr (4, 0, g))) (hr : h (ro, i) = some (.inl (0, [zi 0, .inl .null, zi 0]))) (hfr : ∀ M, 0 < M → h (ro + 1, 8 * M + i) = none)
    (q : ∀ h1 : xH, zAL h1 ro i 0 [] → (∀ a b : Nat, ¬ (a = ro ∧ b = i) → h1 (a, b) = h (a, b)) → Q (.inl none) c s h1) : zX (d + 2) 147 0 [(0, .inr (ro, i))] [] c s h Q := by
  refine zX.sn 1 (pc2 := 1) (l2 := [(0, .inr (ro, i))]) (st2 := [.inr (ro, i)]) rfl ?_
  refine zX.call (mid2 := 146) (as := [.inr (ro, i)]) (rest := []) ⟨rfl, rfl⟩ (fun _ => rfl) rfl ⟨Nat.le_of_ble_eq_true rfl, Nat.le_of_ble_eq_true rfl⟩ ?_
  refine zX.sn 1 (pc2 := 1) (l2 := [(0, .inr (ro, i))]) (st2 := [.inr (ro, i)]) rfl ?_
  refine zX.call (mid2 := 145) (as := [.inr (ro, i)]) (rest := []) ⟨rfl, rfl⟩ (fun _ => rfl) rfl ⟨Nat.le_of_ble_eq_true rfl, Nat.le_of_ble_eq_true rfl⟩ ?_
  refine zX.sn 1 (pc2 := 1) (l2 := [(0, .inr (ro, i))]) (st2 := [.inr (ro, i)]) rfl ?_
  refine zX.obj ⟨rfl, rfl⟩ (Nat.le_of_ble_eq_true rfl) ?_
  refine zX.ret rfl rfl ?_
  show zX _ 146 4 [(0, .inr (ro, i))] [] c s _ _
  refine zX.sn 1 (pc2 := 5) (l2 := [(0, .inr (ro, i))]) (st2 := [.inr (ro, i)]) rfl ?_
  refine zX.sn 1 (pc2 := 6) (l2 := [(0, .inr (ro, i))]) (st2 := [zi 0, .inr (ro, i)]) rfl ?_
  refine zX.putf ⟨rfl, rfl⟩ hr rfl (by omega) rfl ?_
  show zX _ 146 9 [(0, .inr (ro, i))] [] c s (xup h (ro, i) (.inl (0, [zi 0, .inl .null, zi 0]))) _
  generalize hh1 : xup h (ro, i) (.inl (0, [zi 0, .inl .null, zi 0])) = h1
  have hs1 : h1 (ro, i) = some (.inl (0, [zi 0, .inl .null, zi 0])) := by
    rw [← hh1]
    exact zup_s
  have hn1 : ∀ a b : Nat, ¬ (a = ro ∧ b = i) → h1 (a, b) = h (a, b) := fun a b hn => by
    rw [← hh1]
    exact zup_n (zn (by omega)) rfl
  refine zX.ret rfl rfl ?_
  show zX _ 147 4 [(0, .inr (ro, i))] [] c s _ _
  refine zX.sn 1 (pc2 := 5) (l2 := [(0, .inr (ro, i))]) (st2 := [.inr (ro, i)]) rfl ?_
  refine zX.s2 [] ⟨rfl, rfl⟩ (fun _ => rfl) rfl (fun _ => rfl) ?_
  show zX _ 147 8 [(0, .inr (ro, i))] [.inr (0, 1), .inr (ro, i)] c s _ _
  refine zX.putf ⟨rfl, rfl⟩ hs1 rfl (by omega) rfl ?_
  show zX _ 147 11 [(0, .inr (ro, i))] [] c s (xup h1 (ro, i) (.inl (0, [zi 0, .inr (0, 1), zi 0]))) _
  generalize hh2 : xup h1 (ro, i) (.inl (0, [zi 0, .inr (0, 1), zi 0])) = h2
  have hs2 : h2 (ro, i) = some (.inl (0, [zi 0, .inr (0, 1), zi 0])) := by
    rw [← hh2]
    exact zup_s
  have hn2 : ∀ a b : Nat, ¬ (a = ro ∧ b = i) → h2 (a, b) = h (a, b) := fun a b hn => by
    rw [← hh2]
    exact zup_n (zn (by omega)) (hn1 a b hn)
  refine zX.ret rfl rfl ?_
  refine q h2 ⟨0, g, hs2, ?_, fun j x hx => ?_, fun M hM => ?_, Nat.le_refl _, by omega⟩ hn2
  · show h2 (0, 1) = _
    exact (hn2 _ _ (by omega)).trans hemp
  · rw [List.getElem?_nil] at hx
    cases hx
  · exact (hn2 _ _ (by omega)).trans (hfr M hM)
set_option maxHeartbeats 4000000 in
theorem s_viewInit {v sz gr L c s ci : Nat} {fi : Int} {bs : Bool} {tl : List xV} {h : xH} (hv : v < 5) (hfi : fi = 97 ∨ fi = 101 ∨ fi = 112) (hL : 1 ≤ L ∧ L ≤ 67108864) (hci : ci = 2 ∨ ci = 6 ∨ ci = 8 ∨ ci = 9) (hr : h (20, v) = some (.inl (ci, zi 0 :: zi 0 :: zi 0 :: zi 0 :: zi 0 :: .inl .null :: .inl .null :: .inl .null :: .inl .null :: zi 0 :: tl))) (hF : ∀ a : Nat, 20 ≤ a ∧ a < 60 → a ≠ 20 → h (a, v) = none)
    (q : ∀ h1 : xH, zVo h1 ci v bs fi sz gr 0 tl → zRes h1 21 v L (fun _ => 0) → zRes h1 23 v L (fun _ => 0) → h1 (25, v) = some (.inr (0, 8, zI (fun _ => 0))) → (∀ a b : Nat, ¬ (20 ≤ a ∧ a < 26 ∧ b = v) → h1 (a, b) = h (a, b)) → Q (.inl none) (((((c + 1) + 1) + 1) + 1) + 1) (((((s + 8) + 2) + L) + 2) + L) h1) : zX (d + 1) 74 0 [(0, .inr (20, v)), (1, zi (v : Int)), (2, zi (zbi bs)), (3, zi fi), (4, zi (sz : Int)), (5, zi (gr : Int)), (6, .inr (2, 0)), (7, zi (L : Int))] [] c s h Q := by
  refine zX.sn 1 (pc2 := 1) (l2 := [(0, .inr (20, v)), (1, zi (v : Int)), (2, zi (zbi bs)), (3, zi fi), (4, zi (sz : Int)), (5, zi (gr : Int)), (6, .inr (2, 0)), (7, zi (L : Int))]) (st2 := [.inr (20, v)]) rfl ?_
  refine zX.obj ⟨rfl, rfl⟩ (Nat.le_of_ble_eq_true rfl) ?_
  refine zX.sn 1 (pc2 := 5) (l2 := [(0, .inr (20, v)), (1, zi (v : Int)), (2, zi (zbi bs)), (3, zi fi), (4, zi (sz : Int)), (5, zi (gr : Int)), (6, .inr (2, 0)), (7, zi (L : Int))]) (st2 := [.inr (20, v)]) rfl ?_
  refine zX.sn 1 (pc2 := 7) (l2 := [(0, .inr (20, v)), (1, zi (v : Int)), (2, zi (zbi bs)), (3, zi fi), (4, zi (sz : Int)), (5, zi (gr : Int)), (6, .inr (2, 0)), (7, zi (L : Int))]) (st2 := [zi 8, .inr (20, v)]) rfl ?_
  refine zX.newa (n := 8) (25, v) ⟨rfl, rfl⟩ (hF 25 (by omega) (by omega)) (by omega) rfl (by omega) ?_
  show zX _ 74 9 [(0, .inr (20, v)), (1, zi (v : Int)), (2, zi (zbi bs)), (3, zi fi), (4, zi (sz : Int)), (5, zi (gr : Int)), (6, .inr (2, 0)), (7, zi (L : Int))] [.inr (25, v), .inr (20, v)] (c + 1) (s + 8) (xup h (25, v) (.inr (0, 8, zI (fun _ => 0)))) _
  generalize hh1 : xup h (25, v) (.inr (0, 8, zI (fun _ => 0))) = h1
  have hs1 : h1 (25, v) = some (.inr (0, 8, zI (fun _ => 0))) := by
    rw [← hh1]
    exact zup_s
  have hn1 : ∀ a b : Nat, ¬ (a = 25 ∧ b = v) → h1 (a, b) = h (a, b) := fun a b hn => by
    rw [← hh1]
    exact zup_n (zn (by omega)) rfl
  refine zX.putf ⟨rfl, rfl⟩ ((hn1 _ _ (by omega)).trans hr) (by rcases hci with z | z | z | z <;> (rw [z]; rfl)) (by omega) rfl ?_
  show zX _ 74 12 [(0, .inr (20, v)), (1, zi (v : Int)), (2, zi (zbi bs)), (3, zi fi), (4, zi (sz : Int)), (5, zi (gr : Int)), (6, .inr (2, 0)), (7, zi (L : Int))] [] (c + 1) (s + 8) (xup h1 (20, v) (.inl (ci, zi 0 :: zi 0 :: zi 0 :: zi 0 :: zi 0 :: .inl .null :: .inl .null :: .inl .null :: .inr (25, v) :: zi 0 :: tl))) _
  generalize hh2 : xup h1 (20, v) (.inl (ci, zi 0 :: zi 0 :: zi 0 :: zi 0 :: zi 0 :: .inl .null :: .inl .null :: .inl .null :: .inr (25, v) :: zi 0 :: tl)) = h2
  have hs2 : h2 (20, v) = some (.inl (ci, zi 0 :: zi 0 :: zi 0 :: zi 0 :: zi 0 :: .inl .null :: .inl .null :: .inl .null :: .inr (25, v) :: zi 0 :: tl)) := by
    rw [← hh2]
    exact zup_s
  have hn2 : ∀ a b : Nat, ¬ (a = 20 ∧ b = v) → h2 (a, b) = h1 (a, b) := fun a b hn => by
    rw [← hh2]
    exact zup_n (zn (by omega)) rfl
  refine zX.sn 1 (pc2 := 13) (l2 := [(0, .inr (20, v)), (1, zi (v : Int)), (2, zi (zbi bs)), (3, zi fi), (4, zi (sz : Int)), (5, zi (gr : Int)), (6, .inr (2, 0)), (7, zi (L : Int))]) (st2 := [.inr (20, v)]) rfl ?_
  refine zX.sn 1 (pc2 := 14) (l2 := [(0, .inr (20, v)), (1, zi (v : Int)), (2, zi (zbi bs)), (3, zi fi), (4, zi (sz : Int)), (5, zi (gr : Int)), (6, .inr (2, 0)), (7, zi (L : Int))]) (st2 := [zi 0, .inr (20, v)]) rfl ?_
  refine zX.putf ⟨rfl, rfl⟩ hs2 (by rcases hci with z | z | z | z <;> (rw [z]; rfl)) (by omega) rfl ?_
  show zX _ 74 17 [(0, .inr (20, v)), (1, zi (v : Int)), (2, zi (zbi bs)), (3, zi fi), (4, zi (sz : Int)), (5, zi (gr : Int)), (6, .inr (2, 0)), (7, zi (L : Int))] [] (c + 1) (s + 8) (xup h2 (20, v) (.inl (ci, zi 0 :: zi 0 :: zi 0 :: zi 0 :: zi 0 :: .inl .null :: .inl .null :: .inl .null :: .inr (25, v) :: zi 0 :: tl))) _
  generalize hh3 : xup h2 (20, v) (.inl (ci, zi 0 :: zi 0 :: zi 0 :: zi 0 :: zi 0 :: .inl .null :: .inl .null :: .inl .null :: .inr (25, v) :: zi 0 :: tl)) = h3
  have hs3 : h3 (20, v) = some (.inl (ci, zi 0 :: zi 0 :: zi 0 :: zi 0 :: zi 0 :: .inl .null :: .inl .null :: .inl .null :: .inr (25, v) :: zi 0 :: tl)) := by
    rw [← hh3]
    exact zup_s
  have hn3 : ∀ a b : Nat, ¬ (a = 20 ∧ b = v) → h3 (a, b) = h1 (a, b) := fun a b hn => by
    rw [← hh3]
    exact zup_n (zn (by omega)) (hn2 a b hn)
  refine zX.sn 1 (pc2 := 18) (l2 := [(0, .inr (20, v)), (1, zi (v : Int)), (2, zi (zbi bs)), (3, zi fi), (4, zi (sz : Int)), (5, zi (gr : Int)), (6, .inr (2, 0)), (7, zi (L : Int))]) (st2 := [.inr (20, v)]) rfl ?_
  refine zX.sn 1 (pc2 := 19) (l2 := [(0, .inr (20, v)), (1, zi (v : Int)), (2, zi (zbi bs)), (3, zi fi), (4, zi (sz : Int)), (5, zi (gr : Int)), (6, .inr (2, 0)), (7, zi (L : Int))]) (st2 := [zi (v : Int), .inr (20, v)]) rfl ?_
  refine zX.putf ⟨rfl, rfl⟩ hs3 (by rcases hci with z | z | z | z <;> (rw [z]; rfl)) (by omega) rfl ?_
  show zX _ 74 22 [(0, .inr (20, v)), (1, zi (v : Int)), (2, zi (zbi bs)), (3, zi fi), (4, zi (sz : Int)), (5, zi (gr : Int)), (6, .inr (2, 0)), (7, zi (L : Int))] [] (c + 1) (s + 8) (xup h3 (20, v) (.inl (ci, zi (v : Int) :: zi 0 :: zi 0 :: zi 0 :: zi 0 :: .inl .null :: .inl .null :: .inl .null :: .inr (25, v) :: zi 0 :: tl))) _
  generalize hh4 : xup h3 (20, v) (.inl (ci, zi (v : Int) :: zi 0 :: zi 0 :: zi 0 :: zi 0 :: .inl .null :: .inl .null :: .inl .null :: .inr (25, v) :: zi 0 :: tl)) = h4
  have hs4 : h4 (20, v) = some (.inl (ci, zi (v : Int) :: zi 0 :: zi 0 :: zi 0 :: zi 0 :: .inl .null :: .inl .null :: .inl .null :: .inr (25, v) :: zi 0 :: tl)) := by
    rw [← hh4]
    exact zup_s
  have hn4 : ∀ a b : Nat, ¬ (a = 20 ∧ b = v) → h4 (a, b) = h1 (a, b) := fun a b hn => by
    rw [← hh4]
    exact zup_n (zn (by omega)) (hn3 a b hn)
  refine zX.sn 1 (pc2 := 23) (l2 := [(0, .inr (20, v)), (1, zi (v : Int)), (2, zi (zbi bs)), (3, zi fi), (4, zi (sz : Int)), (5, zi (gr : Int)), (6, .inr (2, 0)), (7, zi (L : Int))]) (st2 := [.inr (20, v)]) rfl ?_
  refine zX.sn 1 (pc2 := 24) (l2 := [(0, .inr (20, v)), (1, zi (v : Int)), (2, zi (zbi bs)), (3, zi fi), (4, zi (sz : Int)), (5, zi (gr : Int)), (6, .inr (2, 0)), (7, zi (L : Int))]) (st2 := [zi (zbi bs), .inr (20, v)]) rfl ?_
  refine zX.putf ⟨rfl, rfl⟩ hs4 (by rcases hci with z | z | z | z <;> (rw [z]; rfl)) (by omega) (by cases bs <;> decide) ?_
  show zX _ 74 27 [(0, .inr (20, v)), (1, zi (v : Int)), (2, zi (zbi bs)), (3, zi fi), (4, zi (sz : Int)), (5, zi (gr : Int)), (6, .inr (2, 0)), (7, zi (L : Int))] [] (c + 1) (s + 8) (xup h4 (20, v) (.inl (ci, zi (v : Int) :: zi (zbi bs) :: zi 0 :: zi 0 :: zi 0 :: .inl .null :: .inl .null :: .inl .null :: .inr (25, v) :: zi 0 :: tl))) _
  generalize hh5 : xup h4 (20, v) (.inl (ci, zi (v : Int) :: zi (zbi bs) :: zi 0 :: zi 0 :: zi 0 :: .inl .null :: .inl .null :: .inl .null :: .inr (25, v) :: zi 0 :: tl)) = h5
  have hs5 : h5 (20, v) = some (.inl (ci, zi (v : Int) :: zi (zbi bs) :: zi 0 :: zi 0 :: zi 0 :: .inl .null :: .inl .null :: .inl .null :: .inr (25, v) :: zi 0 :: tl)) := by
    rw [← hh5]
    exact zup_s
  have hn5 : ∀ a b : Nat, ¬ (a = 20 ∧ b = v) → h5 (a, b) = h1 (a, b) := fun a b hn => by
    rw [← hh5]
    exact zup_n (zn (by omega)) (hn4 a b hn)
  refine zX.sn 1 (pc2 := 28) (l2 := [(0, .inr (20, v)), (1, zi (v : Int)), (2, zi (zbi bs)), (3, zi fi), (4, zi (sz : Int)), (5, zi (gr : Int)), (6, .inr (2, 0)), (7, zi (L : Int))]) (st2 := [.inr (20, v)]) rfl ?_
  refine zX.sn 1 (pc2 := 29) (l2 := [(0, .inr (20, v)), (1, zi (v : Int)), (2, zi (zbi bs)), (3, zi fi), (4, zi (sz : Int)), (5, zi (gr : Int)), (6, .inr (2, 0)), (7, zi (L : Int))]) (st2 := [zi fi, .inr (20, v)]) rfl ?_
  refine zX.putf ⟨rfl, rfl⟩ hs5 (by rcases hci with z | z | z | z <;> (rw [z]; rfl)) (by omega) (by rcases hfi with z | z | z <;> (rw [z]; decide)) ?_
  show zX _ 74 32 [(0, .inr (20, v)), (1, zi (v : Int)), (2, zi (zbi bs)), (3, zi fi), (4, zi (sz : Int)), (5, zi (gr : Int)), (6, .inr (2, 0)), (7, zi (L : Int))] [] (c + 1) (s + 8) (xup h5 (20, v) (.inl (ci, zi (v : Int) :: zi (zbi bs) :: zi fi :: zi 0 :: zi 0 :: .inl .null :: .inl .null :: .inl .null :: .inr (25, v) :: zi 0 :: tl))) _
  generalize hh6 : xup h5 (20, v) (.inl (ci, zi (v : Int) :: zi (zbi bs) :: zi fi :: zi 0 :: zi 0 :: .inl .null :: .inl .null :: .inl .null :: .inr (25, v) :: zi 0 :: tl)) = h6
  have hs6 : h6 (20, v) = some (.inl (ci, zi (v : Int) :: zi (zbi bs) :: zi fi :: zi 0 :: zi 0 :: .inl .null :: .inl .null :: .inl .null :: .inr (25, v) :: zi 0 :: tl)) := by
    rw [← hh6]
    exact zup_s
  have hn6 : ∀ a b : Nat, ¬ (a = 20 ∧ b = v) → h6 (a, b) = h1 (a, b) := fun a b hn => by
    rw [← hh6]
    exact zup_n (zn (by omega)) (hn5 a b hn)
  refine zX.sn 1 (pc2 := 33) (l2 := [(0, .inr (20, v)), (1, zi (v : Int)), (2, zi (zbi bs)), (3, zi fi), (4, zi (sz : Int)), (5, zi (gr : Int)), (6, .inr (2, 0)), (7, zi (L : Int))]) (st2 := [.inr (20, v)]) rfl ?_
  refine zX.sn 1 (pc2 := 35) (l2 := [(0, .inr (20, v)), (1, zi (v : Int)), (2, zi (zbi bs)), (3, zi fi), (4, zi (sz : Int)), (5, zi (gr : Int)), (6, .inr (2, 0)), (7, zi (L : Int))]) (st2 := [zi (sz : Int), .inr (20, v)]) rfl ?_
  refine zX.putf ⟨rfl, rfl⟩ hs6 (by rcases hci with z | z | z | z <;> (rw [z]; rfl)) (by omega) rfl ?_
  show zX _ 74 38 [(0, .inr (20, v)), (1, zi (v : Int)), (2, zi (zbi bs)), (3, zi fi), (4, zi (sz : Int)), (5, zi (gr : Int)), (6, .inr (2, 0)), (7, zi (L : Int))] [] (c + 1) (s + 8) (xup h6 (20, v) (.inl (ci, zi (v : Int) :: zi (zbi bs) :: zi fi :: zi (sz : Int) :: zi 0 :: .inl .null :: .inl .null :: .inl .null :: .inr (25, v) :: zi 0 :: tl))) _
  generalize hh7 : xup h6 (20, v) (.inl (ci, zi (v : Int) :: zi (zbi bs) :: zi fi :: zi (sz : Int) :: zi 0 :: .inl .null :: .inl .null :: .inl .null :: .inr (25, v) :: zi 0 :: tl)) = h7
  have hs7 : h7 (20, v) = some (.inl (ci, zi (v : Int) :: zi (zbi bs) :: zi fi :: zi (sz : Int) :: zi 0 :: .inl .null :: .inl .null :: .inl .null :: .inr (25, v) :: zi 0 :: tl)) := by
    rw [← hh7]
    exact zup_s
  have hn7 : ∀ a b : Nat, ¬ (a = 20 ∧ b = v) → h7 (a, b) = h1 (a, b) := fun a b hn => by
    rw [← hh7]
    exact zup_n (zn (by omega)) (hn6 a b hn)
  refine zX.sn 1 (pc2 := 39) (l2 := [(0, .inr (20, v)), (1, zi (v : Int)), (2, zi (zbi bs)), (3, zi fi), (4, zi (sz : Int)), (5, zi (gr : Int)), (6, .inr (2, 0)), (7, zi (L : Int))]) (st2 := [.inr (20, v)]) rfl ?_
  refine zX.sn 1 (pc2 := 41) (l2 := [(0, .inr (20, v)), (1, zi (v : Int)), (2, zi (zbi bs)), (3, zi fi), (4, zi (sz : Int)), (5, zi (gr : Int)), (6, .inr (2, 0)), (7, zi (L : Int))]) (st2 := [zi (gr : Int), .inr (20, v)]) rfl ?_
  refine zX.putf ⟨rfl, rfl⟩ hs7 (by rcases hci with z | z | z | z <;> (rw [z]; rfl)) (by omega) rfl ?_
  show zX _ 74 44 [(0, .inr (20, v)), (1, zi (v : Int)), (2, zi (zbi bs)), (3, zi fi), (4, zi (sz : Int)), (5, zi (gr : Int)), (6, .inr (2, 0)), (7, zi (L : Int))] [] (c + 1) (s + 8) (xup h7 (20, v) (.inl (ci, zi (v : Int) :: zi (zbi bs) :: zi fi :: zi (sz : Int) :: zi (gr : Int) :: .inl .null :: .inl .null :: .inl .null :: .inr (25, v) :: zi 0 :: tl))) _
  generalize hh8 : xup h7 (20, v) (.inl (ci, zi (v : Int) :: zi (zbi bs) :: zi fi :: zi (sz : Int) :: zi (gr : Int) :: .inl .null :: .inl .null :: .inl .null :: .inr (25, v) :: zi 0 :: tl)) = h8
  have hs8 : h8 (20, v) = some (.inl (ci, zi (v : Int) :: zi (zbi bs) :: zi fi :: zi (sz : Int) :: zi (gr : Int) :: .inl .null :: .inl .null :: .inl .null :: .inr (25, v) :: zi 0 :: tl)) := by
    rw [← hh8]
    exact zup_s
  have hn8 : ∀ a b : Nat, ¬ (a = 20 ∧ b = v) → h8 (a, b) = h1 (a, b) := fun a b hn => by
    rw [← hh8]
    exact zup_n (zn (by omega)) (hn7 a b hn)
  refine zX.sn 1 (pc2 := 45) (l2 := [(0, .inr (20, v)), (1, zi (v : Int)), (2, zi (zbi bs)), (3, zi fi), (4, zi (sz : Int)), (5, zi (gr : Int)), (6, .inr (2, 0)), (7, zi (L : Int))]) (st2 := [.inr (20, v)]) rfl ?_
  refine zX.sn 1 (pc2 := 47) (l2 := [(0, .inr (20, v)), (1, zi (v : Int)), (2, zi (zbi bs)), (3, zi fi), (4, zi (sz : Int)), (5, zi (gr : Int)), (6, .inr (2, 0)), (7, zi (L : Int))]) (st2 := [.inr (2, 0), .inr (20, v)]) rfl ?_
  refine zX.putf ⟨rfl, rfl⟩ hs8 (by rcases hci with z | z | z | z <;> (rw [z]; rfl)) (by omega) rfl ?_
  show zX _ 74 50 [(0, .inr (20, v)), (1, zi (v : Int)), (2, zi (zbi bs)), (3, zi fi), (4, zi (sz : Int)), (5, zi (gr : Int)), (6, .inr (2, 0)), (7, zi (L : Int))] [] (c + 1) (s + 8) (xup h8 (20, v) (.inl (ci, zi (v : Int) :: zi (zbi bs) :: zi fi :: zi (sz : Int) :: zi (gr : Int) :: .inr (2, 0) :: .inl .null :: .inl .null :: .inr (25, v) :: zi 0 :: tl))) _
  generalize hh9 : xup h8 (20, v) (.inl (ci, zi (v : Int) :: zi (zbi bs) :: zi fi :: zi (sz : Int) :: zi (gr : Int) :: .inr (2, 0) :: .inl .null :: .inl .null :: .inr (25, v) :: zi 0 :: tl)) = h9
  have hs9 : h9 (20, v) = some (.inl (ci, zi (v : Int) :: zi (zbi bs) :: zi fi :: zi (sz : Int) :: zi (gr : Int) :: .inr (2, 0) :: .inl .null :: .inl .null :: .inr (25, v) :: zi 0 :: tl)) := by
    rw [← hh9]
    exact zup_s
  have hn9 : ∀ a b : Nat, ¬ (a = 20 ∧ b = v) → h9 (a, b) = h1 (a, b) := fun a b hn => by
    rw [← hh9]
    exact zup_n (zn (by omega)) (hn8 a b hn)
  refine zX.sn 1 (pc2 := 51) (l2 := [(0, .inr (20, v)), (1, zi (v : Int)), (2, zi (zbi bs)), (3, zi fi), (4, zi (sz : Int)), (5, zi (gr : Int)), (6, .inr (2, 0)), (7, zi (L : Int))]) (st2 := [.inr (20, v)]) rfl ?_
  have hz9 : ∀ a : Nat, 20 ≤ a ∧ a < 60 → a ≠ 20 ∧ a ≠ 25 → h9 (a, v) = h (a, v) := fun a h1 h2 => (hn9 _ _ (by omega)).trans (hn1 _ _ (by omega))
  refine zX.new (21, v) ⟨rfl, rfl⟩ ((hz9 21 (by omega) (by omega)).trans (hF 21 (by omega) (by omega))) (by omega) ?_
  show zX _ 74 54 [(0, .inr (20, v)), (1, zi (v : Int)), (2, zi (zbi bs)), (3, zi fi), (4, zi (sz : Int)), (5, zi (gr : Int)), (6, .inr (2, 0)), (7, zi (L : Int))] [.inr (21, v), .inr (20, v)] ((c + 1) + 1) ((s + 8) + 2) (xup h9 (21, v) (.inl (5, [.inl .null, zi 0]))) _
  generalize hh10 : xup h9 (21, v) (.inl (5, [.inl .null, zi 0])) = h10
  have hs10 : h10 (21, v) = some (.inl (5, [.inl .null, zi 0])) := by
    rw [← hh10]
    exact zup_s
  have hn10 : ∀ a b : Nat, ¬ (a = 21 ∧ b = v) → h10 (a, b) = h9 (a, b) := fun a b hn => by
    rw [← hh10]
    exact zup_n (zn (by omega)) rfl
  refine zX.sn 1 (pc2 := 55) (l2 := [(0, .inr (20, v)), (1, zi (v : Int)), (2, zi (zbi bs)), (3, zi fi), (4, zi (sz : Int)), (5, zi (gr : Int)), (6, .inr (2, 0)), (7, zi (L : Int))]) (st2 := [.inr (21, v), .inr (21, v), .inr (20, v)]) rfl ?_
  refine zX.sn 1 (pc2 := 57) (l2 := [(0, .inr (20, v)), (1, zi (v : Int)), (2, zi (zbi bs)), (3, zi fi), (4, zi (sz : Int)), (5, zi (gr : Int)), (6, .inr (2, 0)), (7, zi (L : Int))]) (st2 := [zi (L : Int), .inr (21, v), .inr (21, v), .inr (20, v)]) rfl ?_
  refine zX.call (mid2 := 22) (as := [.inr (21, v), zi (L : Int)]) (rest := [.inr (21, v), .inr (20, v)]) ⟨rfl, rfl⟩ (fun _ => rfl) rfl ⟨Nat.le_of_ble_eq_true rfl, Nat.le_of_ble_eq_true rfl⟩ ?_
  refine s_resInit (L := L) (by omega) hL hs10 ((hn10 _ _ (by omega)).trans ((hz9 22 (by omega) (by omega)).trans (hF 22 (by omega) (by omega)))) (fun h11 r10 m10 => ?_)
  show zX _ 74 60 [(0, .inr (20, v)), (1, zi (v : Int)), (2, zi (zbi bs)), (3, zi fi), (4, zi (sz : Int)), (5, zi (gr : Int)), (6, .inr (2, 0)), (7, zi (L : Int))] [.inr (21, v), .inr (20, v)] (((c + 1) + 1) + 1) (((s + 8) + 2) + L) _ _
  have hb11 : ∀ a b : Nat, ¬ ((a = 21 ∨ a = 22) ∧ b = v) → h11 (a, b) = h9 (a, b) := fun a b hn => (m10 a b (by omega)).trans (hn10 a b (by omega))
  refine zX.putf ⟨rfl, rfl⟩ ((hb11 _ _ (by omega)).trans hs9) (by rcases hci with z | z | z | z <;> (rw [z]; rfl)) (by omega) rfl ?_
  show zX _ 74 63 [(0, .inr (20, v)), (1, zi (v : Int)), (2, zi (zbi bs)), (3, zi fi), (4, zi (sz : Int)), (5, zi (gr : Int)), (6, .inr (2, 0)), (7, zi (L : Int))] [] (((c + 1) + 1) + 1) (((s + 8) + 2) + L) (xup h11 (20, v) (.inl (ci, zi (v : Int) :: zi (zbi bs) :: zi fi :: zi (sz : Int) :: zi (gr : Int) :: .inr (2, 0) :: .inr (21, v) :: .inl .null :: .inr (25, v) :: zi 0 :: tl))) _
  generalize hh12 : xup h11 (20, v) (.inl (ci, zi (v : Int) :: zi (zbi bs) :: zi fi :: zi (sz : Int) :: zi (gr : Int) :: .inr (2, 0) :: .inr (21, v) :: .inl .null :: .inr (25, v) :: zi 0 :: tl)) = h12
  have hs12 : h12 (20, v) = some (.inl (ci, zi (v : Int) :: zi (zbi bs) :: zi fi :: zi (sz : Int) :: zi (gr : Int) :: .inr (2, 0) :: .inr (21, v) :: .inl .null :: .inr (25, v) :: zi 0 :: tl)) := by
    rw [← hh12]
    exact zup_s
  have hn12 : ∀ a b : Nat, ¬ (a = 20 ∧ b = v) → h12 (a, b) = h11 (a, b) := fun a b hn => by
    rw [← hh12]
    exact zup_n (zn (by omega)) rfl
  have hz12 : ∀ a : Nat, 20 ≤ a ∧ a < 60 → a ≠ 20 ∧ a ≠ 25 ∧ a ≠ 21 ∧ a ≠ 22 → h12 (a, v) = h (a, v) := fun a h1 h2 => (hn12 _ _ (by omega)).trans ((hb11 _ _ (by omega)).trans (hz9 a h1 (by omega)))
  refine zX.sn 1 (pc2 := 64) (l2 := [(0, .inr (20, v)), (1, zi (v : Int)), (2, zi (zbi bs)), (3, zi fi), (4, zi (sz : Int)), (5, zi (gr : Int)), (6, .inr (2, 0)), (7, zi (L : Int))]) (st2 := [.inr (20, v)]) rfl ?_
  refine zX.new (23, v) ⟨rfl, rfl⟩ ((hz12 23 (by omega) (by omega)).trans (hF 23 (by omega) (by omega))) (by omega) ?_
  show zX _ 74 67 [(0, .inr (20, v)), (1, zi (v : Int)), (2, zi (zbi bs)), (3, zi fi), (4, zi (sz : Int)), (5, zi (gr : Int)), (6, .inr (2, 0)), (7, zi (L : Int))] [.inr (23, v), .inr (20, v)] ((((c + 1) + 1) + 1) + 1) ((((s + 8) + 2) + L) + 2) (xup h12 (23, v) (.inl (5, [.inl .null, zi 0]))) _
  generalize hh13 : xup h12 (23, v) (.inl (5, [.inl .null, zi 0])) = h13
  have hs13 : h13 (23, v) = some (.inl (5, [.inl .null, zi 0])) := by
    rw [← hh13]
    exact zup_s
  have hn13 : ∀ a b : Nat, ¬ (a = 23 ∧ b = v) → h13 (a, b) = h12 (a, b) := fun a b hn => by
    rw [← hh13]
    exact zup_n (zn (by omega)) rfl
  refine zX.sn 1 (pc2 := 68) (l2 := [(0, .inr (20, v)), (1, zi (v : Int)), (2, zi (zbi bs)), (3, zi fi), (4, zi (sz : Int)), (5, zi (gr : Int)), (6, .inr (2, 0)), (7, zi (L : Int))]) (st2 := [.inr (23, v), .inr (23, v), .inr (20, v)]) rfl ?_
  refine zX.sn 1 (pc2 := 70) (l2 := [(0, .inr (20, v)), (1, zi (v : Int)), (2, zi (zbi bs)), (3, zi fi), (4, zi (sz : Int)), (5, zi (gr : Int)), (6, .inr (2, 0)), (7, zi (L : Int))]) (st2 := [zi (L : Int), .inr (23, v), .inr (23, v), .inr (20, v)]) rfl ?_
  refine zX.call (mid2 := 22) (as := [.inr (23, v), zi (L : Int)]) (rest := [.inr (23, v), .inr (20, v)]) ⟨rfl, rfl⟩ (fun _ => rfl) rfl ⟨Nat.le_of_ble_eq_true rfl, Nat.le_of_ble_eq_true rfl⟩ ?_
  refine s_resInit (L := L) (by omega) hL hs13 ((hn13 _ _ (by omega)).trans ((hz12 24 (by omega) (by omega)).trans (hF 24 (by omega) (by omega)))) (fun h14 r13 m13 => ?_)
  show zX _ 74 73 [(0, .inr (20, v)), (1, zi (v : Int)), (2, zi (zbi bs)), (3, zi fi), (4, zi (sz : Int)), (5, zi (gr : Int)), (6, .inr (2, 0)), (7, zi (L : Int))] [.inr (23, v), .inr (20, v)] (((((c + 1) + 1) + 1) + 1) + 1) (((((s + 8) + 2) + L) + 2) + L) _ _
  have hb14 : ∀ a b : Nat, ¬ ((a = 23 ∨ a = 24) ∧ b = v) → h14 (a, b) = h12 (a, b) := fun a b hn => (m13 a b (by omega)).trans (hn13 a b (by omega))
  refine zX.putf ⟨rfl, rfl⟩ ((hb14 _ _ (by omega)).trans hs12) (by rcases hci with z | z | z | z <;> (rw [z]; rfl)) (by omega) rfl ?_
  show zX _ 74 76 [(0, .inr (20, v)), (1, zi (v : Int)), (2, zi (zbi bs)), (3, zi fi), (4, zi (sz : Int)), (5, zi (gr : Int)), (6, .inr (2, 0)), (7, zi (L : Int))] [] (((((c + 1) + 1) + 1) + 1) + 1) (((((s + 8) + 2) + L) + 2) + L) (xup h14 (20, v) (.inl (ci, zi (v : Int) :: zi (zbi bs) :: zi fi :: zi (sz : Int) :: zi (gr : Int) :: .inr (2, 0) :: .inr (21, v) :: .inr (23, v) :: .inr (25, v) :: zi 0 :: tl))) _
  generalize hh15 : xup h14 (20, v) (.inl (ci, zi (v : Int) :: zi (zbi bs) :: zi fi :: zi (sz : Int) :: zi (gr : Int) :: .inr (2, 0) :: .inr (21, v) :: .inr (23, v) :: .inr (25, v) :: zi 0 :: tl)) = h15
  have hs15 : h15 (20, v) = some (.inl (ci, zi (v : Int) :: zi (zbi bs) :: zi fi :: zi (sz : Int) :: zi (gr : Int) :: .inr (2, 0) :: .inr (21, v) :: .inr (23, v) :: .inr (25, v) :: zi 0 :: tl)) := by
    rw [← hh15]
    exact zup_s
  have hn15 : ∀ a b : Nat, ¬ (a = 20 ∧ b = v) → h15 (a, b) = h14 (a, b) := fun a b hn => by
    rw [← hh15]
    exact zup_n (zn (by omega)) rfl
  refine zX.ret rfl rfl ?_
  refine q h15 hs15 ?_ ?_ ?_ (fun a b hn => ?_)
  · exact r10.fr (fun a b z => (hn15 _ _ (by omega)).trans ((hb14 _ _ (by omega)).trans (hn12 _ _ (by omega))))
  · exact r13.fr (fun a b z => hn15 _ _ (by omega))
  · exact (hn15 _ _ (by omega)).trans ((hb14 _ _ (by omega)).trans ((hn12 _ _ (by omega)).trans ((hb11 _ _ (by omega)).trans ((hn9 _ _ (by omega)).trans hs1))))
  · exact (hn15 _ _ (by omega)).trans ((hb14 _ _ (by omega)).trans ((hn12 _ _ (by omega)).trans ((hb11 _ _ (by omega)).trans ((hn9 _ _ (by omega)).trans (hn1 _ _ (by omega))))))
end YD9j
