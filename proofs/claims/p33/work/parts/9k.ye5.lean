set_option maxRecDepth 100000
section YD9k
variable {d : Nat} {Q : xR → Nat → Nat → xH → Prop}
theorem s_wby {sp c s : Nat} {h : xH} (hs : 1 ≤ sp ∧ sp ≤ 200) (q : Q (.inl (some (zi (zwi sp : Int)))) c s h) : zX d 86 0 [(0, zi (sp : Int))] [] c s h Q := by
  refine zX.sn 1 (pc2 := 1) (l2 := [(0, zi (sp : Int))]) (st2 := [zi (sp : Int)]) rfl ?_
  refine zX.icmp0 (tgt := 14) ⟨rfl, rfl⟩ rfl (by omega) (fun (zz : (sp : Int) ≤ 0) => absurd zz (by omega)) (fun _ => ?_)
  refine zX.sn 1 (pc2 := 7) (l2 := [(0, zi (sp : Int))]) (st2 := [zi 999]) rfl ?_
  refine zX.sn 1 (pc2 := 8) (l2 := [(0, zi (sp : Int))]) (st2 := [zi (sp : Int), zi 999]) rfl ?_
  refine zX.idiv ⟨rfl, rfl⟩ (by omega) (by omega) ?_
  refine zX.sn 1 (pc2 := 10) (l2 := [(0, zi (sp : Int))]) (st2 := [zi 1, zi (999 / (sp : Int))]) rfl ?_
  refine zX.iadd ⟨rfl, rfl⟩ ?_
  refine zX.sn 1 (pc2 := 15) (l2 := [(0, zi (sp : Int))]) (st2 := [zi ((999 / (sp : Int)) + 1)]) rfl ?_
  refine zX.ret rfl rfl ?_
  have e : (999 : Int) / (sp : Int) + 1 = ((zwi sp : Nat) : Int) := rfl
  rw [e]
  exact q
/-- a view's first state -/
def zS0 : zSt := (fun _ => 0, fun _ => 0, 0, fun _ => 0, fun _ => 0, fun _ => 0, [], [])
set_option maxHeartbeats 4000000 in
theorem s_winInit {v sz gr c s N : Nat} {fi : Int} {me : Int} {sp : Nat} {out : List Int64} {h : xH} (hv : v < 5) (hfi : fi = 97 ∨ fi = 101 ∨ fi = 112) (hsz : 1 ≤ sz ∧ sz ≤ 200) (hgr : gr ≤ 200) (hme : me = 99 ∨ me = 115 ∨ me = 109) (hsp : 1 ≤ sp ∧ sp ≤ sz) (hOut : zOut h N out) (ho : h (20, v) = some (.inl (9, [zi 0, zi 0, zi 0, zi 0, zi 0, .inl .null, .inl .null, .inl .null, .inl .null, zi 0, zi 0, zi 0, zi 0, .inl .null, .inl .null]))) (hF : ∀ a b : Nat, 20 ≤ a → a < 60 → (a ≠ 20 ∨ b ≠ v) → (b % 8 = v → h (a, b) = none))
    (q : ∀ h1 : xH, zVi h1 N 0 0 0 v (9, fi, sz, gr, me, sp) (zS0, out) → (∀ a b : Nat, ¬ (20 ≤ a ∧ a < 60 ∧ b % 8 = v) → h1 (a, b) = h (a, b)) → Q (.inl none) (((((c + 1 + 1 + 1 + 1 + 1) + 1) + 1 + 1 + 1) + 1) + 1 + 1 + 1) (((((s + 8 + 2 + (zwi sp * 8) + 2 + (zwi sp * 8)) + 3) + (zwi sp * 8) + (zwi sp * 8) + (zwi sp * 8)) + 3) + (zwi sp * 8) + (zwi sp * 8) + (zwi sp * 8)) h1) : zX (d + 2) 85 0 [(0, .inr (20, v)), (1, zi (v : Int)), (2, zi me), (3, zi fi), (4, zi (sz : Int)), (5, zi (sp : Int)), (6, zi (gr : Int)), (7, .inr (2, 0))] [] c s h Q := by
  have hw := zwi_le hsp.1
  have hw1 : 1 ≤ zwi sp := Nat.succ_le_succ (Nat.zero_le _)
  have hL : 1 ≤ zwi sp * 8 ∧ zwi sp * 8 ≤ 67108864 := by omega
  have hsp2 : 1 ≤ sp ∧ sp ≤ 200 := by omega
  refine zX.sn 1 (pc2 := 1) (l2 := [(0, .inr (20, v)), (1, zi (v : Int)), (2, zi me), (3, zi fi), (4, zi (sz : Int)), (5, zi (sp : Int)), (6, zi (gr : Int)), (7, .inr (2, 0))]) (st2 := [.inr (20, v)]) rfl ?_
  refine zX.sn 1 (pc2 := 2) (l2 := [(0, .inr (20, v)), (1, zi (v : Int)), (2, zi me), (3, zi fi), (4, zi (sz : Int)), (5, zi (sp : Int)), (6, zi (gr : Int)), (7, .inr (2, 0))]) (st2 := [zi (v : Int), .inr (20, v)]) rfl ?_
  refine zX.sn 1 (pc2 := 3) (l2 := [(0, .inr (20, v)), (1, zi (v : Int)), (2, zi me), (3, zi fi), (4, zi (sz : Int)), (5, zi (sp : Int)), (6, zi (gr : Int)), (7, .inr (2, 0))]) (st2 := [zi 0, zi (v : Int), .inr (20, v)]) rfl ?_
  refine zX.sn 1 (pc2 := 4) (l2 := [(0, .inr (20, v)), (1, zi (v : Int)), (2, zi me), (3, zi fi), (4, zi (sz : Int)), (5, zi (sp : Int)), (6, zi (gr : Int)), (7, .inr (2, 0))]) (st2 := [zi fi, zi 0, zi (v : Int), .inr (20, v)]) rfl ?_
  refine zX.sn 1 (pc2 := 6) (l2 := [(0, .inr (20, v)), (1, zi (v : Int)), (2, zi me), (3, zi fi), (4, zi (sz : Int)), (5, zi (sp : Int)), (6, zi (gr : Int)), (7, .inr (2, 0))]) (st2 := [zi (sz : Int), zi fi, zi 0, zi (v : Int), .inr (20, v)]) rfl ?_
  refine zX.sn 1 (pc2 := 8) (l2 := [(0, .inr (20, v)), (1, zi (v : Int)), (2, zi me), (3, zi fi), (4, zi (sz : Int)), (5, zi (sp : Int)), (6, zi (gr : Int)), (7, .inr (2, 0))]) (st2 := [zi (gr : Int), zi (sz : Int), zi fi, zi 0, zi (v : Int), .inr (20, v)]) rfl ?_
  refine zX.sn 1 (pc2 := 10) (l2 := [(0, .inr (20, v)), (1, zi (v : Int)), (2, zi me), (3, zi fi), (4, zi (sz : Int)), (5, zi (sp : Int)), (6, zi (gr : Int)), (7, .inr (2, 0))]) (st2 := [.inr (2, 0), zi (gr : Int), zi (sz : Int), zi fi, zi 0, zi (v : Int), .inr (20, v)]) rfl ?_
  refine zX.sn 1 (pc2 := 12) (l2 := [(0, .inr (20, v)), (1, zi (v : Int)), (2, zi me), (3, zi fi), (4, zi (sz : Int)), (5, zi (sp : Int)), (6, zi (gr : Int)), (7, .inr (2, 0))]) (st2 := [zi (sp : Int), .inr (2, 0), zi (gr : Int), zi (sz : Int), zi fi, zi 0, zi (v : Int), .inr (20, v)]) rfl ?_
  refine zX.call (mid2 := 86) (as := [zi (sp : Int)]) (rest := [.inr (2, 0), zi (gr : Int), zi (sz : Int), zi fi, zi 0, zi (v : Int), .inr (20, v)]) ⟨rfl, rfl⟩ (fun _ => rfl) rfl ⟨Nat.le_of_ble_eq_true rfl, Nat.le_of_ble_eq_true rfl⟩ ?_
  refine s_wby hsp2 ?_
  show zX _ 85 15 [(0, .inr (20, v)), (1, zi (v : Int)), (2, zi me), (3, zi fi), (4, zi (sz : Int)), (5, zi (sp : Int)), (6, zi (gr : Int)), (7, .inr (2, 0))] [zi (zwi sp : Int), .inr (2, 0), zi (gr : Int), zi (sz : Int), zi fi, zi 0, zi (v : Int), .inr (20, v)] c s _ _
  refine zX.sn 1 (pc2 := 17) (l2 := [(0, .inr (20, v)), (1, zi (v : Int)), (2, zi me), (3, zi fi), (4, zi (sz : Int)), (5, zi (sp : Int)), (6, zi (gr : Int)), (7, .inr (2, 0))]) (st2 := [zi 8, zi (zwi sp : Int), .inr (2, 0), zi (gr : Int), zi (sz : Int), zi fi, zi 0, zi (v : Int), .inr (20, v)]) rfl ?_
  refine zX.imul ⟨rfl, rfl⟩ ?_
  rw [show ((zwi sp : Nat) : Int) * 8 = ((zwi sp * 8 : Nat) : Int) from rfl]
  refine zX.call (mid2 := 74) (as := [.inr (20, v), zi (v : Int), zi 0, zi fi, zi (sz : Int), zi (gr : Int), .inr (2, 0), zi ((zwi sp * 8 : Nat) : Int)]) (rest := []) ⟨rfl, rfl⟩ (fun _ => rfl) rfl ⟨Nat.le_of_ble_eq_true rfl, Nat.le_of_ble_eq_true rfl⟩ ?_
  refine s_viewInit (L := (zwi sp * 8)) (d := d) (ci := 9) (bs := false) (fi := fi) (sz := sz) (gr := gr) (tl := [zi 0, zi 0, zi 0, .inl .null, .inl .null]) hv hfi hL (by omega) ho (fun a h1 h2 => hF a v h1.1 h1.2 (by omega) (by omega)) (fun h1 o1 o2 o3 o4 o5 => ?_)
  show zX _ 85 21 [(0, .inr (20, v)), (1, zi (v : Int)), (2, zi me), (3, zi fi), (4, zi (sz : Int)), (5, zi (sp : Int)), (6, zi (gr : Int)), (7, .inr (2, 0))] [] (c + 1 + 1 + 1 + 1 + 1) (s + 8 + 2 + (zwi sp * 8) + 2 + (zwi sp * 8)) _ _
  have hz1 : ∀ a b : Nat, ¬ (20 ≤ a ∧ a < 26 ∧ b = v) → h1 (a, b) = h (a, b) := o5
  refine zX.sn 1 (pc2 := 22) (l2 := [(0, .inr (20, v)), (1, zi (v : Int)), (2, zi me), (3, zi fi), (4, zi (sz : Int)), (5, zi (sp : Int)), (6, zi (gr : Int)), (7, .inr (2, 0))]) (st2 := [.inr (20, v)]) rfl ?_
  refine zX.sn 1 (pc2 := 23) (l2 := [(0, .inr (20, v)), (1, zi (v : Int)), (2, zi me), (3, zi fi), (4, zi (sz : Int)), (5, zi (sp : Int)), (6, zi (gr : Int)), (7, .inr (2, 0))]) (st2 := [zi me, .inr (20, v)]) rfl ?_
  refine zX.putf ⟨rfl, rfl⟩ o1 rfl (by omega) (by rcases hme with z | z | z <;> (rw [z]; decide)) ?_
  show zX _ 85 26 [(0, .inr (20, v)), (1, zi (v : Int)), (2, zi me), (3, zi fi), (4, zi (sz : Int)), (5, zi (sp : Int)), (6, zi (gr : Int)), (7, .inr (2, 0))] [] (c + 1 + 1 + 1 + 1 + 1) (s + 8 + 2 + (zwi sp * 8) + 2 + (zwi sp * 8)) (xup h1 (20, v) (.inl (9, [zi (v : Int), zi (zbi false), zi fi, zi (sz : Int), zi (gr : Int), .inr (2, 0), .inr (21, v), .inr (23, v), .inr (25, v), .inl (.int 0), zi me, zi 0, zi 0, .inl .null, .inl .null]))) _
  generalize hh2 : xup h1 (20, v) (.inl (9, [zi (v : Int), zi (zbi false), zi fi, zi (sz : Int), zi (gr : Int), .inr (2, 0), .inr (21, v), .inr (23, v), .inr (25, v), .inl (.int 0), zi me, zi 0, zi 0, .inl .null, .inl .null])) = h2
  have hs2 : h2 (20, v) = some (.inl (9, [zi (v : Int), zi (zbi false), zi fi, zi (sz : Int), zi (gr : Int), .inr (2, 0), .inr (21, v), .inr (23, v), .inr (25, v), .inl (.int 0), zi me, zi 0, zi 0, .inl .null, .inl .null])) := by
    rw [← hh2]
    exact zup_s
  have hn2 : ∀ a b : Nat, ¬ (a = 20 ∧ b = v) → h2 (a, b) = h1 (a, b) := fun a b hn => by
    rw [← hh2]
    exact zup_n (zn (by omega)) rfl
  have hz2 : ∀ a b : Nat, ¬ (20 ≤ a ∧ a < 26 ∧ b = v) → h2 (a, b) = h (a, b) := fun a b hn => (hn2 a b (by omega)).trans (hz1 a b (by omega))
  have o2_2 := o2.fr (fun a b z => hn2 a b (by omega))
  have o3_2 := o3.fr (fun a b z => hn2 a b (by omega))
  have o4_2 := (hn2 _ _ (by omega)).trans o4
  refine zX.sn 1 (pc2 := 27) (l2 := [(0, .inr (20, v)), (1, zi (v : Int)), (2, zi me), (3, zi fi), (4, zi (sz : Int)), (5, zi (sp : Int)), (6, zi (gr : Int)), (7, .inr (2, 0))]) (st2 := [.inr (20, v)]) rfl ?_
  refine zX.sn 1 (pc2 := 29) (l2 := [(0, .inr (20, v)), (1, zi (v : Int)), (2, zi me), (3, zi fi), (4, zi (sz : Int)), (5, zi (sp : Int)), (6, zi (gr : Int)), (7, .inr (2, 0))]) (st2 := [zi (sp : Int), .inr (20, v)]) rfl ?_
  refine zX.putf ⟨rfl, rfl⟩ hs2 rfl (by omega) rfl ?_
  show zX _ 85 32 [(0, .inr (20, v)), (1, zi (v : Int)), (2, zi me), (3, zi fi), (4, zi (sz : Int)), (5, zi (sp : Int)), (6, zi (gr : Int)), (7, .inr (2, 0))] [] (c + 1 + 1 + 1 + 1 + 1) (s + 8 + 2 + (zwi sp * 8) + 2 + (zwi sp * 8)) (xup h2 (20, v) (.inl (9, [zi (v : Int), zi (zbi false), zi fi, zi (sz : Int), zi (gr : Int), .inr (2, 0), .inr (21, v), .inr (23, v), .inr (25, v), .inl (.int 0), zi me, zi (sp : Int), zi 0, .inl .null, .inl .null]))) _
  generalize hh3 : xup h2 (20, v) (.inl (9, [zi (v : Int), zi (zbi false), zi fi, zi (sz : Int), zi (gr : Int), .inr (2, 0), .inr (21, v), .inr (23, v), .inr (25, v), .inl (.int 0), zi me, zi (sp : Int), zi 0, .inl .null, .inl .null])) = h3
  have hs3 : h3 (20, v) = some (.inl (9, [zi (v : Int), zi (zbi false), zi fi, zi (sz : Int), zi (gr : Int), .inr (2, 0), .inr (21, v), .inr (23, v), .inr (25, v), .inl (.int 0), zi me, zi (sp : Int), zi 0, .inl .null, .inl .null])) := by
    rw [← hh3]
    exact zup_s
  have hn3 : ∀ a b : Nat, ¬ (a = 20 ∧ b = v) → h3 (a, b) = h2 (a, b) := fun a b hn => by
    rw [← hh3]
    exact zup_n (zn (by omega)) rfl
  have hz3 : ∀ a b : Nat, ¬ (20 ≤ a ∧ a < 26 ∧ b = v) → h3 (a, b) = h (a, b) := fun a b hn => (hn3 a b (by omega)).trans (hz2 a b (by omega))
  have o2_3 := o2_2.fr (fun a b z => hn3 a b (by omega))
  have o3_3 := o3_2.fr (fun a b z => hn3 a b (by omega))
  have o4_3 := (hn3 _ _ (by omega)).trans o4_2
  refine zX.sn 1 (pc2 := 33) (l2 := [(0, .inr (20, v)), (1, zi (v : Int)), (2, zi me), (3, zi fi), (4, zi (sz : Int)), (5, zi (sp : Int)), (6, zi (gr : Int)), (7, .inr (2, 0))]) (st2 := [.inr (20, v)]) rfl ?_
  refine zX.sn 1 (pc2 := 35) (l2 := [(0, .inr (20, v)), (1, zi (v : Int)), (2, zi me), (3, zi fi), (4, zi (sz : Int)), (5, zi (sp : Int)), (6, zi (gr : Int)), (7, .inr (2, 0))]) (st2 := [zi (sp : Int), .inr (20, v)]) rfl ?_
  refine zX.call (mid2 := 86) (as := [zi (sp : Int)]) (rest := [.inr (20, v)]) ⟨rfl, rfl⟩ (fun _ => rfl) rfl ⟨Nat.le_of_ble_eq_true rfl, Nat.le_of_ble_eq_true rfl⟩ ?_
  refine s_wby hsp2 ?_
  show zX _ 85 38 [(0, .inr (20, v)), (1, zi (v : Int)), (2, zi me), (3, zi fi), (4, zi (sz : Int)), (5, zi (sp : Int)), (6, zi (gr : Int)), (7, .inr (2, 0))] [zi (zwi sp : Int), .inr (20, v)] (c + 1 + 1 + 1 + 1 + 1) (s + 8 + 2 + (zwi sp * 8) + 2 + (zwi sp * 8)) _ _
  refine zX.putf ⟨rfl, rfl⟩ hs3 rfl (by omega) rfl ?_
  show zX _ 85 41 [(0, .inr (20, v)), (1, zi (v : Int)), (2, zi me), (3, zi fi), (4, zi (sz : Int)), (5, zi (sp : Int)), (6, zi (gr : Int)), (7, .inr (2, 0))] [] (c + 1 + 1 + 1 + 1 + 1) (s + 8 + 2 + (zwi sp * 8) + 2 + (zwi sp * 8)) (xup h3 (20, v) (.inl (9, [zi (v : Int), zi (zbi false), zi fi, zi (sz : Int), zi (gr : Int), .inr (2, 0), .inr (21, v), .inr (23, v), .inr (25, v), .inl (.int 0), zi me, zi (sp : Int), zi (zwi sp : Int), .inl .null, .inl .null]))) _
  generalize hh4 : xup h3 (20, v) (.inl (9, [zi (v : Int), zi (zbi false), zi fi, zi (sz : Int), zi (gr : Int), .inr (2, 0), .inr (21, v), .inr (23, v), .inr (25, v), .inl (.int 0), zi me, zi (sp : Int), zi (zwi sp : Int), .inl .null, .inl .null])) = h4
  have hs4 : h4 (20, v) = some (.inl (9, [zi (v : Int), zi (zbi false), zi fi, zi (sz : Int), zi (gr : Int), .inr (2, 0), .inr (21, v), .inr (23, v), .inr (25, v), .inl (.int 0), zi me, zi (sp : Int), zi (zwi sp : Int), .inl .null, .inl .null])) := by
    rw [← hh4]
    exact zup_s
  have hn4 : ∀ a b : Nat, ¬ (a = 20 ∧ b = v) → h4 (a, b) = h3 (a, b) := fun a b hn => by
    rw [← hh4]
    exact zup_n (zn (by omega)) rfl
  have hz4 : ∀ a b : Nat, ¬ (20 ≤ a ∧ a < 26 ∧ b = v) → h4 (a, b) = h (a, b) := fun a b hn => (hn4 a b (by omega)).trans (hz3 a b (by omega))
  have o2_4 := o2_3.fr (fun a b z => hn4 a b (by omega))
  have o3_4 := o3_3.fr (fun a b z => hn4 a b (by omega))
  have o4_4 := (hn4 _ _ (by omega)).trans o4_3
  refine zX.sn 1 (pc2 := 42) (l2 := [(0, .inr (20, v)), (1, zi (v : Int)), (2, zi me), (3, zi fi), (4, zi (sz : Int)), (5, zi (sp : Int)), (6, zi (gr : Int)), (7, .inr (2, 0))]) (st2 := [.inr (20, v)]) rfl ?_
  refine zX.new (26, v) ⟨rfl, rfl⟩ ((hz4 _ _ (by omega)).trans (hF 26 v (by omega) (by omega) (by omega) (by omega))) (by omega) ?_
  show zX _ 85 45 [(0, .inr (20, v)), (1, zi (v : Int)), (2, zi me), (3, zi fi), (4, zi (sz : Int)), (5, zi (sp : Int)), (6, zi (gr : Int)), (7, .inr (2, 0))] [.inr (26, v), .inr (20, v)] ((c + 1 + 1 + 1 + 1 + 1) + 1) ((s + 8 + 2 + (zwi sp * 8) + 2 + (zwi sp * 8)) + 3) (xup h4 (26, v) (.inl (7, [.inl .null, .inl .null, .inl .null]))) _
  generalize hh5 : xup h4 (26, v) (.inl (7, [.inl .null, .inl .null, .inl .null])) = h5
  have hs5 : h5 (26, v) = some (.inl (7, [.inl .null, .inl .null, .inl .null])) := by
    rw [← hh5]
    exact zup_s
  have hn5 : ∀ a b : Nat, ¬ (a = 26 ∧ b = v) → h5 (a, b) = h4 (a, b) := fun a b hn => by
    rw [← hh5]
    exact zup_n (zn (by omega)) rfl
  have hw5 := (hn5 20 v (by omega)).trans hs4
  refine zX.sn 1 (pc2 := 46) (l2 := [(0, .inr (20, v)), (1, zi (v : Int)), (2, zi me), (3, zi fi), (4, zi (sz : Int)), (5, zi (sp : Int)), (6, zi (gr : Int)), (7, .inr (2, 0))]) (st2 := [.inr (26, v), .inr (26, v), .inr (20, v)]) rfl ?_
  refine zX.sn 1 (pc2 := 47) (l2 := [(0, .inr (20, v)), (1, zi (v : Int)), (2, zi me), (3, zi fi), (4, zi (sz : Int)), (5, zi (sp : Int)), (6, zi (gr : Int)), (7, .inr (2, 0))]) (st2 := [.inr (20, v), .inr (26, v), .inr (26, v), .inr (20, v)]) rfl ?_
  refine zX.getf ⟨rfl, rfl⟩ hw5 rfl rfl ?_
  refine zX.sn 1 (pc2 := 52) (l2 := [(0, .inr (20, v)), (1, zi (v : Int)), (2, zi me), (3, zi fi), (4, zi (sz : Int)), (5, zi (sp : Int)), (6, zi (gr : Int)), (7, .inr (2, 0))]) (st2 := [zi 8, zi (zwi sp : Int), .inr (26, v), .inr (26, v), .inr (20, v)]) rfl ?_
  refine zX.imul ⟨rfl, rfl⟩ ?_
  rw [show ((zwi sp : Int) * 8) = (((zwi sp * 8) : Nat) : Int) from rfl]
  refine zX.call (mid2 := 51) (as := [.inr (26, v), zi (((zwi sp * 8) : Nat) : Int)]) (rest := [.inr (26, v), .inr (20, v)]) ⟨rfl, rfl⟩ (fun _ => rfl) rfl ⟨Nat.le_of_ble_eq_true rfl, Nat.le_of_ble_eq_true rfl⟩ ?_
  refine s_talInit (L := (zwi sp * 8)) (by omega) hL hs5 ((hn5 _ _ (by omega)).trans ((hz4 _ _ (by omega)).trans (hF 27 v (by omega) (by omega) (by omega) (by omega)))) ((hn5 _ _ (by omega)).trans ((hz4 _ _ (by omega)).trans (hF 28 v (by omega) (by omega) (by omega) (by omega)))) ((hn5 _ _ (by omega)).trans ((hz4 _ _ (by omega)).trans (hF 29 v (by omega) (by omega) (by omega) (by omega)))) (fun h6 r5 m5 => ?_)
  show zX _ 85 56 [(0, .inr (20, v)), (1, zi (v : Int)), (2, zi me), (3, zi fi), (4, zi (sz : Int)), (5, zi (sp : Int)), (6, zi (gr : Int)), (7, .inr (2, 0))] [.inr (26, v), .inr (20, v)] (((c + 1 + 1 + 1 + 1 + 1) + 1) + 1 + 1 + 1) (((s + 8 + 2 + (zwi sp * 8) + 2 + (zwi sp * 8)) + 3) + (zwi sp * 8) + (zwi sp * 8) + (zwi sp * 8)) _ _
  have hb6 : ∀ a b : Nat, ¬ (26 ≤ a ∧ a < 30 ∧ b % 8 = v) → h6 (a, b) = h4 (a, b) := fun a b hn => (m5 a b (by omega)).trans (hn5 a b (by omega))
  have hz6 : ∀ a b : Nat, ¬ (20 ≤ a ∧ a < 30 ∧ b = v) → h6 (a, b) = h (a, b) := fun a b hn => (m5 a b (by omega)).trans ((hn5 a b (by omega)).trans (hz4 a b (by omega)))
  have o2_6 := o2_4.fr (fun a b z => hb6 a b (by omega))
  have o3_6 := o3_4.fr (fun a b z => hb6 a b (by omega))
  have o4_6 := (hb6 _ _ (by omega)).trans o4_4
  have hs6 := (hb6 20 v (by omega)).trans hs4
  refine zX.putf ⟨rfl, rfl⟩ hs6 rfl (by omega) rfl ?_
  show zX _ 85 59 [(0, .inr (20, v)), (1, zi (v : Int)), (2, zi me), (3, zi fi), (4, zi (sz : Int)), (5, zi (sp : Int)), (6, zi (gr : Int)), (7, .inr (2, 0))] [] (((c + 1 + 1 + 1 + 1 + 1) + 1) + 1 + 1 + 1) (((s + 8 + 2 + (zwi sp * 8) + 2 + (zwi sp * 8)) + 3) + (zwi sp * 8) + (zwi sp * 8) + (zwi sp * 8)) (xup h6 (20, v) (.inl (9, [zi (v : Int), zi (zbi false), zi fi, zi (sz : Int), zi (gr : Int), .inr (2, 0), .inr (21, v), .inr (23, v), .inr (25, v), .inl (.int 0), zi me, zi (sp : Int), zi (zwi sp : Int), .inr (26, v), .inl .null]))) _
  generalize hh7 : xup h6 (20, v) (.inl (9, [zi (v : Int), zi (zbi false), zi fi, zi (sz : Int), zi (gr : Int), .inr (2, 0), .inr (21, v), .inr (23, v), .inr (25, v), .inl (.int 0), zi me, zi (sp : Int), zi (zwi sp : Int), .inr (26, v), .inl .null])) = h7
  have hs7 : h7 (20, v) = some (.inl (9, [zi (v : Int), zi (zbi false), zi fi, zi (sz : Int), zi (gr : Int), .inr (2, 0), .inr (21, v), .inr (23, v), .inr (25, v), .inl (.int 0), zi me, zi (sp : Int), zi (zwi sp : Int), .inr (26, v), .inl .null])) := by
    rw [← hh7]
    exact zup_s
  have hn7 : ∀ a b : Nat, ¬ (a = 20 ∧ b = v) → h7 (a, b) = h6 (a, b) := fun a b hn => by
    rw [← hh7]
    exact zup_n (zn (by omega)) rfl
  have hz7 : ∀ a b : Nat, ¬ (20 ≤ a ∧ a < 30 ∧ b = v) → h7 (a, b) = h (a, b) := fun a b hn => (hn7 a b (by omega)).trans (hz6 a b (by omega))
  have o2_7 := o2_6.fr (fun a b z => hn7 a b (by omega))
  have o3_7 := o3_6.fr (fun a b z => hn7 a b (by omega))
  have o4_7 := (hn7 _ _ (by omega)).trans o4_6
  have r5_7 := r5.fr (fun a b z => hn7 a b (by omega))
  refine zX.sn 1 (pc2 := 60) (l2 := [(0, .inr (20, v)), (1, zi (v : Int)), (2, zi me), (3, zi fi), (4, zi (sz : Int)), (5, zi (sp : Int)), (6, zi (gr : Int)), (7, .inr (2, 0))]) (st2 := [.inr (20, v)]) rfl ?_
  refine zX.new (30, v) ⟨rfl, rfl⟩ ((hz7 _ _ (by omega)).trans (hF 30 v (by omega) (by omega) (by omega) (by omega))) (by omega) ?_
  show zX _ 85 63 [(0, .inr (20, v)), (1, zi (v : Int)), (2, zi me), (3, zi fi), (4, zi (sz : Int)), (5, zi (sp : Int)), (6, zi (gr : Int)), (7, .inr (2, 0))] [.inr (30, v), .inr (20, v)] ((((c + 1 + 1 + 1 + 1 + 1) + 1) + 1 + 1 + 1) + 1) ((((s + 8 + 2 + (zwi sp * 8) + 2 + (zwi sp * 8)) + 3) + (zwi sp * 8) + (zwi sp * 8) + (zwi sp * 8)) + 3) (xup h7 (30, v) (.inl (7, [.inl .null, .inl .null, .inl .null]))) _
  generalize hh8 : xup h7 (30, v) (.inl (7, [.inl .null, .inl .null, .inl .null])) = h8
  have hs8 : h8 (30, v) = some (.inl (7, [.inl .null, .inl .null, .inl .null])) := by
    rw [← hh8]
    exact zup_s
  have hn8 : ∀ a b : Nat, ¬ (a = 30 ∧ b = v) → h8 (a, b) = h7 (a, b) := fun a b hn => by
    rw [← hh8]
    exact zup_n (zn (by omega)) rfl
  have hw8 := (hn8 20 v (by omega)).trans hs7
  refine zX.sn 1 (pc2 := 64) (l2 := [(0, .inr (20, v)), (1, zi (v : Int)), (2, zi me), (3, zi fi), (4, zi (sz : Int)), (5, zi (sp : Int)), (6, zi (gr : Int)), (7, .inr (2, 0))]) (st2 := [.inr (30, v), .inr (30, v), .inr (20, v)]) rfl ?_
  refine zX.sn 1 (pc2 := 65) (l2 := [(0, .inr (20, v)), (1, zi (v : Int)), (2, zi me), (3, zi fi), (4, zi (sz : Int)), (5, zi (sp : Int)), (6, zi (gr : Int)), (7, .inr (2, 0))]) (st2 := [.inr (20, v), .inr (30, v), .inr (30, v), .inr (20, v)]) rfl ?_
  refine zX.getf ⟨rfl, rfl⟩ hw8 rfl rfl ?_
  refine zX.sn 1 (pc2 := 70) (l2 := [(0, .inr (20, v)), (1, zi (v : Int)), (2, zi me), (3, zi fi), (4, zi (sz : Int)), (5, zi (sp : Int)), (6, zi (gr : Int)), (7, .inr (2, 0))]) (st2 := [zi 8, zi (zwi sp : Int), .inr (30, v), .inr (30, v), .inr (20, v)]) rfl ?_
  refine zX.imul ⟨rfl, rfl⟩ ?_
  rw [show ((zwi sp : Int) * 8) = (((zwi sp * 8) : Nat) : Int) from rfl]
  refine zX.call (mid2 := 51) (as := [.inr (30, v), zi (((zwi sp * 8) : Nat) : Int)]) (rest := [.inr (30, v), .inr (20, v)]) ⟨rfl, rfl⟩ (fun _ => rfl) rfl ⟨Nat.le_of_ble_eq_true rfl, Nat.le_of_ble_eq_true rfl⟩ ?_
  refine s_talInit (L := (zwi sp * 8)) (by omega) hL hs8 ((hn8 _ _ (by omega)).trans ((hz7 _ _ (by omega)).trans (hF 31 v (by omega) (by omega) (by omega) (by omega)))) ((hn8 _ _ (by omega)).trans ((hz7 _ _ (by omega)).trans (hF 32 v (by omega) (by omega) (by omega) (by omega)))) ((hn8 _ _ (by omega)).trans ((hz7 _ _ (by omega)).trans (hF 33 v (by omega) (by omega) (by omega) (by omega)))) (fun h9 r8 m8 => ?_)
  show zX _ 85 74 [(0, .inr (20, v)), (1, zi (v : Int)), (2, zi me), (3, zi fi), (4, zi (sz : Int)), (5, zi (sp : Int)), (6, zi (gr : Int)), (7, .inr (2, 0))] [.inr (30, v), .inr (20, v)] (((((c + 1 + 1 + 1 + 1 + 1) + 1) + 1 + 1 + 1) + 1) + 1 + 1 + 1) (((((s + 8 + 2 + (zwi sp * 8) + 2 + (zwi sp * 8)) + 3) + (zwi sp * 8) + (zwi sp * 8) + (zwi sp * 8)) + 3) + (zwi sp * 8) + (zwi sp * 8) + (zwi sp * 8)) _ _
  have hb9 : ∀ a b : Nat, ¬ (30 ≤ a ∧ a < 34 ∧ b % 8 = v) → h9 (a, b) = h7 (a, b) := fun a b hn => (m8 a b (by omega)).trans (hn8 a b (by omega))
  have hz9 : ∀ a b : Nat, ¬ (20 ≤ a ∧ a < 34 ∧ b = v) → h9 (a, b) = h (a, b) := fun a b hn => (m8 a b (by omega)).trans ((hn8 a b (by omega)).trans (hz7 a b (by omega)))
  have o2_9 := o2_7.fr (fun a b z => hb9 a b (by omega))
  have o3_9 := o3_7.fr (fun a b z => hb9 a b (by omega))
  have o4_9 := (hb9 _ _ (by omega)).trans o4_7
  have r5_9 := r5_7.fr (fun a b z => hb9 a b (by omega))
  have hs9 := (hb9 20 v (by omega)).trans hs7
  refine zX.putf ⟨rfl, rfl⟩ hs9 rfl (by omega) rfl ?_
  show zX _ 85 77 [(0, .inr (20, v)), (1, zi (v : Int)), (2, zi me), (3, zi fi), (4, zi (sz : Int)), (5, zi (sp : Int)), (6, zi (gr : Int)), (7, .inr (2, 0))] [] (((((c + 1 + 1 + 1 + 1 + 1) + 1) + 1 + 1 + 1) + 1) + 1 + 1 + 1) (((((s + 8 + 2 + (zwi sp * 8) + 2 + (zwi sp * 8)) + 3) + (zwi sp * 8) + (zwi sp * 8) + (zwi sp * 8)) + 3) + (zwi sp * 8) + (zwi sp * 8) + (zwi sp * 8)) (xup h9 (20, v) (.inl (9, [zi (v : Int), zi (zbi false), zi fi, zi (sz : Int), zi (gr : Int), .inr (2, 0), .inr (21, v), .inr (23, v), .inr (25, v), .inl (.int 0), zi me, zi (sp : Int), zi (zwi sp : Int), .inr (26, v), .inr (30, v)]))) _
  generalize hh10 : xup h9 (20, v) (.inl (9, [zi (v : Int), zi (zbi false), zi fi, zi (sz : Int), zi (gr : Int), .inr (2, 0), .inr (21, v), .inr (23, v), .inr (25, v), .inl (.int 0), zi me, zi (sp : Int), zi (zwi sp : Int), .inr (26, v), .inr (30, v)])) = h10
  have hs10 : h10 (20, v) = some (.inl (9, [zi (v : Int), zi (zbi false), zi fi, zi (sz : Int), zi (gr : Int), .inr (2, 0), .inr (21, v), .inr (23, v), .inr (25, v), .inl (.int 0), zi me, zi (sp : Int), zi (zwi sp : Int), .inr (26, v), .inr (30, v)])) := by
    rw [← hh10]
    exact zup_s
  have hn10 : ∀ a b : Nat, ¬ (a = 20 ∧ b = v) → h10 (a, b) = h9 (a, b) := fun a b hn => by
    rw [← hh10]
    exact zup_n (zn (by omega)) rfl
  have hz10 : ∀ a b : Nat, ¬ (20 ≤ a ∧ a < 34 ∧ b = v) → h10 (a, b) = h (a, b) := fun a b hn => (hn10 a b (by omega)).trans (hz9 a b (by omega))
  have o2_10 := o2_9.fr (fun a b z => hn10 a b (by omega))
  have o3_10 := o3_9.fr (fun a b z => hn10 a b (by omega))
  have o4_10 := (hn10 _ _ (by omega)).trans o4_9
  have r5_10 := r5_9.fr (fun a b z => hn10 a b (by omega))
  have r8_10 := r8.fr (fun a b z => hn10 a b (by omega))
  refine zX.ret rfl rfl ?_
  have hO : zOut h10 N out := hOut.fr (fun a b z => hz10 a b (by omega))
  refine q h10 ?_ (fun a b hn => hz10 a b (by omega))
  exact Or.inl ⟨⟨rfl, rfl, rfl, rfl⟩, ⟨⟨hv, hfi, hsz, hgr⟩, hme, hsp⟩, hs10, o2_10, o4_10, ⟨_, r5_10⟩, hO, ⟨_, o3_10⟩, _, _, _, r8_10⟩
set_option maxHeartbeats 4000000 in
theorem s_sesInit {v sz gr c s N : Nat} {fi : Int} {me : Int} {sp : Nat} {out : List Int64} {h : xH} (hv : v < 5) (hfi : fi = 97 ∨ fi = 101 ∨ fi = 112) (hsz : 1 ≤ sz ∧ sz ≤ 200) (hgr : gr ≤ 200) (hme : me = 99 ∨ me = 115 ∨ me = 109) (hOut : zOut h N out) (ho : h (20, v) = some (.inl (6, [zi 0, zi 0, zi 0, zi 0, zi 0, .inl .null, .inl .null, .inl .null, .inl .null, zi 0, zi 0, .inl .null, .inl .null, .inl .null, .inl .null]))) (hF : ∀ a b : Nat, 20 ≤ a → a < 60 → (a ≠ 20 ∨ b ≠ v) → (b % 8 = v → h (a, b) = none))
    (q : ∀ h1 : xH, zVi h1 N 0 0 0 v (6, fi, sz, gr, me, sp) (zS0, out) → (∀ a b : Nat, ¬ (20 ≤ a ∧ a < 60 ∧ b % 8 = v) → h1 (a, b) = h (a, b)) → Q (.inl none) (((((((c + 1 + 1 + 1 + 1 + 1) + 1) + 1 + 1 + 1) + 1) + 1 + 1 + 1) + 1) + 1) (((((((s + 8 + 2 + 8000 + 2 + 8000) + 3) + 8001 + 8001 + 8001) + 3) + 8000 + 8000 + 8000) + 8000) + 2) h1) : zX (d + 2) 35 0 [(0, .inr (20, v)), (1, zi (v : Int)), (2, zi me), (3, zi fi), (4, zi (sz : Int)), (5, zi (gr : Int)), (6, .inr (2, 0))] [] c s h Q := by
  refine zX.sn 1 (pc2 := 1) (l2 := [(0, .inr (20, v)), (1, zi (v : Int)), (2, zi me), (3, zi fi), (4, zi (sz : Int)), (5, zi (gr : Int)), (6, .inr (2, 0))]) (st2 := [.inr (20, v)]) rfl ?_
  refine zX.sn 1 (pc2 := 2) (l2 := [(0, .inr (20, v)), (1, zi (v : Int)), (2, zi me), (3, zi fi), (4, zi (sz : Int)), (5, zi (gr : Int)), (6, .inr (2, 0))]) (st2 := [zi (v : Int), .inr (20, v)]) rfl ?_
  refine zX.sn 1 (pc2 := 3) (l2 := [(0, .inr (20, v)), (1, zi (v : Int)), (2, zi me), (3, zi fi), (4, zi (sz : Int)), (5, zi (gr : Int)), (6, .inr (2, 0))]) (st2 := [zi 0, zi (v : Int), .inr (20, v)]) rfl ?_
  refine zX.sn 1 (pc2 := 4) (l2 := [(0, .inr (20, v)), (1, zi (v : Int)), (2, zi me), (3, zi fi), (4, zi (sz : Int)), (5, zi (gr : Int)), (6, .inr (2, 0))]) (st2 := [zi fi, zi 0, zi (v : Int), .inr (20, v)]) rfl ?_
  refine zX.sn 1 (pc2 := 6) (l2 := [(0, .inr (20, v)), (1, zi (v : Int)), (2, zi me), (3, zi fi), (4, zi (sz : Int)), (5, zi (gr : Int)), (6, .inr (2, 0))]) (st2 := [zi (sz : Int), zi fi, zi 0, zi (v : Int), .inr (20, v)]) rfl ?_
  refine zX.sn 1 (pc2 := 8) (l2 := [(0, .inr (20, v)), (1, zi (v : Int)), (2, zi me), (3, zi fi), (4, zi (sz : Int)), (5, zi (gr : Int)), (6, .inr (2, 0))]) (st2 := [zi (gr : Int), zi (sz : Int), zi fi, zi 0, zi (v : Int), .inr (20, v)]) rfl ?_
  refine zX.sn 1 (pc2 := 10) (l2 := [(0, .inr (20, v)), (1, zi (v : Int)), (2, zi me), (3, zi fi), (4, zi (sz : Int)), (5, zi (gr : Int)), (6, .inr (2, 0))]) (st2 := [.inr (2, 0), zi (gr : Int), zi (sz : Int), zi fi, zi 0, zi (v : Int), .inr (20, v)]) rfl ?_
  refine zX.sn 1 (pc2 := 13) (l2 := [(0, .inr (20, v)), (1, zi (v : Int)), (2, zi me), (3, zi fi), (4, zi (sz : Int)), (5, zi (gr : Int)), (6, .inr (2, 0))]) (st2 := [zi 8000, .inr (2, 0), zi (gr : Int), zi (sz : Int), zi fi, zi 0, zi (v : Int), .inr (20, v)]) rfl ?_
  refine zX.call (mid2 := 74) (as := [.inr (20, v), zi (v : Int), zi 0, zi fi, zi (sz : Int), zi (gr : Int), .inr (2, 0), zi 8000]) (rest := []) ⟨rfl, rfl⟩ (fun _ => rfl) rfl ⟨Nat.le_of_ble_eq_true rfl, Nat.le_of_ble_eq_true rfl⟩ ?_
  refine s_viewInit (L := 8000) (d := d) (ci := 6) (bs := false) (fi := fi) (sz := sz) (gr := gr) (tl := [zi 0, .inl .null, .inl .null, .inl .null, .inl .null]) hv hfi (by omega) (by omega) ho (fun a h1 h2 => hF a v h1.1 h1.2 (by omega) (by omega)) (fun h1 o1 o2 o3 o4 o5 => ?_)
  show zX _ 35 16 [(0, .inr (20, v)), (1, zi (v : Int)), (2, zi me), (3, zi fi), (4, zi (sz : Int)), (5, zi (gr : Int)), (6, .inr (2, 0))] [] (c + 1 + 1 + 1 + 1 + 1) (s + 8 + 2 + 8000 + 2 + 8000) _ _
  have hz1 : ∀ a b : Nat, ¬ (20 ≤ a ∧ a < 26 ∧ b = v) → h1 (a, b) = h (a, b) := o5
  refine zX.sn 1 (pc2 := 17) (l2 := [(0, .inr (20, v)), (1, zi (v : Int)), (2, zi me), (3, zi fi), (4, zi (sz : Int)), (5, zi (gr : Int)), (6, .inr (2, 0))]) (st2 := [.inr (20, v)]) rfl ?_
  refine zX.new (26, v) ⟨rfl, rfl⟩ ((hz1 _ _ (by omega)).trans (hF 26 v (by omega) (by omega) (by omega) (by omega))) (by omega) ?_
  show zX _ 35 20 [(0, .inr (20, v)), (1, zi (v : Int)), (2, zi me), (3, zi fi), (4, zi (sz : Int)), (5, zi (gr : Int)), (6, .inr (2, 0))] [.inr (26, v), .inr (20, v)] ((c + 1 + 1 + 1 + 1 + 1) + 1) ((s + 8 + 2 + 8000 + 2 + 8000) + 3) (xup h1 (26, v) (.inl (7, [.inl .null, .inl .null, .inl .null]))) _
  generalize hh2 : xup h1 (26, v) (.inl (7, [.inl .null, .inl .null, .inl .null])) = h2
  have hs2 : h2 (26, v) = some (.inl (7, [.inl .null, .inl .null, .inl .null])) := by
    rw [← hh2]
    exact zup_s
  have hn2 : ∀ a b : Nat, ¬ (a = 26 ∧ b = v) → h2 (a, b) = h1 (a, b) := fun a b hn => by
    rw [← hh2]
    exact zup_n (zn (by omega)) rfl
  have hw2 := (hn2 20 v (by omega)).trans o1
  refine zX.sn 1 (pc2 := 21) (l2 := [(0, .inr (20, v)), (1, zi (v : Int)), (2, zi me), (3, zi fi), (4, zi (sz : Int)), (5, zi (gr : Int)), (6, .inr (2, 0))]) (st2 := [.inr (26, v), .inr (26, v), .inr (20, v)]) rfl ?_
  refine zX.sn 1 (pc2 := 24) (l2 := [(0, .inr (20, v)), (1, zi (v : Int)), (2, zi me), (3, zi fi), (4, zi (sz : Int)), (5, zi (gr : Int)), (6, .inr (2, 0))]) (st2 := [zi 8001, .inr (26, v), .inr (26, v), .inr (20, v)]) rfl ?_
  rw [show 8001 = ((8001 : Nat) : Int) from rfl]
  refine zX.call (mid2 := 51) (as := [.inr (26, v), zi ((8001 : Nat) : Int)]) (rest := [.inr (26, v), .inr (20, v)]) ⟨rfl, rfl⟩ (fun _ => rfl) rfl ⟨Nat.le_of_ble_eq_true rfl, Nat.le_of_ble_eq_true rfl⟩ ?_
  refine s_talInit (L := 8001) (by omega) (by omega) hs2 ((hn2 _ _ (by omega)).trans ((hz1 _ _ (by omega)).trans (hF 27 v (by omega) (by omega) (by omega) (by omega)))) ((hn2 _ _ (by omega)).trans ((hz1 _ _ (by omega)).trans (hF 28 v (by omega) (by omega) (by omega) (by omega)))) ((hn2 _ _ (by omega)).trans ((hz1 _ _ (by omega)).trans (hF 29 v (by omega) (by omega) (by omega) (by omega)))) (fun h3 r2 m2 => ?_)
  show zX _ 35 27 [(0, .inr (20, v)), (1, zi (v : Int)), (2, zi me), (3, zi fi), (4, zi (sz : Int)), (5, zi (gr : Int)), (6, .inr (2, 0))] [.inr (26, v), .inr (20, v)] (((c + 1 + 1 + 1 + 1 + 1) + 1) + 1 + 1 + 1) (((s + 8 + 2 + 8000 + 2 + 8000) + 3) + 8001 + 8001 + 8001) _ _
  have hb3 : ∀ a b : Nat, ¬ (26 ≤ a ∧ a < 30 ∧ b % 8 = v) → h3 (a, b) = h1 (a, b) := fun a b hn => (m2 a b (by omega)).trans (hn2 a b (by omega))
  have hz3 : ∀ a b : Nat, ¬ (20 ≤ a ∧ a < 30 ∧ b = v) → h3 (a, b) = h (a, b) := fun a b hn => (m2 a b (by omega)).trans ((hn2 a b (by omega)).trans (hz1 a b (by omega)))
  have o2_3 := o2.fr (fun a b z => hb3 a b (by omega))
  have o3_3 := o3.fr (fun a b z => hb3 a b (by omega))
  have o4_3 := (hb3 _ _ (by omega)).trans o4
  have hs3 := (hb3 20 v (by omega)).trans o1
  refine zX.putf ⟨rfl, rfl⟩ hs3 rfl (by omega) rfl ?_
  show zX _ 35 30 [(0, .inr (20, v)), (1, zi (v : Int)), (2, zi me), (3, zi fi), (4, zi (sz : Int)), (5, zi (gr : Int)), (6, .inr (2, 0))] [] (((c + 1 + 1 + 1 + 1 + 1) + 1) + 1 + 1 + 1) (((s + 8 + 2 + 8000 + 2 + 8000) + 3) + 8001 + 8001 + 8001) (xup h3 (20, v) (.inl (6, [zi (v : Int), zi (zbi false), zi fi, zi (sz : Int), zi (gr : Int), .inr (2, 0), .inr (21, v), .inr (23, v), .inr (25, v), .inl (.int 0), zi 0, .inr (26, v), .inl .null, .inl .null, .inl .null]))) _
  generalize hh4 : xup h3 (20, v) (.inl (6, [zi (v : Int), zi (zbi false), zi fi, zi (sz : Int), zi (gr : Int), .inr (2, 0), .inr (21, v), .inr (23, v), .inr (25, v), .inl (.int 0), zi 0, .inr (26, v), .inl .null, .inl .null, .inl .null])) = h4
  have hs4 : h4 (20, v) = some (.inl (6, [zi (v : Int), zi (zbi false), zi fi, zi (sz : Int), zi (gr : Int), .inr (2, 0), .inr (21, v), .inr (23, v), .inr (25, v), .inl (.int 0), zi 0, .inr (26, v), .inl .null, .inl .null, .inl .null])) := by
    rw [← hh4]
    exact zup_s
  have hn4 : ∀ a b : Nat, ¬ (a = 20 ∧ b = v) → h4 (a, b) = h3 (a, b) := fun a b hn => by
    rw [← hh4]
    exact zup_n (zn (by omega)) rfl
  have hz4 : ∀ a b : Nat, ¬ (20 ≤ a ∧ a < 30 ∧ b = v) → h4 (a, b) = h (a, b) := fun a b hn => (hn4 a b (by omega)).trans (hz3 a b (by omega))
  have o2_4 := o2_3.fr (fun a b z => hn4 a b (by omega))
  have o3_4 := o3_3.fr (fun a b z => hn4 a b (by omega))
  have o4_4 := (hn4 _ _ (by omega)).trans o4_3
  have r2_4 := r2.fr (fun a b z => hn4 a b (by omega))
  refine zX.sn 1 (pc2 := 31) (l2 := [(0, .inr (20, v)), (1, zi (v : Int)), (2, zi me), (3, zi fi), (4, zi (sz : Int)), (5, zi (gr : Int)), (6, .inr (2, 0))]) (st2 := [.inr (20, v)]) rfl ?_
  refine zX.new (30, v) ⟨rfl, rfl⟩ ((hz4 _ _ (by omega)).trans (hF 30 v (by omega) (by omega) (by omega) (by omega))) (by omega) ?_
  show zX _ 35 34 [(0, .inr (20, v)), (1, zi (v : Int)), (2, zi me), (3, zi fi), (4, zi (sz : Int)), (5, zi (gr : Int)), (6, .inr (2, 0))] [.inr (30, v), .inr (20, v)] ((((c + 1 + 1 + 1 + 1 + 1) + 1) + 1 + 1 + 1) + 1) ((((s + 8 + 2 + 8000 + 2 + 8000) + 3) + 8001 + 8001 + 8001) + 3) (xup h4 (30, v) (.inl (7, [.inl .null, .inl .null, .inl .null]))) _
  generalize hh5 : xup h4 (30, v) (.inl (7, [.inl .null, .inl .null, .inl .null])) = h5
  have hs5 : h5 (30, v) = some (.inl (7, [.inl .null, .inl .null, .inl .null])) := by
    rw [← hh5]
    exact zup_s
  have hn5 : ∀ a b : Nat, ¬ (a = 30 ∧ b = v) → h5 (a, b) = h4 (a, b) := fun a b hn => by
    rw [← hh5]
    exact zup_n (zn (by omega)) rfl
  have hw5 := (hn5 20 v (by omega)).trans hs4
  refine zX.sn 1 (pc2 := 35) (l2 := [(0, .inr (20, v)), (1, zi (v : Int)), (2, zi me), (3, zi fi), (4, zi (sz : Int)), (5, zi (gr : Int)), (6, .inr (2, 0))]) (st2 := [.inr (30, v), .inr (30, v), .inr (20, v)]) rfl ?_
  refine zX.sn 1 (pc2 := 38) (l2 := [(0, .inr (20, v)), (1, zi (v : Int)), (2, zi me), (3, zi fi), (4, zi (sz : Int)), (5, zi (gr : Int)), (6, .inr (2, 0))]) (st2 := [zi 8000, .inr (30, v), .inr (30, v), .inr (20, v)]) rfl ?_
  rw [show 8000 = ((8000 : Nat) : Int) from rfl]
  refine zX.call (mid2 := 51) (as := [.inr (30, v), zi ((8000 : Nat) : Int)]) (rest := [.inr (30, v), .inr (20, v)]) ⟨rfl, rfl⟩ (fun _ => rfl) rfl ⟨Nat.le_of_ble_eq_true rfl, Nat.le_of_ble_eq_true rfl⟩ ?_
  refine s_talInit (L := 8000) (by omega) (by omega) hs5 ((hn5 _ _ (by omega)).trans ((hz4 _ _ (by omega)).trans (hF 31 v (by omega) (by omega) (by omega) (by omega)))) ((hn5 _ _ (by omega)).trans ((hz4 _ _ (by omega)).trans (hF 32 v (by omega) (by omega) (by omega) (by omega)))) ((hn5 _ _ (by omega)).trans ((hz4 _ _ (by omega)).trans (hF 33 v (by omega) (by omega) (by omega) (by omega)))) (fun h6 r5 m5 => ?_)
  show zX _ 35 41 [(0, .inr (20, v)), (1, zi (v : Int)), (2, zi me), (3, zi fi), (4, zi (sz : Int)), (5, zi (gr : Int)), (6, .inr (2, 0))] [.inr (30, v), .inr (20, v)] (((((c + 1 + 1 + 1 + 1 + 1) + 1) + 1 + 1 + 1) + 1) + 1 + 1 + 1) (((((s + 8 + 2 + 8000 + 2 + 8000) + 3) + 8001 + 8001 + 8001) + 3) + 8000 + 8000 + 8000) _ _
  have hb6 : ∀ a b : Nat, ¬ (30 ≤ a ∧ a < 34 ∧ b % 8 = v) → h6 (a, b) = h4 (a, b) := fun a b hn => (m5 a b (by omega)).trans (hn5 a b (by omega))
  have hz6 : ∀ a b : Nat, ¬ (20 ≤ a ∧ a < 34 ∧ b = v) → h6 (a, b) = h (a, b) := fun a b hn => (m5 a b (by omega)).trans ((hn5 a b (by omega)).trans (hz4 a b (by omega)))
  have o2_6 := o2_4.fr (fun a b z => hb6 a b (by omega))
  have o3_6 := o3_4.fr (fun a b z => hb6 a b (by omega))
  have o4_6 := (hb6 _ _ (by omega)).trans o4_4
  have r2_6 := r2_4.fr (fun a b z => hb6 a b (by omega))
  have hs6 := (hb6 20 v (by omega)).trans hs4
  refine zX.putf ⟨rfl, rfl⟩ hs6 rfl (by omega) rfl ?_
  show zX _ 35 44 [(0, .inr (20, v)), (1, zi (v : Int)), (2, zi me), (3, zi fi), (4, zi (sz : Int)), (5, zi (gr : Int)), (6, .inr (2, 0))] [] (((((c + 1 + 1 + 1 + 1 + 1) + 1) + 1 + 1 + 1) + 1) + 1 + 1 + 1) (((((s + 8 + 2 + 8000 + 2 + 8000) + 3) + 8001 + 8001 + 8001) + 3) + 8000 + 8000 + 8000) (xup h6 (20, v) (.inl (6, [zi (v : Int), zi (zbi false), zi fi, zi (sz : Int), zi (gr : Int), .inr (2, 0), .inr (21, v), .inr (23, v), .inr (25, v), .inl (.int 0), zi 0, .inr (26, v), .inr (30, v), .inl .null, .inl .null]))) _
  generalize hh7 : xup h6 (20, v) (.inl (6, [zi (v : Int), zi (zbi false), zi fi, zi (sz : Int), zi (gr : Int), .inr (2, 0), .inr (21, v), .inr (23, v), .inr (25, v), .inl (.int 0), zi 0, .inr (26, v), .inr (30, v), .inl .null, .inl .null])) = h7
  have hs7 : h7 (20, v) = some (.inl (6, [zi (v : Int), zi (zbi false), zi fi, zi (sz : Int), zi (gr : Int), .inr (2, 0), .inr (21, v), .inr (23, v), .inr (25, v), .inl (.int 0), zi 0, .inr (26, v), .inr (30, v), .inl .null, .inl .null])) := by
    rw [← hh7]
    exact zup_s
  have hn7 : ∀ a b : Nat, ¬ (a = 20 ∧ b = v) → h7 (a, b) = h6 (a, b) := fun a b hn => by
    rw [← hh7]
    exact zup_n (zn (by omega)) rfl
  have hz7 : ∀ a b : Nat, ¬ (20 ≤ a ∧ a < 34 ∧ b = v) → h7 (a, b) = h (a, b) := fun a b hn => (hn7 a b (by omega)).trans (hz6 a b (by omega))
  have o2_7 := o2_6.fr (fun a b z => hn7 a b (by omega))
  have o3_7 := o3_6.fr (fun a b z => hn7 a b (by omega))
  have o4_7 := (hn7 _ _ (by omega)).trans o4_6
  have r2_7 := r2_6.fr (fun a b z => hn7 a b (by omega))
  have r5_7 := r5.fr (fun a b z => hn7 a b (by omega))
  refine zX.sn 1 (pc2 := 45) (l2 := [(0, .inr (20, v)), (1, zi (v : Int)), (2, zi me), (3, zi fi), (4, zi (sz : Int)), (5, zi (gr : Int)), (6, .inr (2, 0))]) (st2 := [.inr (20, v)]) rfl ?_
  refine zX.sn 1 (pc2 := 48) (l2 := [(0, .inr (20, v)), (1, zi (v : Int)), (2, zi me), (3, zi fi), (4, zi (sz : Int)), (5, zi (gr : Int)), (6, .inr (2, 0))]) (st2 := [zi 8000, .inr (20, v)]) rfl ?_
  refine zX.newa (n := 8000) (34, v) ⟨rfl, rfl⟩ ((hz7 _ _ (by omega)).trans (hF 34 v (by omega) (by omega) (by omega) (by omega))) (by omega) rfl (by omega) ?_
  show zX _ 35 50 [(0, .inr (20, v)), (1, zi (v : Int)), (2, zi me), (3, zi fi), (4, zi (sz : Int)), (5, zi (gr : Int)), (6, .inr (2, 0))] [.inr (34, v), .inr (20, v)] ((((((c + 1 + 1 + 1 + 1 + 1) + 1) + 1 + 1 + 1) + 1) + 1 + 1 + 1) + 1) ((((((s + 8 + 2 + 8000 + 2 + 8000) + 3) + 8001 + 8001 + 8001) + 3) + 8000 + 8000 + 8000) + 8000) (xup h7 (34, v) (.inr (0, 8000, zA (fun _ => 0)))) _
  generalize hh8 : xup h7 (34, v) (.inr (0, 8000, zA (fun _ => 0))) = h8
  have hs8 : h8 (34, v) = some (.inr (0, 8000, zA (fun _ => 0))) := by
    rw [← hh8]
    exact zup_s
  have hn8 : ∀ a b : Nat, ¬ (a = 34 ∧ b = v) → h8 (a, b) = h7 (a, b) := fun a b hn => by
    rw [← hh8]
    exact zup_n (zn (by omega)) rfl
  have hz8 : ∀ a b : Nat, ¬ (20 ≤ a ∧ a < 35 ∧ b = v) → h8 (a, b) = h (a, b) := fun a b hn => (hn8 a b (by omega)).trans (hz7 a b (by omega))
  have o2_8 := o2_7.fr (fun a b z => hn8 a b (by omega))
  have o3_8 := o3_7.fr (fun a b z => hn8 a b (by omega))
  have o4_8 := (hn8 _ _ (by omega)).trans o4_7
  have r2_8 := r2_7.fr (fun a b z => hn8 a b (by omega))
  have r5_8 := r5_7.fr (fun a b z => hn8 a b (by omega))
  have ho8 := (hn8 20 v (by omega)).trans hs7
  refine zX.putf ⟨rfl, rfl⟩ ho8 rfl (by omega) rfl ?_
  show zX _ 35 53 [(0, .inr (20, v)), (1, zi (v : Int)), (2, zi me), (3, zi fi), (4, zi (sz : Int)), (5, zi (gr : Int)), (6, .inr (2, 0))] [] ((((((c + 1 + 1 + 1 + 1 + 1) + 1) + 1 + 1 + 1) + 1) + 1 + 1 + 1) + 1) ((((((s + 8 + 2 + 8000 + 2 + 8000) + 3) + 8001 + 8001 + 8001) + 3) + 8000 + 8000 + 8000) + 8000) (xup h8 (20, v) (.inl (6, [zi (v : Int), zi (zbi false), zi fi, zi (sz : Int), zi (gr : Int), .inr (2, 0), .inr (21, v), .inr (23, v), .inr (25, v), .inl (.int 0), zi 0, .inr (26, v), .inr (30, v), .inr (34, v), .inl .null]))) _
  generalize hh9 : xup h8 (20, v) (.inl (6, [zi (v : Int), zi (zbi false), zi fi, zi (sz : Int), zi (gr : Int), .inr (2, 0), .inr (21, v), .inr (23, v), .inr (25, v), .inl (.int 0), zi 0, .inr (26, v), .inr (30, v), .inr (34, v), .inl .null])) = h9
  have hs9 : h9 (20, v) = some (.inl (6, [zi (v : Int), zi (zbi false), zi fi, zi (sz : Int), zi (gr : Int), .inr (2, 0), .inr (21, v), .inr (23, v), .inr (25, v), .inl (.int 0), zi 0, .inr (26, v), .inr (30, v), .inr (34, v), .inl .null])) := by
    rw [← hh9]
    exact zup_s
  have hn9 : ∀ a b : Nat, ¬ (a = 20 ∧ b = v) → h9 (a, b) = h8 (a, b) := fun a b hn => by
    rw [← hh9]
    exact zup_n (zn (by omega)) rfl
  have hz9 : ∀ a b : Nat, ¬ (20 ≤ a ∧ a < 35 ∧ b = v) → h9 (a, b) = h (a, b) := fun a b hn => (hn9 a b (by omega)).trans (hz8 a b (by omega))
  have o2_9 := o2_8.fr (fun a b z => hn9 a b (by omega))
  have o3_9 := o3_8.fr (fun a b z => hn9 a b (by omega))
  have o4_9 := (hn9 _ _ (by omega)).trans o4_8
  have r2_9 := r2_8.fr (fun a b z => hn9 a b (by omega))
  have r5_9 := r5_8.fr (fun a b z => hn9 a b (by omega))
  have hs8_9 := (hn9 _ _ (by omega)).trans hs8
  refine zX.sn 1 (pc2 := 54) (l2 := [(0, .inr (20, v)), (1, zi (v : Int)), (2, zi me), (3, zi fi), (4, zi (sz : Int)), (5, zi (gr : Int)), (6, .inr (2, 0))]) (st2 := [.inr (20, v)]) rfl ?_
  refine zX.sn 1 (pc2 := 55) (l2 := [(0, .inr (20, v)), (1, zi (v : Int)), (2, zi me), (3, zi fi), (4, zi (sz : Int)), (5, zi (gr : Int)), (6, .inr (2, 0))]) (st2 := [zi 2, .inr (20, v)]) rfl ?_
  refine zX.newa (n := 2) (35, v) ⟨rfl, rfl⟩ ((hz9 _ _ (by omega)).trans (hF 35 v (by omega) (by omega) (by omega) (by omega))) (by omega) rfl (by omega) ?_
  show zX _ 35 57 [(0, .inr (20, v)), (1, zi (v : Int)), (2, zi me), (3, zi fi), (4, zi (sz : Int)), (5, zi (gr : Int)), (6, .inr (2, 0))] [.inr (35, v), .inr (20, v)] (((((((c + 1 + 1 + 1 + 1 + 1) + 1) + 1 + 1 + 1) + 1) + 1 + 1 + 1) + 1) + 1) (((((((s + 8 + 2 + 8000 + 2 + 8000) + 3) + 8001 + 8001 + 8001) + 3) + 8000 + 8000 + 8000) + 8000) + 2) (xup h9 (35, v) (.inr (0, 2, zA (fun _ => 0)))) _
  generalize hh10 : xup h9 (35, v) (.inr (0, 2, zA (fun _ => 0))) = h10
  have hs10 : h10 (35, v) = some (.inr (0, 2, zA (fun _ => 0))) := by
    rw [← hh10]
    exact zup_s
  have hn10 : ∀ a b : Nat, ¬ (a = 35 ∧ b = v) → h10 (a, b) = h9 (a, b) := fun a b hn => by
    rw [← hh10]
    exact zup_n (zn (by omega)) rfl
  have hz10 : ∀ a b : Nat, ¬ (20 ≤ a ∧ a < 36 ∧ b = v) → h10 (a, b) = h (a, b) := fun a b hn => (hn10 a b (by omega)).trans (hz9 a b (by omega))
  have o2_10 := o2_9.fr (fun a b z => hn10 a b (by omega))
  have o3_10 := o3_9.fr (fun a b z => hn10 a b (by omega))
  have o4_10 := (hn10 _ _ (by omega)).trans o4_9
  have r2_10 := r2_9.fr (fun a b z => hn10 a b (by omega))
  have r5_10 := r5_9.fr (fun a b z => hn10 a b (by omega))
  have hs8_10 := (hn10 _ _ (by omega)).trans hs8_9
  have ho10 := (hn10 20 v (by omega)).trans hs9
  refine zX.putf ⟨rfl, rfl⟩ ho10 rfl (by omega) rfl ?_
  show zX _ 35 60 [(0, .inr (20, v)), (1, zi (v : Int)), (2, zi me), (3, zi fi), (4, zi (sz : Int)), (5, zi (gr : Int)), (6, .inr (2, 0))] [] (((((((c + 1 + 1 + 1 + 1 + 1) + 1) + 1 + 1 + 1) + 1) + 1 + 1 + 1) + 1) + 1) (((((((s + 8 + 2 + 8000 + 2 + 8000) + 3) + 8001 + 8001 + 8001) + 3) + 8000 + 8000 + 8000) + 8000) + 2) (xup h10 (20, v) (.inl (6, [zi (v : Int), zi (zbi false), zi fi, zi (sz : Int), zi (gr : Int), .inr (2, 0), .inr (21, v), .inr (23, v), .inr (25, v), .inl (.int 0), zi 0, .inr (26, v), .inr (30, v), .inr (34, v), .inr (35, v)]))) _
  generalize hh11 : xup h10 (20, v) (.inl (6, [zi (v : Int), zi (zbi false), zi fi, zi (sz : Int), zi (gr : Int), .inr (2, 0), .inr (21, v), .inr (23, v), .inr (25, v), .inl (.int 0), zi 0, .inr (26, v), .inr (30, v), .inr (34, v), .inr (35, v)])) = h11
  have hs11 : h11 (20, v) = some (.inl (6, [zi (v : Int), zi (zbi false), zi fi, zi (sz : Int), zi (gr : Int), .inr (2, 0), .inr (21, v), .inr (23, v), .inr (25, v), .inl (.int 0), zi 0, .inr (26, v), .inr (30, v), .inr (34, v), .inr (35, v)])) := by
    rw [← hh11]
    exact zup_s
  have hn11 : ∀ a b : Nat, ¬ (a = 20 ∧ b = v) → h11 (a, b) = h10 (a, b) := fun a b hn => by
    rw [← hh11]
    exact zup_n (zn (by omega)) rfl
  have hz11 : ∀ a b : Nat, ¬ (20 ≤ a ∧ a < 36 ∧ b = v) → h11 (a, b) = h (a, b) := fun a b hn => (hn11 a b (by omega)).trans (hz10 a b (by omega))
  have o2_11 := o2_10.fr (fun a b z => hn11 a b (by omega))
  have o3_11 := o3_10.fr (fun a b z => hn11 a b (by omega))
  have o4_11 := (hn11 _ _ (by omega)).trans o4_10
  have r2_11 := r2_10.fr (fun a b z => hn11 a b (by omega))
  have r5_11 := r5_10.fr (fun a b z => hn11 a b (by omega))
  have hs8_11 := (hn11 _ _ (by omega)).trans hs8_10
  have hs10_11 := (hn11 _ _ (by omega)).trans hs10
  refine zX.sn 1 (pc2 := 61) (l2 := [(0, .inr (20, v)), (1, zi (v : Int)), (2, zi me), (3, zi fi), (4, zi (sz : Int)), (5, zi (gr : Int)), (6, .inr (2, 0))]) (st2 := [.inr (20, v)]) rfl ?_
  refine zX.sn 1 (pc2 := 62) (l2 := [(0, .inr (20, v)), (1, zi (v : Int)), (2, zi me), (3, zi fi), (4, zi (sz : Int)), (5, zi (gr : Int)), (6, .inr (2, 0))]) (st2 := [zi me, .inr (20, v)]) rfl ?_
  refine zX.putf ⟨rfl, rfl⟩ hs11 rfl (by omega) (by rcases hme with z | z | z <;> (rw [z]; decide)) ?_
  show zX _ 35 65 [(0, .inr (20, v)), (1, zi (v : Int)), (2, zi me), (3, zi fi), (4, zi (sz : Int)), (5, zi (gr : Int)), (6, .inr (2, 0))] [] (((((((c + 1 + 1 + 1 + 1 + 1) + 1) + 1 + 1 + 1) + 1) + 1 + 1 + 1) + 1) + 1) (((((((s + 8 + 2 + 8000 + 2 + 8000) + 3) + 8001 + 8001 + 8001) + 3) + 8000 + 8000 + 8000) + 8000) + 2) (xup h11 (20, v) (.inl (6, [zi (v : Int), zi (zbi false), zi fi, zi (sz : Int), zi (gr : Int), .inr (2, 0), .inr (21, v), .inr (23, v), .inr (25, v), .inl (.int 0), zi me, .inr (26, v), .inr (30, v), .inr (34, v), .inr (35, v)]))) _
  generalize hh12 : xup h11 (20, v) (.inl (6, [zi (v : Int), zi (zbi false), zi fi, zi (sz : Int), zi (gr : Int), .inr (2, 0), .inr (21, v), .inr (23, v), .inr (25, v), .inl (.int 0), zi me, .inr (26, v), .inr (30, v), .inr (34, v), .inr (35, v)])) = h12
  have hs12 : h12 (20, v) = some (.inl (6, [zi (v : Int), zi (zbi false), zi fi, zi (sz : Int), zi (gr : Int), .inr (2, 0), .inr (21, v), .inr (23, v), .inr (25, v), .inl (.int 0), zi me, .inr (26, v), .inr (30, v), .inr (34, v), .inr (35, v)])) := by
    rw [← hh12]
    exact zup_s
  have hn12 : ∀ a b : Nat, ¬ (a = 20 ∧ b = v) → h12 (a, b) = h11 (a, b) := fun a b hn => by
    rw [← hh12]
    exact zup_n (zn (by omega)) rfl
  have hz12 : ∀ a b : Nat, ¬ (20 ≤ a ∧ a < 36 ∧ b = v) → h12 (a, b) = h (a, b) := fun a b hn => (hn12 a b (by omega)).trans (hz11 a b (by omega))
  have o2_12 := o2_11.fr (fun a b z => hn12 a b (by omega))
  have o3_12 := o3_11.fr (fun a b z => hn12 a b (by omega))
  have o4_12 := (hn12 _ _ (by omega)).trans o4_11
  have r2_12 := r2_11.fr (fun a b z => hn12 a b (by omega))
  have r5_12 := r5_11.fr (fun a b z => hn12 a b (by omega))
  have hs8_12 := (hn12 _ _ (by omega)).trans hs8_11
  have hs10_12 := (hn12 _ _ (by omega)).trans hs10_11
  refine zX.ret rfl rfl ?_
  have hO : zOut h12 N out := hOut.fr (fun a b z => hz12 a b (by omega))
  refine q h12 ?_ (fun a b hn => hz12 a b (by omega))
  exact Or.inr (Or.inl ⟨⟨rfl, rfl, rfl, rfl⟩, ⟨⟨hv, hfi, hsz, hgr⟩, hme⟩, hs12, o2_12, o4_12, ⟨_, r2_12⟩, hs8_12, ⟨_, hs10_12⟩, hO, ⟨_, o3_12⟩, ⟨_, _, _, r5_12⟩, fun j => ⟨(show (0 : Int) ≤ 0 by decide), (show (0 : Int) ≤ 1000 by decide)⟩⟩)
set_option maxHeartbeats 4000000 in
theorem s_joiInit {v sz gr c s N : Nat} {fi : Int} {g : Nat → xV} {me : Int} {sp : Nat} {out : List Int64} {h : xH} (hv : v < 5) (hfi : fi = 97 ∨ fi = 101 ∨ fi = 112) (hsz : 1 ≤ sz ∧ sz ≤ 200) (hgr : gr ≤ 200) (hemp : h (0, 1) = some (.inr (4, 0, g))) (hOut : zOut h N out) (ho : h (20, v) = some (.inl (2, [zi 0, zi 0, zi 0, zi 0, zi 0, .inl .null, .inl .null, .inl .null, .inl .null, zi 0, .inl .null]))) (hF : ∀ a b : Nat, 20 ≤ a → a < 60 → (a ≠ 20 ∨ b ≠ v) → (b % 8 = v → h (a, b) = none))
    (q : ∀ h1 : xH, zVi h1 N 0 0 0 v (2, fi, sz, gr, me, sp) (zS0, out) → (∀ a b : Nat, ¬ (20 ≤ a ∧ a < 60 ∧ b % 8 = v) → h1 (a, b) = h (a, b)) → Q (.inl none) ((c + 1 + 1 + 1 + 1 + 1) + 1) ((s + 8 + 2 + 12800 + 2 + 12800) + 3) h1) : zX (d + 3) 2 0 [(0, .inr (20, v)), (1, zi (v : Int)), (2, zi fi), (3, zi (sz : Int)), (4, zi (gr : Int)), (5, .inr (2, 0))] [] c s h Q := by
  refine zX.sn 1 (pc2 := 1) (l2 := [(0, .inr (20, v)), (1, zi (v : Int)), (2, zi fi), (3, zi (sz : Int)), (4, zi (gr : Int)), (5, .inr (2, 0))]) (st2 := [.inr (20, v)]) rfl ?_
  refine zX.sn 1 (pc2 := 2) (l2 := [(0, .inr (20, v)), (1, zi (v : Int)), (2, zi fi), (3, zi (sz : Int)), (4, zi (gr : Int)), (5, .inr (2, 0))]) (st2 := [zi (v : Int), .inr (20, v)]) rfl ?_
  refine zX.sn 1 (pc2 := 3) (l2 := [(0, .inr (20, v)), (1, zi (v : Int)), (2, zi fi), (3, zi (sz : Int)), (4, zi (gr : Int)), (5, .inr (2, 0))]) (st2 := [zi 1, zi (v : Int), .inr (20, v)]) rfl ?_
  refine zX.sn 1 (pc2 := 4) (l2 := [(0, .inr (20, v)), (1, zi (v : Int)), (2, zi fi), (3, zi (sz : Int)), (4, zi (gr : Int)), (5, .inr (2, 0))]) (st2 := [zi fi, zi 1, zi (v : Int), .inr (20, v)]) rfl ?_
  refine zX.sn 1 (pc2 := 5) (l2 := [(0, .inr (20, v)), (1, zi (v : Int)), (2, zi fi), (3, zi (sz : Int)), (4, zi (gr : Int)), (5, .inr (2, 0))]) (st2 := [zi (sz : Int), zi fi, zi 1, zi (v : Int), .inr (20, v)]) rfl ?_
  refine zX.sn 1 (pc2 := 7) (l2 := [(0, .inr (20, v)), (1, zi (v : Int)), (2, zi fi), (3, zi (sz : Int)), (4, zi (gr : Int)), (5, .inr (2, 0))]) (st2 := [zi (gr : Int), zi (sz : Int), zi fi, zi 1, zi (v : Int), .inr (20, v)]) rfl ?_
  refine zX.sn 1 (pc2 := 9) (l2 := [(0, .inr (20, v)), (1, zi (v : Int)), (2, zi fi), (3, zi (sz : Int)), (4, zi (gr : Int)), (5, .inr (2, 0))]) (st2 := [.inr (2, 0), zi (gr : Int), zi (sz : Int), zi fi, zi 1, zi (v : Int), .inr (20, v)]) rfl ?_
  refine zX.sn 1 (pc2 := 12) (l2 := [(0, .inr (20, v)), (1, zi (v : Int)), (2, zi fi), (3, zi (sz : Int)), (4, zi (gr : Int)), (5, .inr (2, 0))]) (st2 := [zi 12800, .inr (2, 0), zi (gr : Int), zi (sz : Int), zi fi, zi 1, zi (v : Int), .inr (20, v)]) rfl ?_
  refine zX.call (mid2 := 74) (as := [.inr (20, v), zi (v : Int), zi 1, zi fi, zi (sz : Int), zi (gr : Int), .inr (2, 0), zi 12800]) (rest := []) ⟨rfl, rfl⟩ (fun _ => rfl) rfl ⟨Nat.le_of_ble_eq_true rfl, Nat.le_of_ble_eq_true rfl⟩ ?_
  refine s_viewInit (L := 12800) (d := (d + 1)) (ci := 2) (bs := true) (fi := fi) (sz := sz) (gr := gr) (tl := [.inl .null]) hv hfi (by omega) (by omega) ho (fun a h1 h2 => hF a v h1.1 h1.2 (by omega) (by omega)) (fun h1 o1 o2 o3 o4 o5 => ?_)
  show zX _ 2 15 [(0, .inr (20, v)), (1, zi (v : Int)), (2, zi fi), (3, zi (sz : Int)), (4, zi (gr : Int)), (5, .inr (2, 0))] [] (c + 1 + 1 + 1 + 1 + 1) (s + 8 + 2 + 12800 + 2 + 12800) _ _
  have hz1 : ∀ a b : Nat, ¬ (20 ≤ a ∧ a < 26 ∧ b = v) → h1 (a, b) = h (a, b) := o5
  refine zX.sn 1 (pc2 := 16) (l2 := [(0, .inr (20, v)), (1, zi (v : Int)), (2, zi fi), (3, zi (sz : Int)), (4, zi (gr : Int)), (5, .inr (2, 0))]) (st2 := [.inr (20, v)]) rfl ?_
  refine zX.new (36, v) ⟨rfl, rfl⟩ ((hz1 _ _ (by omega)).trans (hF 36 v (by omega) (by omega) (by omega) (by omega))) (by omega) ?_
  show zX _ 2 19 [(0, .inr (20, v)), (1, zi (v : Int)), (2, zi fi), (3, zi (sz : Int)), (4, zi (gr : Int)), (5, .inr (2, 0))] [.inr (36, v), .inr (20, v)] ((c + 1 + 1 + 1 + 1 + 1) + 1) ((s + 8 + 2 + 12800 + 2 + 12800) + 3) (xup h1 (36, v) (.inl (0, [zi 0, .inl .null, zi 0]))) _
  generalize hh2 : xup h1 (36, v) (.inl (0, [zi 0, .inl .null, zi 0])) = h2
  have hs2 : h2 (36, v) = some (.inl (0, [zi 0, .inl .null, zi 0])) := by
    rw [← hh2]
    exact zup_s
  have hn2 : ∀ a b : Nat, ¬ (a = 36 ∧ b = v) → h2 (a, b) = h1 (a, b) := fun a b hn => by
    rw [← hh2]
    exact zup_n (zn (by omega)) rfl
  have hw2 := (hn2 20 v (by omega)).trans o1
  refine zX.sn 1 (pc2 := 20) (l2 := [(0, .inr (20, v)), (1, zi (v : Int)), (2, zi fi), (3, zi (sz : Int)), (4, zi (gr : Int)), (5, .inr (2, 0))]) (st2 := [.inr (36, v), .inr (36, v), .inr (20, v)]) rfl ?_
  refine zX.call (mid2 := 147) (as := [.inr (36, v)]) (rest := [.inr (36, v), .inr (20, v)]) ⟨rfl, rfl⟩ (fun _ => rfl) rfl ⟨Nat.le_of_ble_eq_true rfl, Nat.le_of_ble_eq_true rfl⟩ ?_
  refine s_listInit (d := d) (by omega) ((hn2 _ _ (by omega)).trans ((hz1 _ _ (by omega)).trans hemp)) hs2 (fun M hM => (hn2 _ _ (by omega)).trans ((hz1 _ _ (by omega)).trans (hF 37 _ (by omega) (by omega) (by omega) (by omega)))) (fun h3 r2 m2 => ?_)
  show zX _ 2 23 [(0, .inr (20, v)), (1, zi (v : Int)), (2, zi fi), (3, zi (sz : Int)), (4, zi (gr : Int)), (5, .inr (2, 0))] [.inr (36, v), .inr (20, v)] ((c + 1 + 1 + 1 + 1 + 1) + 1) ((s + 8 + 2 + 12800 + 2 + 12800) + 3) _ _
  have hb3 : ∀ a b : Nat, ¬ (36 ≤ a ∧ a < 38 ∧ b % 8 = v) → h3 (a, b) = h1 (a, b) := fun a b hn => (m2 a b (by omega)).trans (hn2 a b (by omega))
  have hz3 : ∀ a b : Nat, ¬ (20 ≤ a ∧ a < 38 ∧ b = v) → h3 (a, b) = h (a, b) := fun a b hn => (m2 a b (by omega)).trans ((hn2 a b (by omega)).trans (hz1 a b (by omega)))
  have o2_3 := o2.fr (fun a b z => hb3 a b (by omega))
  have o3_3 := o3.fr (fun a b z => hb3 a b (by omega))
  have o4_3 := (hb3 _ _ (by omega)).trans o4
  have hs3 := (hb3 20 v (by omega)).trans o1
  refine zX.putf ⟨rfl, rfl⟩ hs3 rfl (by omega) rfl ?_
  show zX _ 2 26 [(0, .inr (20, v)), (1, zi (v : Int)), (2, zi fi), (3, zi (sz : Int)), (4, zi (gr : Int)), (5, .inr (2, 0))] [] ((c + 1 + 1 + 1 + 1 + 1) + 1) ((s + 8 + 2 + 12800 + 2 + 12800) + 3) (xup h3 (20, v) (.inl (2, [zi (v : Int), zi (zbi true), zi fi, zi (sz : Int), zi (gr : Int), .inr (2, 0), .inr (21, v), .inr (23, v), .inr (25, v), .inl (.int 0), .inr (36, v)]))) _
  generalize hh4 : xup h3 (20, v) (.inl (2, [zi (v : Int), zi (zbi true), zi fi, zi (sz : Int), zi (gr : Int), .inr (2, 0), .inr (21, v), .inr (23, v), .inr (25, v), .inl (.int 0), .inr (36, v)])) = h4
  have hs4 : h4 (20, v) = some (.inl (2, [zi (v : Int), zi (zbi true), zi fi, zi (sz : Int), zi (gr : Int), .inr (2, 0), .inr (21, v), .inr (23, v), .inr (25, v), .inl (.int 0), .inr (36, v)])) := by
    rw [← hh4]
    exact zup_s
  have hn4 : ∀ a b : Nat, ¬ (a = 20 ∧ b = v) → h4 (a, b) = h3 (a, b) := fun a b hn => by
    rw [← hh4]
    exact zup_n (zn (by omega)) rfl
  have hz4 : ∀ a b : Nat, ¬ (20 ≤ a ∧ a < 38 ∧ b = v) → h4 (a, b) = h (a, b) := fun a b hn => (hn4 a b (by omega)).trans (hz3 a b (by omega))
  have o2_4 := o2_3.fr (fun a b z => hn4 a b (by omega))
  have o3_4 := o3_3.fr (fun a b z => hn4 a b (by omega))
  have o4_4 := (hn4 _ _ (by omega)).trans o4_3
  have r2_4 := r2.fr (fun a b z => hn4 a b (by omega))
  refine zX.ret rfl rfl ?_
  have hO : zOut h4 N out := hOut.fr (fun a b z => hz4 a b (by omega))
  refine q h4 ?_ (fun a b hn => hz4 a b (by omega))
  exact Or.inr (Or.inr (Or.inl ⟨⟨rfl, rfl, rfl⟩, ⟨hv, hfi, hsz, hgr⟩, ⟨hs4, o2_4, o4_4, r2_4, hO, _, o3_4⟩, fun x hx => by cases hx⟩))
set_option maxHeartbeats 4000000 in
theorem s_verInit {v sz gr c s N : Nat} {fi : Int} {g : Nat → xV} {me : Int} {sp : Nat} {out : List Int64} {h : xH} (hv : v < 5) (hfi : fi = 97 ∨ fi = 101 ∨ fi = 112) (hsz : 1 ≤ sz ∧ sz ≤ 200) (hgr : gr ≤ 200) (hemp : h (0, 1) = some (.inr (4, 0, g))) (hOut : zOut h N out) (ho : h (20, v) = some (.inl (8, [zi 0, zi 0, zi 0, zi 0, zi 0, .inl .null, .inl .null, .inl .null, .inl .null, zi 0, .inl .null, .inl .null, .inl .null]))) (hF : ∀ a b : Nat, 20 ≤ a → a < 60 → (a ≠ 20 ∨ b ≠ v) → (b % 8 = v → h (a, b) = none))
    (q : ∀ h1 : xH, zVi h1 N 0 0 0 v (8, fi, sz, gr, me, sp) (zS0, out) → (∀ a b : Nat, ¬ (20 ≤ a ∧ a < 60 ∧ b % 8 = v) → h1 (a, b) = h (a, b)) → Q (.inl none) ((((c + 1 + 1 + 1 + 1 + 1) + 1) + 1) + 1) ((((s + 8 + 2 + 240 + 2 + 240) + 3) + 3) + 3) h1) : zX (d + 3) 60 0 [(0, .inr (20, v)), (1, zi (v : Int)), (2, zi fi), (3, zi (sz : Int)), (4, zi (gr : Int)), (5, .inr (2, 0))] [] c s h Q := by
  refine zX.sn 1 (pc2 := 1) (l2 := [(0, .inr (20, v)), (1, zi (v : Int)), (2, zi fi), (3, zi (sz : Int)), (4, zi (gr : Int)), (5, .inr (2, 0))]) (st2 := [.inr (20, v)]) rfl ?_
  refine zX.sn 1 (pc2 := 2) (l2 := [(0, .inr (20, v)), (1, zi (v : Int)), (2, zi fi), (3, zi (sz : Int)), (4, zi (gr : Int)), (5, .inr (2, 0))]) (st2 := [zi (v : Int), .inr (20, v)]) rfl ?_
  refine zX.sn 1 (pc2 := 3) (l2 := [(0, .inr (20, v)), (1, zi (v : Int)), (2, zi fi), (3, zi (sz : Int)), (4, zi (gr : Int)), (5, .inr (2, 0))]) (st2 := [zi 1, zi (v : Int), .inr (20, v)]) rfl ?_
  refine zX.sn 1 (pc2 := 4) (l2 := [(0, .inr (20, v)), (1, zi (v : Int)), (2, zi fi), (3, zi (sz : Int)), (4, zi (gr : Int)), (5, .inr (2, 0))]) (st2 := [zi fi, zi 1, zi (v : Int), .inr (20, v)]) rfl ?_
  refine zX.sn 1 (pc2 := 5) (l2 := [(0, .inr (20, v)), (1, zi (v : Int)), (2, zi fi), (3, zi (sz : Int)), (4, zi (gr : Int)), (5, .inr (2, 0))]) (st2 := [zi (sz : Int), zi fi, zi 1, zi (v : Int), .inr (20, v)]) rfl ?_
  refine zX.sn 1 (pc2 := 7) (l2 := [(0, .inr (20, v)), (1, zi (v : Int)), (2, zi fi), (3, zi (sz : Int)), (4, zi (gr : Int)), (5, .inr (2, 0))]) (st2 := [zi (gr : Int), zi (sz : Int), zi fi, zi 1, zi (v : Int), .inr (20, v)]) rfl ?_
  refine zX.sn 1 (pc2 := 9) (l2 := [(0, .inr (20, v)), (1, zi (v : Int)), (2, zi fi), (3, zi (sz : Int)), (4, zi (gr : Int)), (5, .inr (2, 0))]) (st2 := [.inr (2, 0), zi (gr : Int), zi (sz : Int), zi fi, zi 1, zi (v : Int), .inr (20, v)]) rfl ?_
  refine zX.sn 1 (pc2 := 12) (l2 := [(0, .inr (20, v)), (1, zi (v : Int)), (2, zi fi), (3, zi (sz : Int)), (4, zi (gr : Int)), (5, .inr (2, 0))]) (st2 := [zi 240, .inr (2, 0), zi (gr : Int), zi (sz : Int), zi fi, zi 1, zi (v : Int), .inr (20, v)]) rfl ?_
  refine zX.call (mid2 := 74) (as := [.inr (20, v), zi (v : Int), zi 1, zi fi, zi (sz : Int), zi (gr : Int), .inr (2, 0), zi 240]) (rest := []) ⟨rfl, rfl⟩ (fun _ => rfl) rfl ⟨Nat.le_of_ble_eq_true rfl, Nat.le_of_ble_eq_true rfl⟩ ?_
  refine s_viewInit (L := 240) (d := (d + 1)) (ci := 8) (bs := true) (fi := fi) (sz := sz) (gr := gr) (tl := [.inl .null, .inl .null, .inl .null]) hv hfi (by omega) (by omega) ho (fun a h1 h2 => hF a v h1.1 h1.2 (by omega) (by omega)) (fun h1 o1 o2 o3 o4 o5 => ?_)
  show zX _ 60 15 [(0, .inr (20, v)), (1, zi (v : Int)), (2, zi fi), (3, zi (sz : Int)), (4, zi (gr : Int)), (5, .inr (2, 0))] [] (c + 1 + 1 + 1 + 1 + 1) (s + 8 + 2 + 240 + 2 + 240) _ _
  have hz1 : ∀ a b : Nat, ¬ (20 ≤ a ∧ a < 26 ∧ b = v) → h1 (a, b) = h (a, b) := o5
  refine zX.sn 1 (pc2 := 16) (l2 := [(0, .inr (20, v)), (1, zi (v : Int)), (2, zi fi), (3, zi (sz : Int)), (4, zi (gr : Int)), (5, .inr (2, 0))]) (st2 := [.inr (20, v)]) rfl ?_
  refine zX.new (36, v) ⟨rfl, rfl⟩ ((hz1 _ _ (by omega)).trans (hF 36 v (by omega) (by omega) (by omega) (by omega))) (by omega) ?_
  show zX _ 60 19 [(0, .inr (20, v)), (1, zi (v : Int)), (2, zi fi), (3, zi (sz : Int)), (4, zi (gr : Int)), (5, .inr (2, 0))] [.inr (36, v), .inr (20, v)] ((c + 1 + 1 + 1 + 1 + 1) + 1) ((s + 8 + 2 + 240 + 2 + 240) + 3) (xup h1 (36, v) (.inl (0, [zi 0, .inl .null, zi 0]))) _
  generalize hh2 : xup h1 (36, v) (.inl (0, [zi 0, .inl .null, zi 0])) = h2
  have hs2 : h2 (36, v) = some (.inl (0, [zi 0, .inl .null, zi 0])) := by
    rw [← hh2]
    exact zup_s
  have hn2 : ∀ a b : Nat, ¬ (a = 36 ∧ b = v) → h2 (a, b) = h1 (a, b) := fun a b hn => by
    rw [← hh2]
    exact zup_n (zn (by omega)) rfl
  have hw2 := (hn2 20 v (by omega)).trans o1
  refine zX.sn 1 (pc2 := 20) (l2 := [(0, .inr (20, v)), (1, zi (v : Int)), (2, zi fi), (3, zi (sz : Int)), (4, zi (gr : Int)), (5, .inr (2, 0))]) (st2 := [.inr (36, v), .inr (36, v), .inr (20, v)]) rfl ?_
  refine zX.call (mid2 := 147) (as := [.inr (36, v)]) (rest := [.inr (36, v), .inr (20, v)]) ⟨rfl, rfl⟩ (fun _ => rfl) rfl ⟨Nat.le_of_ble_eq_true rfl, Nat.le_of_ble_eq_true rfl⟩ ?_
  refine s_listInit (d := d) (by omega) ((hn2 _ _ (by omega)).trans ((hz1 _ _ (by omega)).trans hemp)) hs2 (fun M hM => (hn2 _ _ (by omega)).trans ((hz1 _ _ (by omega)).trans (hF 37 _ (by omega) (by omega) (by omega) (by omega)))) (fun h3 r2 m2 => ?_)
  show zX _ 60 23 [(0, .inr (20, v)), (1, zi (v : Int)), (2, zi fi), (3, zi (sz : Int)), (4, zi (gr : Int)), (5, .inr (2, 0))] [.inr (36, v), .inr (20, v)] ((c + 1 + 1 + 1 + 1 + 1) + 1) ((s + 8 + 2 + 240 + 2 + 240) + 3) _ _
  have hb3 : ∀ a b : Nat, ¬ (36 ≤ a ∧ a < 38 ∧ b % 8 = v) → h3 (a, b) = h1 (a, b) := fun a b hn => (m2 a b (by omega)).trans (hn2 a b (by omega))
  have hz3 : ∀ a b : Nat, ¬ (20 ≤ a ∧ a < 38 ∧ b = v) → h3 (a, b) = h (a, b) := fun a b hn => (m2 a b (by omega)).trans ((hn2 a b (by omega)).trans (hz1 a b (by omega)))
  have o2_3 := o2.fr (fun a b z => hb3 a b (by omega))
  have o3_3 := o3.fr (fun a b z => hb3 a b (by omega))
  have o4_3 := (hb3 _ _ (by omega)).trans o4
  have hs3 := (hb3 20 v (by omega)).trans o1
  refine zX.putf ⟨rfl, rfl⟩ hs3 rfl (by omega) rfl ?_
  show zX _ 60 26 [(0, .inr (20, v)), (1, zi (v : Int)), (2, zi fi), (3, zi (sz : Int)), (4, zi (gr : Int)), (5, .inr (2, 0))] [] ((c + 1 + 1 + 1 + 1 + 1) + 1) ((s + 8 + 2 + 240 + 2 + 240) + 3) (xup h3 (20, v) (.inl (8, [zi (v : Int), zi (zbi true), zi fi, zi (sz : Int), zi (gr : Int), .inr (2, 0), .inr (21, v), .inr (23, v), .inr (25, v), .inl (.int 0), .inr (36, v), .inl .null, .inl .null]))) _
  generalize hh4 : xup h3 (20, v) (.inl (8, [zi (v : Int), zi (zbi true), zi fi, zi (sz : Int), zi (gr : Int), .inr (2, 0), .inr (21, v), .inr (23, v), .inr (25, v), .inl (.int 0), .inr (36, v), .inl .null, .inl .null])) = h4
  have hs4 : h4 (20, v) = some (.inl (8, [zi (v : Int), zi (zbi true), zi fi, zi (sz : Int), zi (gr : Int), .inr (2, 0), .inr (21, v), .inr (23, v), .inr (25, v), .inl (.int 0), .inr (36, v), .inl .null, .inl .null])) := by
    rw [← hh4]
    exact zup_s
  have hn4 : ∀ a b : Nat, ¬ (a = 20 ∧ b = v) → h4 (a, b) = h3 (a, b) := fun a b hn => by
    rw [← hh4]
    exact zup_n (zn (by omega)) rfl
  have hz4 : ∀ a b : Nat, ¬ (20 ≤ a ∧ a < 38 ∧ b = v) → h4 (a, b) = h (a, b) := fun a b hn => (hn4 a b (by omega)).trans (hz3 a b (by omega))
  have o2_4 := o2_3.fr (fun a b z => hn4 a b (by omega))
  have o3_4 := o3_3.fr (fun a b z => hn4 a b (by omega))
  have o4_4 := (hn4 _ _ (by omega)).trans o4_3
  have r2_4 := r2.fr (fun a b z => hn4 a b (by omega))
  refine zX.sn 1 (pc2 := 27) (l2 := [(0, .inr (20, v)), (1, zi (v : Int)), (2, zi fi), (3, zi (sz : Int)), (4, zi (gr : Int)), (5, .inr (2, 0))]) (st2 := [.inr (20, v)]) rfl ?_
  refine zX.new (38, v) ⟨rfl, rfl⟩ ((hz4 _ _ (by omega)).trans (hF 38 v (by omega) (by omega) (by omega) (by omega))) (by omega) ?_
  show zX _ 60 30 [(0, .inr (20, v)), (1, zi (v : Int)), (2, zi fi), (3, zi (sz : Int)), (4, zi (gr : Int)), (5, .inr (2, 0))] [.inr (38, v), .inr (20, v)] (((c + 1 + 1 + 1 + 1 + 1) + 1) + 1) (((s + 8 + 2 + 240 + 2 + 240) + 3) + 3) (xup h4 (38, v) (.inl (0, [zi 0, .inl .null, zi 0]))) _
  generalize hh5 : xup h4 (38, v) (.inl (0, [zi 0, .inl .null, zi 0])) = h5
  have hs5 : h5 (38, v) = some (.inl (0, [zi 0, .inl .null, zi 0])) := by
    rw [← hh5]
    exact zup_s
  have hn5 : ∀ a b : Nat, ¬ (a = 38 ∧ b = v) → h5 (a, b) = h4 (a, b) := fun a b hn => by
    rw [← hh5]
    exact zup_n (zn (by omega)) rfl
  have hw5 := (hn5 20 v (by omega)).trans hs4
  refine zX.sn 1 (pc2 := 31) (l2 := [(0, .inr (20, v)), (1, zi (v : Int)), (2, zi fi), (3, zi (sz : Int)), (4, zi (gr : Int)), (5, .inr (2, 0))]) (st2 := [.inr (38, v), .inr (38, v), .inr (20, v)]) rfl ?_
  refine zX.call (mid2 := 147) (as := [.inr (38, v)]) (rest := [.inr (38, v), .inr (20, v)]) ⟨rfl, rfl⟩ (fun _ => rfl) rfl ⟨Nat.le_of_ble_eq_true rfl, Nat.le_of_ble_eq_true rfl⟩ ?_
  refine s_listInit (d := d) (by omega) ((hn5 _ _ (by omega)).trans ((hz4 _ _ (by omega)).trans hemp)) hs5 (fun M hM => (hn5 _ _ (by omega)).trans ((hz4 _ _ (by omega)).trans (hF 39 _ (by omega) (by omega) (by omega) (by omega)))) (fun h6 r5 m5 => ?_)
  show zX _ 60 34 [(0, .inr (20, v)), (1, zi (v : Int)), (2, zi fi), (3, zi (sz : Int)), (4, zi (gr : Int)), (5, .inr (2, 0))] [.inr (38, v), .inr (20, v)] (((c + 1 + 1 + 1 + 1 + 1) + 1) + 1) (((s + 8 + 2 + 240 + 2 + 240) + 3) + 3) _ _
  have hb6 : ∀ a b : Nat, ¬ (38 ≤ a ∧ a < 40 ∧ b % 8 = v) → h6 (a, b) = h4 (a, b) := fun a b hn => (m5 a b (by omega)).trans (hn5 a b (by omega))
  have hz6 : ∀ a b : Nat, ¬ (20 ≤ a ∧ a < 40 ∧ b = v) → h6 (a, b) = h (a, b) := fun a b hn => (m5 a b (by omega)).trans ((hn5 a b (by omega)).trans (hz4 a b (by omega)))
  have o2_6 := o2_4.fr (fun a b z => hb6 a b (by omega))
  have o3_6 := o3_4.fr (fun a b z => hb6 a b (by omega))
  have o4_6 := (hb6 _ _ (by omega)).trans o4_4
  have r2_6 := r2_4.fr (fun a b z => hb6 a b (by omega))
  have hs6 := (hb6 20 v (by omega)).trans hs4
  refine zX.putf ⟨rfl, rfl⟩ hs6 rfl (by omega) rfl ?_
  show zX _ 60 37 [(0, .inr (20, v)), (1, zi (v : Int)), (2, zi fi), (3, zi (sz : Int)), (4, zi (gr : Int)), (5, .inr (2, 0))] [] (((c + 1 + 1 + 1 + 1 + 1) + 1) + 1) (((s + 8 + 2 + 240 + 2 + 240) + 3) + 3) (xup h6 (20, v) (.inl (8, [zi (v : Int), zi (zbi true), zi fi, zi (sz : Int), zi (gr : Int), .inr (2, 0), .inr (21, v), .inr (23, v), .inr (25, v), .inl (.int 0), .inr (36, v), .inr (38, v), .inl .null]))) _
  generalize hh7 : xup h6 (20, v) (.inl (8, [zi (v : Int), zi (zbi true), zi fi, zi (sz : Int), zi (gr : Int), .inr (2, 0), .inr (21, v), .inr (23, v), .inr (25, v), .inl (.int 0), .inr (36, v), .inr (38, v), .inl .null])) = h7
  have hs7 : h7 (20, v) = some (.inl (8, [zi (v : Int), zi (zbi true), zi fi, zi (sz : Int), zi (gr : Int), .inr (2, 0), .inr (21, v), .inr (23, v), .inr (25, v), .inl (.int 0), .inr (36, v), .inr (38, v), .inl .null])) := by
    rw [← hh7]
    exact zup_s
  have hn7 : ∀ a b : Nat, ¬ (a = 20 ∧ b = v) → h7 (a, b) = h6 (a, b) := fun a b hn => by
    rw [← hh7]
    exact zup_n (zn (by omega)) rfl
  have hz7 : ∀ a b : Nat, ¬ (20 ≤ a ∧ a < 40 ∧ b = v) → h7 (a, b) = h (a, b) := fun a b hn => (hn7 a b (by omega)).trans (hz6 a b (by omega))
  have o2_7 := o2_6.fr (fun a b z => hn7 a b (by omega))
  have o3_7 := o3_6.fr (fun a b z => hn7 a b (by omega))
  have o4_7 := (hn7 _ _ (by omega)).trans o4_6
  have r2_7 := r2_6.fr (fun a b z => hn7 a b (by omega))
  have r5_7 := r5.fr (fun a b z => hn7 a b (by omega))
  refine zX.sn 1 (pc2 := 38) (l2 := [(0, .inr (20, v)), (1, zi (v : Int)), (2, zi fi), (3, zi (sz : Int)), (4, zi (gr : Int)), (5, .inr (2, 0))]) (st2 := [.inr (20, v)]) rfl ?_
  refine zX.new (40, v) ⟨rfl, rfl⟩ ((hz7 _ _ (by omega)).trans (hF 40 v (by omega) (by omega) (by omega) (by omega))) (by omega) ?_
  show zX _ 60 41 [(0, .inr (20, v)), (1, zi (v : Int)), (2, zi fi), (3, zi (sz : Int)), (4, zi (gr : Int)), (5, .inr (2, 0))] [.inr (40, v), .inr (20, v)] ((((c + 1 + 1 + 1 + 1 + 1) + 1) + 1) + 1) ((((s + 8 + 2 + 240 + 2 + 240) + 3) + 3) + 3) (xup h7 (40, v) (.inl (0, [zi 0, .inl .null, zi 0]))) _
  generalize hh8 : xup h7 (40, v) (.inl (0, [zi 0, .inl .null, zi 0])) = h8
  have hs8 : h8 (40, v) = some (.inl (0, [zi 0, .inl .null, zi 0])) := by
    rw [← hh8]
    exact zup_s
  have hn8 : ∀ a b : Nat, ¬ (a = 40 ∧ b = v) → h8 (a, b) = h7 (a, b) := fun a b hn => by
    rw [← hh8]
    exact zup_n (zn (by omega)) rfl
  have hw8 := (hn8 20 v (by omega)).trans hs7
  refine zX.sn 1 (pc2 := 42) (l2 := [(0, .inr (20, v)), (1, zi (v : Int)), (2, zi fi), (3, zi (sz : Int)), (4, zi (gr : Int)), (5, .inr (2, 0))]) (st2 := [.inr (40, v), .inr (40, v), .inr (20, v)]) rfl ?_
  refine zX.call (mid2 := 147) (as := [.inr (40, v)]) (rest := [.inr (40, v), .inr (20, v)]) ⟨rfl, rfl⟩ (fun _ => rfl) rfl ⟨Nat.le_of_ble_eq_true rfl, Nat.le_of_ble_eq_true rfl⟩ ?_
  refine s_listInit (d := d) (by omega) ((hn8 _ _ (by omega)).trans ((hz7 _ _ (by omega)).trans hemp)) hs8 (fun M hM => (hn8 _ _ (by omega)).trans ((hz7 _ _ (by omega)).trans (hF 41 _ (by omega) (by omega) (by omega) (by omega)))) (fun h9 r8 m8 => ?_)
  show zX _ 60 45 [(0, .inr (20, v)), (1, zi (v : Int)), (2, zi fi), (3, zi (sz : Int)), (4, zi (gr : Int)), (5, .inr (2, 0))] [.inr (40, v), .inr (20, v)] ((((c + 1 + 1 + 1 + 1 + 1) + 1) + 1) + 1) ((((s + 8 + 2 + 240 + 2 + 240) + 3) + 3) + 3) _ _
  have hb9 : ∀ a b : Nat, ¬ (40 ≤ a ∧ a < 42 ∧ b % 8 = v) → h9 (a, b) = h7 (a, b) := fun a b hn => (m8 a b (by omega)).trans (hn8 a b (by omega))
  have hz9 : ∀ a b : Nat, ¬ (20 ≤ a ∧ a < 42 ∧ b = v) → h9 (a, b) = h (a, b) := fun a b hn => (m8 a b (by omega)).trans ((hn8 a b (by omega)).trans (hz7 a b (by omega)))
  have o2_9 := o2_7.fr (fun a b z => hb9 a b (by omega))
  have o3_9 := o3_7.fr (fun a b z => hb9 a b (by omega))
  have o4_9 := (hb9 _ _ (by omega)).trans o4_7
  have r2_9 := r2_7.fr (fun a b z => hb9 a b (by omega))
  have r5_9 := r5_7.fr (fun a b z => hb9 a b (by omega))
  have hs9 := (hb9 20 v (by omega)).trans hs7
  refine zX.putf ⟨rfl, rfl⟩ hs9 rfl (by omega) rfl ?_
  show zX _ 60 48 [(0, .inr (20, v)), (1, zi (v : Int)), (2, zi fi), (3, zi (sz : Int)), (4, zi (gr : Int)), (5, .inr (2, 0))] [] ((((c + 1 + 1 + 1 + 1 + 1) + 1) + 1) + 1) ((((s + 8 + 2 + 240 + 2 + 240) + 3) + 3) + 3) (xup h9 (20, v) (.inl (8, [zi (v : Int), zi (zbi true), zi fi, zi (sz : Int), zi (gr : Int), .inr (2, 0), .inr (21, v), .inr (23, v), .inr (25, v), .inl (.int 0), .inr (36, v), .inr (38, v), .inr (40, v)]))) _
  generalize hh10 : xup h9 (20, v) (.inl (8, [zi (v : Int), zi (zbi true), zi fi, zi (sz : Int), zi (gr : Int), .inr (2, 0), .inr (21, v), .inr (23, v), .inr (25, v), .inl (.int 0), .inr (36, v), .inr (38, v), .inr (40, v)])) = h10
  have hs10 : h10 (20, v) = some (.inl (8, [zi (v : Int), zi (zbi true), zi fi, zi (sz : Int), zi (gr : Int), .inr (2, 0), .inr (21, v), .inr (23, v), .inr (25, v), .inl (.int 0), .inr (36, v), .inr (38, v), .inr (40, v)])) := by
    rw [← hh10]
    exact zup_s
  have hn10 : ∀ a b : Nat, ¬ (a = 20 ∧ b = v) → h10 (a, b) = h9 (a, b) := fun a b hn => by
    rw [← hh10]
    exact zup_n (zn (by omega)) rfl
  have hz10 : ∀ a b : Nat, ¬ (20 ≤ a ∧ a < 42 ∧ b = v) → h10 (a, b) = h (a, b) := fun a b hn => (hn10 a b (by omega)).trans (hz9 a b (by omega))
  have o2_10 := o2_9.fr (fun a b z => hn10 a b (by omega))
  have o3_10 := o3_9.fr (fun a b z => hn10 a b (by omega))
  have o4_10 := (hn10 _ _ (by omega)).trans o4_9
  have r2_10 := r2_9.fr (fun a b z => hn10 a b (by omega))
  have r5_10 := r5_9.fr (fun a b z => hn10 a b (by omega))
  have r8_10 := r8.fr (fun a b z => hn10 a b (by omega))
  refine zX.ret rfl rfl ?_
  have hO : zOut h10 N out := hOut.fr (fun a b z => hz10 a b (by omega))
  refine q h10 ?_ (fun a b hn => hz10 a b (by omega))
  exact Or.inr (Or.inr (Or.inr ⟨rfl, ⟨hv, hfi, hsz, hgr⟩, ⟨hs10, o2_10, o4_10, r2_10, r5_10, hO, ⟨_, o3_10⟩, [], r8_10⟩, (fun x hx => by cases hx), (fun x hx => by cases hx)⟩))
end YD9k
