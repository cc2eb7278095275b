set_option maxRecDepth 100000
section ZY83
variable {d v sz gr sp : Nat} {fi me : Int} {Q : xR → Nat → Nat → xH → Prop}
def zwBeg (X : zWX) : zWX := ((fun _ => 0), (fun _ => 0), 0, (fun _ => 0), (fun _ => 0), X.2.2.2.2.2)
theorem s_wbeg {c s N : Nat} {h : xH} {X : zWX} (hr : zWr v fi sz gr me sp) (hH : ∀ t, 8 ≤ t → X.2.1 t = 0) (hV : zVW h N v fi sz gr me sp X)
    (q : ∀ h1, zVW h1 N v fi sz gr me sp (zwBeg X) → zFv v h h1 → Q (.inl none) c s h1) : zX (d + 3) 76 0 [(0, .inr (20, v))] [] c s h Q := by
  have hv5 : v < 5 := hr.1.1
  obtain ⟨v1, v2, v3, ⟨fg, v4⟩, v5, ⟨fb, v6⟩, gn, gs, gg, v7⟩ := hV
  exact r_bw (d := d) hr.1 hr.1.1 hr.1.2.2.1 hr.1.2.2.2 hH (by have := zwi_le hr.2.2.1; omega) (by have := zwi_le hr.2.2.1; omega) v1 v3 v2 v4 (fun h1 a1 a2 a3 a4 hF => q h1 ⟨a2, a3, a1, ⟨_, a4⟩, v5.fr (fun a b z => hF a b (by omega)), ⟨fb, v6.fr (fun a b z => hF a b (by omega))⟩, gn, gs, gg, v7.fr (fun a b z => hF a b (by omega))⟩ (fun a b z => hF a b (by omega)))
theorem s_wfag {m : Int} {c s cap N : Nat} {h : xH} {X : zWX} {J : List zE} (hr : zWr v fi sz gr me sp) (hm : -1 ≤ m ∧ m < 1000) (hJ : zJr h cap J) (hV : zVW h N v fi sz gr me sp X)
    (q : ∀ h1, zVW h1 N v fi sz gr me sp X → zRes h1 23 v (zwi sp * 8) (zwFound v sz gr sp me fi J m) → zFg v h h1 → Q (.inl none) c s h1) : zX (d + 4) 77 0 [(0, .inr (20, v)), (1, .inr (15, 0)), (2, zi m)] [] c s h Q := by
  have hv5 : v < 5 := hr.1.1
  obtain ⟨v1, v2, v3, ⟨fg, v4⟩, v5, ⟨fb, v6⟩, gn, gs, gg, v7⟩ := id hV
  refine zX.sn 1 (pc2 := 1) (l2 := [(0, .inr (20, v)), (1, .inr (15, 0)), (2, zi m)]) (st2 := [.inr (20, v)]) rfl ?_
  refine zX.getf ⟨rfl, rfl⟩ v1 rfl rfl ?_
  refine zX.call (mid2 := 26) (as := [.inr (23, v)]) (rest := []) ⟨rfl, rfl⟩ (fun _ => rfl) (zX.inv rfl (v6.1) rfl rfl) ⟨Nat.le_of_ble_eq_true rfl, Nat.le_of_ble_eq_true rfl⟩ ?_
  refine s_rclr (by omega) (by have := zwi_le hr.2.2.1; omega) v6 (fun h1 a1 hF => ?_)
  show zX _ 77 7 [(0, .inr (20, v)), (1, .inr (15, 0)), (2, zi m)] [] c s _ _
  have hV1 : zVW h1 N v fi sz gr me sp X := ⟨(hF _ _ (by omega)).trans v1, v2.fr (fun a b z => hF a b (by omega)), (hF _ _ (by omega)).trans v3, ⟨fg, v4.fr (fun a b z => hF a b (by omega))⟩, v5.fr (fun a b z => hF a b (by omega)), ⟨_, a1⟩, gn, gs, gg, v7.fr (fun a b z => hF a b (by omega))⟩
  refine zX.sn 1 (pc2 := 8) (l2 := [(0, .inr (20, v)), (1, .inr (15, 0)), (2, zi m)]) (st2 := [.inr (20, v)]) rfl ?_
  refine zX.sn 1 (pc2 := 9) (l2 := [(0, .inr (20, v)), (1, .inr (15, 0)), (2, zi m)]) (st2 := [.inr (15, 0), .inr (20, v)]) rfl ?_
  refine zX.sn 1 (pc2 := 10) (l2 := [(0, .inr (20, v)), (1, .inr (15, 0)), (2, zi m)]) (st2 := [zi m, .inr (15, 0), .inr (20, v)]) rfl ?_
  refine zX.call (mid2 := 96) (as := [.inr (20, v), .inr (15, 0), zi m]) (rest := []) ⟨rfl, rfl⟩ (fun _ => rfl) (zX.inv rfl hV1.1 rfl rfl) ⟨Nat.le_of_ble_eq_true rfl, Nat.le_of_ble_eq_true rfl⟩ ?_
  refine s_wfind hr hm (hJ.fr (fun a b _ z => hF a b (by omega))) hV1 a1 (fun h2 b1 b2 b3 => ?_)
  show zX _ 77 13 [(0, .inr (20, v)), (1, .inr (15, 0)), (2, zi m)] [] c s _ _
  refine zX.ret rfl rfl ?_
  exact q h2 b1 b2 (fun a b z => (b3 a b z).trans (hF a b (by omega)))
def zsBeg (X : zSX) : zSX := ((fun _ => 0), (fun _ => 0), 0, (fun _ => 0), (fun _ => 0), X.2.2.2.2.2.1, X.2.2.2.2.2.2)
theorem s_sbeg {c s N : Nat} {h : xH} {X : zSX} (hr : zSr v fi sz gr me) (hH : ∀ t, 8 ≤ t → X.2.1 t = 0) (hV : zVS h N v fi sz gr me X)
    (q : ∀ h1, zVS h1 N v fi sz gr me (zsBeg X) → zFv v h h1 → Q (.inl none) c s h1) : zX (d + 3) 76 0 [(0, .inr (20, v))] [] c s h Q := by
  have hv5 : v < 5 := hr.1.1
  obtain ⟨v1, v2, v3, ⟨fg, v4⟩, v5, ⟨jj, v6⟩, v7, ⟨fb, v8⟩, ⟨gn, gs, gg, v9⟩, v10⟩ := hV
  exact r_bs (d := d) hr.1 hr.1.1 hr.1.2.2.1 hr.1.2.2.2 hH (by omega) (by omega) v1 v3 v2 v4 (fun h1 a1 a2 a3 a4 hF => q h1 ⟨a2, a3, a1, ⟨_, a4⟩, (hF _ _ (by omega)).trans v5, ⟨jj, (hF _ _ (by omega)).trans v6⟩, v7.fr (fun a b z => hF a b (by omega)), ⟨fb, v8.fr (fun a b z => hF a b (by omega))⟩, ⟨gn, gs, gg, v9.fr (fun a b z => hF a b (by omega))⟩, v10⟩ (fun a b z => hF a b (by omega)))
theorem s_sfag {m : Int} {c s cap N : Nat} {h : xH} {X : zSX} {J : List zE} (hr : zSr v fi sz gr me) (hm : -1 ≤ m ∧ m < 1000) (hJ : zJr h cap J) (hV : zVS h N v fi sz gr me X)
    (q : ∀ h1, zVS h1 N v fi sz gr me X → zRes h1 23 v 8000 (zsFound v sz gr me fi J m) → zFg v h h1 → Q (.inl none) c s h1) : zX (d + 5) 77 0 [(0, .inr (20, v)), (1, .inr (15, 0)), (2, zi m)] [] c s h Q := by
  have hv5 : v < 5 := hr.1.1
  obtain ⟨v1, v2, v3, ⟨fg, v4⟩, v5, ⟨jj, v6⟩, v7, ⟨fb, v8⟩, ⟨gn, gs, gg, v9⟩, v10⟩ := id hV
  refine zX.sn 1 (pc2 := 1) (l2 := [(0, .inr (20, v)), (1, .inr (15, 0)), (2, zi m)]) (st2 := [.inr (20, v)]) rfl ?_
  refine zX.getf ⟨rfl, rfl⟩ v1 rfl rfl ?_
  refine zX.call (mid2 := 26) (as := [.inr (23, v)]) (rest := []) ⟨rfl, rfl⟩ (fun _ => rfl) (zX.inv rfl (v8.1) rfl rfl) ⟨Nat.le_of_ble_eq_true rfl, Nat.le_of_ble_eq_true rfl⟩ ?_
  refine s_rclr (by omega) (by omega) v8 (fun h1 a1 hF => ?_)
  show zX _ 77 7 [(0, .inr (20, v)), (1, .inr (15, 0)), (2, zi m)] [] c s _ _
  have hV1 : zVS h1 N v fi sz gr me X := ⟨(hF _ _ (by omega)).trans v1, v2.fr (fun a b z => hF a b (by omega)), (hF _ _ (by omega)).trans v3, ⟨fg, v4.fr (fun a b z => hF a b (by omega))⟩, (hF _ _ (by omega)).trans v5, ⟨jj, (hF _ _ (by omega)).trans v6⟩, v7.fr (fun a b z => hF a b (by omega)), ⟨_, a1⟩, ⟨gn, gs, gg, v9.fr (fun a b z => hF a b (by omega))⟩, v10⟩
  refine zX.sn 1 (pc2 := 8) (l2 := [(0, .inr (20, v)), (1, .inr (15, 0)), (2, zi m)]) (st2 := [.inr (20, v)]) rfl ?_
  refine zX.sn 1 (pc2 := 9) (l2 := [(0, .inr (20, v)), (1, .inr (15, 0)), (2, zi m)]) (st2 := [.inr (15, 0), .inr (20, v)]) rfl ?_
  refine zX.sn 1 (pc2 := 10) (l2 := [(0, .inr (20, v)), (1, .inr (15, 0)), (2, zi m)]) (st2 := [zi m, .inr (15, 0), .inr (20, v)]) rfl ?_
  refine zX.call (mid2 := 47) (as := [.inr (20, v), .inr (15, 0), zi m]) (rest := []) ⟨rfl, rfl⟩ (fun _ => rfl) (zX.inv rfl hV1.1 rfl rfl) ⟨Nat.le_of_ble_eq_true rfl, Nat.le_of_ble_eq_true rfl⟩ ?_
  refine s_sfind hr hm (hJ.fr (fun a b _ z => hF a b (by omega))) hV1 a1 (fun h2 b1 b2 b3 => ?_)
  show zX _ 77 13 [(0, .inr (20, v)), (1, .inr (15, 0)), (2, zi m)] [] c s _ _
  refine zX.ret rfl rfl ?_
  exact q h2 b1 b2 (fun a b z => (b3 a b z).trans (hF a b (by omega)))
def zjBeg (X : zJX) : zJX := ((fun _ => 0), (fun _ => 0), 0, [], X.2.2.2.2)
theorem s_jbeg {c s N : Nat} {cap1 : Nat} {h : xH} {X : zJX} (hr : zVr v fi sz gr) (hH : ∀ t, 8 ≤ t → X.2.1 t = 0) (hV : zVJ h N cap1 v fi sz gr X)
    (q : ∀ h1, zVJ h1 N cap1 v fi sz gr (zjBeg X) → zFv v h h1 → Q (.inl none) c s h1) : zX (d + 2) 76 0 [(0, .inr (20, v))] [] c s h Q := by
  have hv5 : v < 5 := hr.1
  obtain ⟨v1, v2, v3, v4, v5, fb, v6⟩ := hV
  exact r_bj (d := d) (me := 0) (cap2 := 0) (k2s := []) hr hr.1 hr.2.2.1 hr.2.2.2 hH (by omega) v1 v3 v2 v4 (fun h1 a1 a2 a3 a4 hF => q h1 ⟨a2, a3, a1, a4, v5.fr (fun a b z => hF a b (by omega)), fb, v6.fr (fun a b z => hF a b (by omega))⟩ (fun a b z => hF a b (by have := hr.1; omega)))
theorem s_jfag {m : Int} {c s cap N : Nat} {cap1 : Nat} {h : xH} {X : zJX} {J : List zE} (hr : zVr v fi sz gr) (hm : -1 ≤ m ∧ m < 1000) (hJ72 : J.length ≤ 72) (hJ : zJr h cap J) (hV : zVJ h N cap1 v fi sz gr X)
    (q : ∀ h1, zVJ h1 N cap1 v fi sz gr X → zRes h1 23 v 12800 (zjFound v sz gr fi J) → zFg v h h1 → Q (.inl none) c s h1) : zX (d + 5) 77 0 [(0, .inr (20, v)), (1, .inr (15, 0)), (2, zi m)] [] c s h Q := by
  have hv5 : v < 5 := hr.1
  obtain ⟨v1, v2, v3, v4, v5, fb, v6⟩ := id hV
  refine zX.sn 1 (pc2 := 1) (l2 := [(0, .inr (20, v)), (1, .inr (15, 0)), (2, zi m)]) (st2 := [.inr (20, v)]) rfl ?_
  refine zX.getf ⟨rfl, rfl⟩ v1 rfl rfl ?_
  refine zX.call (mid2 := 26) (as := [.inr (23, v)]) (rest := []) ⟨rfl, rfl⟩ (fun _ => rfl) (zX.inv rfl (v6.1) rfl rfl) ⟨Nat.le_of_ble_eq_true rfl, Nat.le_of_ble_eq_true rfl⟩ ?_
  refine s_rclr (by omega) (by omega) v6 (fun h1 a1 hF => ?_)
  show zX _ 77 7 [(0, .inr (20, v)), (1, .inr (15, 0)), (2, zi m)] [] c s _ _
  have hV1 : zVJ h1 N cap1 v fi sz gr X := ⟨(hF _ _ (by omega)).trans v1, v2.fr (fun a b z => hF a b (by omega)), (hF _ _ (by omega)).trans v3, v4.fr (fun a b z => hF a b (by omega)), v5.fr (fun a b z => hF a b (by omega)), ⟨_, a1⟩⟩
  refine zX.sn 1 (pc2 := 8) (l2 := [(0, .inr (20, v)), (1, .inr (15, 0)), (2, zi m)]) (st2 := [.inr (20, v)]) rfl ?_
  refine zX.sn 1 (pc2 := 9) (l2 := [(0, .inr (20, v)), (1, .inr (15, 0)), (2, zi m)]) (st2 := [.inr (15, 0), .inr (20, v)]) rfl ?_
  refine zX.sn 1 (pc2 := 10) (l2 := [(0, .inr (20, v)), (1, .inr (15, 0)), (2, zi m)]) (st2 := [zi m, .inr (15, 0), .inr (20, v)]) rfl ?_
  refine zX.call (mid2 := 7) (as := [.inr (20, v), .inr (15, 0), zi m]) (rest := []) ⟨rfl, rfl⟩ (fun _ => rfl) (zX.inv rfl hV1.1 rfl rfl) ⟨Nat.le_of_ble_eq_true rfl, Nat.le_of_ble_eq_true rfl⟩ ?_
  refine s_jfind hr hJ72 (hJ.fr (fun a b _ z => hF a b (by omega))) hV1 a1 (fun h2 b1 b2 b3 => ?_)
  show zX _ 77 13 [(0, .inr (20, v)), (1, .inr (15, 0)), (2, zi m)] [] c s _ _
  refine zX.ret rfl rfl ?_
  exact q h2 b1 b2 (fun a b z => (b3 a b z).trans (hF a b (by omega)))
def zvBeg (X : zVX) : zVX := ((fun _ => 0), (fun _ => 0), 0, [], [], X.2.2.2.2.2)
theorem s_vbeg {c s N : Nat} {cap1 cap2 cap3 : Nat} {h : xH} {X : zVX} (hr : zVr v fi sz gr) (hH : ∀ t, 8 ≤ t → X.2.1 t = 0) (hV : zVV h N cap1 cap2 cap3 v fi sz gr X)
    (q : ∀ h1, zVV h1 N cap1 cap2 cap3 v fi sz gr (zvBeg X) → zFv v h h1 → Q (.inl none) c s h1) : zX (d + 2) 76 0 [(0, .inr (20, v))] [] c s h Q := by
  have hv5 : v < 5 := hr.1
  obtain ⟨v1, v2, v3, v4, v5, v6, ⟨fb, v7⟩, Ag, v8⟩ := hV
  exact r_bv (d := d) (me := 0) hr hr.1 hr.2.2.1 hr.2.2.2 hH (by omega) v1 v3 v2 v4 v5 (fun h1 a1 a2 a3 a4 a5 hF => q h1 ⟨a2, a3, a1, a4, a5, v6.fr (fun a b z => hF a b (by omega)), ⟨fb, v7.fr (fun a b z => hF a b (by omega))⟩, Ag, v8.fr (fun a b z => hF a b (by omega))⟩ (fun a b z => hF a b (by have := hr.1; omega)))
theorem s_vfag {m : Int} {c s cap N : Nat} {cap1 cap2 cap3 : Nat} {h : xH} {X : zVX} {J : List zE} (hr : zVr v fi sz gr) (hm : -1 ≤ m ∧ m < 1000) (hJ72 : J.length ≤ 72) (hJ : zJr h cap J) (hV : zVV h N cap1 cap2 cap3 v fi sz gr X)
    (q : ∀ h1 q3 c1 s1, zVV h1 N cap1 cap2 q3 v fi sz gr X → zRes h1 23 v 240 (zvFound v gr fi m J) → zFl v h h1 → zCo cap3 c s q3 c1 s1 → Q (.inl none) c1 s1 h1) : zX (d + 8) 77 0 [(0, .inr (20, v)), (1, .inr (15, 0)), (2, zi m)] [] c s h Q := by
  have hv5 : v < 5 := hr.1
  obtain ⟨v1, v2, v3, v4, v5, v6, ⟨fb, v7⟩, Ag, v8⟩ := id hV
  refine zX.sn 1 (pc2 := 1) (l2 := [(0, .inr (20, v)), (1, .inr (15, 0)), (2, zi m)]) (st2 := [.inr (20, v)]) rfl ?_
  refine zX.getf ⟨rfl, rfl⟩ v1 rfl rfl ?_
  refine zX.call (mid2 := 26) (as := [.inr (23, v)]) (rest := []) ⟨rfl, rfl⟩ (fun _ => rfl) (zX.inv rfl (v7.1) rfl rfl) ⟨Nat.le_of_ble_eq_true rfl, Nat.le_of_ble_eq_true rfl⟩ ?_
  refine s_rclr (by omega) (by omega) v7 (fun h1 a1 hF => ?_)
  show zX _ 77 7 [(0, .inr (20, v)), (1, .inr (15, 0)), (2, zi m)] [] c s _ _
  have hV1 : zVV h1 N cap1 cap2 cap3 v fi sz gr X := ⟨(hF _ _ (by omega)).trans v1, v2.fr (fun a b z => hF a b (by omega)), (hF _ _ (by omega)).trans v3, v4.fr (fun a b z => hF a b (by omega)), v5.fr (fun a b z => hF a b (by omega)), v6.fr (fun a b z => hF a b (by omega)), ⟨_, a1⟩, Ag, v8.fr (fun a b z => hF a b (by omega))⟩
  refine zX.sn 1 (pc2 := 8) (l2 := [(0, .inr (20, v)), (1, .inr (15, 0)), (2, zi m)]) (st2 := [.inr (20, v)]) rfl ?_
  refine zX.sn 1 (pc2 := 9) (l2 := [(0, .inr (20, v)), (1, .inr (15, 0)), (2, zi m)]) (st2 := [.inr (15, 0), .inr (20, v)]) rfl ?_
  refine zX.sn 1 (pc2 := 10) (l2 := [(0, .inr (20, v)), (1, .inr (15, 0)), (2, zi m)]) (st2 := [zi m, .inr (15, 0), .inr (20, v)]) rfl ?_
  refine zX.call (mid2 := 72) (as := [.inr (20, v), .inr (15, 0), zi m]) (rest := []) ⟨rfl, rfl⟩ (fun _ => rfl) (zX.inv rfl hV1.1 rfl rfl) ⟨Nat.le_of_ble_eq_true rfl, Nat.le_of_ble_eq_true rfl⟩ ?_
  refine s_vfind hr hm hJ72 (hJ.fr (fun a b _ z => hF a b (by omega))) hV1 a1 (fun h2 q3 c1 s1 b1 b2 b3 b4 => ?_)
  show zX _ 77 13 [(0, .inr (20, v)), (1, .inr (15, 0)), (2, zi m)] [] c1 s1 _ _
  refine zX.ret rfl rfl ?_
  exact q h2 q3 c1 s1 b1 b2 (fun a b z => (b3 a b z).trans (hF a b (by omega))) b4
end ZY83
