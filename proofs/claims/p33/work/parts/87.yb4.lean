set_option maxRecDepth 100000
section ZY87
variable {d v : Nat} {Q : xR → Nat → Nat → xH → Prop}
theorem zuE9 {C : zCf} (c : C.1 = 6) : ¬ C.1 = 9 := by omega
/-- what holds of a view's numbers before a row is taken -/
abbrev zuOk (C : zCf) (T : zSt × List Int64) : Prop := T.2.length < 170000 ∧ (zuA T.1).length ≤ 72 ∧ (zuB T.1).length ≤ 72 ∧ (C.1 = 2 → zcnt (zuJ T).1 12800 < 12700)

set_option maxHeartbeats 4000000 in
theorem u_take {c s N k1 k2 k3 : Nat} {h : xH} {C : zCf} {T : zSt × List Int64} {e : zE} {l : List (Nat × xV)} (hE : zEr e) (he : zEn h e) (ho : zuOk C T) (hV : zVi h N k1 k2 k3 v C T)
    (q : ∀ h1 N1 q1 q2 q3 c1 s1, zVi h1 N1 q1 q2 q3 v C (zuTake v C e T) → zFv v h h1 → zCo (N + k1 + k2 + k3) c s (N1 + q1 + q2 + q3) c1 s1 → zX (d + 8) 139 38 l [] c1 s1 h1 Q) : zX (d + 8) 139 35 l [.inr (8, zeN e), .inr (20, v)] c s h Q := by
  rcases hV with ⟨c0, r, hV⟩ | ⟨c0, r, hV⟩ | ⟨c0, r, hV, hkA⟩ | ⟨c0, r, hV, hkA, hkB⟩
  · refine zX.call (mid2 := 92) (as := [.inr (20, v), .inr (8, zeN e)]) (rest := []) ⟨rfl, rfl⟩ (fun _ => rfl) (zX.inv rfl hV.1 rfl rfl) ⟨Nat.le_of_ble_eq_true rfl, Nat.le_of_ble_eq_true rfl⟩ ?_
    refine s_wtake (d := d + 2) r hE (Nat.lt_of_lt_of_le ho.1 (by omega)) hV he (fun h1 N1 c1 s1 a1 a2 a3 => ?_)
    show zX _ 139 38 l [] c1 s1 _ _
    exact q h1 N1 k1 k2 k3 c1 s1 (by
        unfold zuTake
        rw [if_pos c0.1]
        exact Or.inl ⟨c0, r, a1⟩) a2 ⟨by have := a3.1; omega, by have := a3.2.1; omega, by have := a3.2.2; omega⟩
  · refine zX.call (mid2 := 41) (as := [.inr (20, v), .inr (8, zeN e)]) (rest := []) ⟨rfl, rfl⟩ (fun _ => rfl) (zX.inv rfl hV.1 rfl rfl) ⟨Nat.le_of_ble_eq_true rfl, Nat.le_of_ble_eq_true rfl⟩ ?_
    refine s_stake (d := d + 2) r hE (Nat.lt_of_lt_of_le ho.1 (by omega)) hV he (fun h1 N1 c1 s1 a1 a2 a3 => ?_)
    show zX _ 139 38 l [] c1 s1 _ _
    exact q h1 N1 k1 k2 k3 c1 s1 (by
        unfold zuTake
        rw [if_neg (by omega), if_pos c0.1]
        exact Or.inr (Or.inl ⟨c0, r, a1⟩)) a2 ⟨by have := a3.1; omega, by have := a3.2.1; omega, by have := a3.2.2; omega⟩
  · refine zX.call (mid2 := 4) (as := [.inr (20, v), .inr (8, zeN e)]) (rest := []) ⟨rfl, rfl⟩ (fun _ => rfl) (zX.inv rfl hV.1 rfl rfl) ⟨Nat.le_of_ble_eq_true rfl, Nat.le_of_ble_eq_true rfl⟩ ?_
    refine s_jtake (d := d) (X := zuJ T) r hE ho.2.1 (ho.2.2.2 c0.1) (Nat.lt_of_lt_of_le ho.1 (by omega)) hV he hkA (fun h1 N1 q1 c1 s1 a1 a2 a3 => ?_)
    show zX _ 139 38 l [] c1 s1 _ _
    exact q h1 N1 q1 k2 k3 c1 s1 (by
        unfold zuTake
        rw [if_neg (by omega), if_neg (by omega), if_pos c0.1]
        exact Or.inr (Or.inr (Or.inl ⟨c0, r, a1, ((zKs_push (hkA.fr a2) hE (he.fr a2)).sub zjTake_sub)⟩))) a2 ⟨by have := a3.1; omega, by have := a3.2.1; omega, by have := a3.2.2; omega⟩
  · refine zX.call (mid2 := 66) (as := [.inr (20, v), .inr (8, zeN e)]) (rest := []) ⟨rfl, rfl⟩ (fun _ => rfl) (zX.inv rfl hV.1 rfl rfl) ⟨Nat.le_of_ble_eq_true rfl, Nat.le_of_ble_eq_true rfl⟩ ?_
    refine s_vtake (d := d) r hE ho.2.1 ho.2.2.1 ho.1 hV he hkA hkB (fun h1 N1 q1 q2 c1 s1 a1 a2 a3 => ?_)
    show zX _ 139 38 l [] c1 s1 _ _
    exact q h1 N1 q1 q2 k3 c1 s1 (by
        unfold zuTake
        rw [if_neg (by omega), if_neg (by omega), if_neg (by omega)]
        exact Or.inr (Or.inr (Or.inr ⟨c0, r, a1, ((zKs_push (hkA.fr a2) hE (he.fr a2)).sub zvTake_subA), ((zKs_push (hkB.fr a2) hE (he.fr a2)).sub zvTake_subB)⟩))) a2 ⟨by have := a3.1; omega, by have := a3.2.1; omega, by have := a3.2.2; omega⟩
set_option maxHeartbeats 4000000 in
theorem u_due {c s N k1 k2 k3 : Nat} {h : xH} {C : zCf} {T : zSt × List Int64} {b m : Int} {l : List (Nat × xV)} (hb : -1 ≤ b ∧ b < 1000) (hm : -1 ≤ m ∧ m < 1000) (ho : zuOk C T) (hV : zVi h N k1 k2 k3 v C T)
    (q : ∀ h1 N1 q1 q2 q3 c1 s1, zVi h1 N1 q1 q2 q3 v C (zuDue v C b m T) → zFv v h h1 → zCo (N + k1 + k2 + k3) c s (N1 + q1 + q2 + q3) c1 s1 → zX (d + 8) 139 130 l [] c1 s1 h1 Q) : zX (d + 8) 139 127 l [zi m, zi b, .inr (20, v)] c s h Q := by
  rcases hV with ⟨c0, r, hV⟩ | ⟨c0, r, hV⟩ | ⟨c0, r, hV, hkA⟩ | ⟨c0, r, hV, hkA, hkB⟩
  · refine zX.call (mid2 := 94) (as := [.inr (20, v), zi b, zi m]) (rest := []) ⟨rfl, rfl⟩ (fun _ => rfl) (zX.inv rfl hV.1 rfl rfl) ⟨Nat.le_of_ble_eq_true rfl, Nat.le_of_ble_eq_true rfl⟩ ?_
    refine s_wtd (d := d + 3) r hb hm ho.1 hV (fun h1 N1 c1 s1 a1 a2 a3 => ?_)
    show zX _ 139 130 l [] c1 s1 _ _
    exact q h1 N1 k1 k2 k3 c1 s1 (by
        unfold zuDue
        rw [if_pos c0.1]
        exact Or.inl ⟨c0, r, a1⟩) a2 ⟨by have := a3.1; omega, by have := a3.2.1; omega, by have := a3.2.2; omega⟩
  · refine zX.call (mid2 := 45) (as := [.inr (20, v), zi b, zi m]) (rest := []) ⟨rfl, rfl⟩ (fun _ => rfl) (zX.inv rfl hV.1 rfl rfl) ⟨Nat.le_of_ble_eq_true rfl, Nat.le_of_ble_eq_true rfl⟩ ?_
    refine s_std (d := d + 3) r hb hm ho.1 hV (fun h1 N1 c1 s1 a1 a2 a3 => ?_)
    show zX _ 139 130 l [] c1 s1 _ _
    exact q h1 N1 k1 k2 k3 c1 s1 (by
        unfold zuDue
        rw [if_neg (by omega), if_pos c0.1]
        exact Or.inr (Or.inl ⟨c0, r, a1⟩)) a2 ⟨by have := a3.1; omega, by have := a3.2.1; omega, by have := a3.2.2; omega⟩
  · refine zX.call (mid2 := 5) (as := [.inr (20, v), zi b, zi m]) (rest := []) ⟨rfl, rfl⟩ (fun _ => rfl) (zX.inv rfl hV.1 rfl rfl) ⟨Nat.le_of_ble_eq_true rfl, Nat.le_of_ble_eq_true rfl⟩ ?_
    refine zX.ret rfl rfl ?_
    show zX _ 139 130 l [] c s _ _
    exact q h N k1 k2 k3 c s (by
        unfold zuDue
        rw [if_neg (by omega), if_neg (by omega), if_pos c0.1]
        exact Or.inr (Or.inr (Or.inl ⟨c0, r, hV, hkA⟩))) (fun _ _ _ => rfl) zCo.rf
  · refine zX.call (mid2 := 68) (as := [.inr (20, v), zi b, zi m]) (rest := []) ⟨rfl, rfl⟩ (fun _ => rfl) (zX.inv rfl hV.1 rfl rfl) ⟨Nat.le_of_ble_eq_true rfl, Nat.le_of_ble_eq_true rfl⟩ ?_
    refine s_vtd (d := d + 2) r hm ho.2.1 ho.2.2.1 (Nat.lt_of_lt_of_le ho.1 (by omega)) hV hkA hkB (fun h1 N1 c1 s1 a1 a2 a3 => ?_)
    show zX _ 139 130 l [] c1 s1 _ _
    exact q h1 N1 k1 k2 k3 c1 s1 (by
        unfold zuDue
        rw [if_neg (by omega), if_neg (by omega), if_neg (by omega)]
        exact Or.inr (Or.inr (Or.inr ⟨c0, r, a1, (hkA.fr a2), (hkB.fr a2)⟩))) a2 ⟨by have := a3.1; omega, by have := a3.2.1; omega, by have := a3.2.2; omega⟩
set_option maxHeartbeats 4000000 in
theorem u_go {c s N k1 k2 k3 : Nat} {h : xH} {C : zCf} {T : zSt × List Int64} {b m : Int} {l : List (Nat × xV)} (hb : -1 ≤ b ∧ b < 1000) (hm : -1 ≤ m ∧ m < 1000) (ho : zuOk C T) (hV : zVi h N k1 k2 k3 v C T)
    (q : ∀ h1, zVi h1 N k1 k2 k3 v C (zuGo C b m T) → zFv v h h1 → zX (d + 8) 139 140 l [] c s h1 Q) : zX (d + 8) 139 137 l [zi m, zi b, .inr (20, v)] c s h Q := by
  rcases hV with ⟨c0, r, hV⟩ | ⟨c0, r, hV⟩ | ⟨c0, r, hV, hkA⟩ | ⟨c0, r, hV, hkA, hkB⟩
  · refine zX.call (mid2 := 95) (as := [.inr (20, v), zi b, zi m]) (rest := []) ⟨rfl, rfl⟩ (fun _ => rfl) (zX.inv rfl hV.1 rfl rfl) ⟨Nat.le_of_ble_eq_true rfl, Nat.le_of_ble_eq_true rfl⟩ ?_
    refine s_wlg (d := d + 5) r hb hm hV (fun h1 a1 a2 => ?_)
    show zX _ 139 140 l [] c s _ _
    exact q h1 (by
        unfold zuGo
        rw [if_pos c0.1]
        exact Or.inl ⟨c0, r, a1⟩) a2
  · refine zX.call (mid2 := 46) (as := [.inr (20, v), zi b, zi m]) (rest := []) ⟨rfl, rfl⟩ (fun _ => rfl) (zX.inv rfl hV.1 rfl rfl) ⟨Nat.le_of_ble_eq_true rfl, Nat.le_of_ble_eq_true rfl⟩ ?_
    refine s_slg (d := d + 5) r hb hm hV (fun h1 a1 a2 => ?_)
    show zX _ 139 140 l [] c s _ _
    exact q h1 (by
        unfold zuGo
        rw [if_neg (by omega), if_pos c0.1]
        exact Or.inr (Or.inl ⟨c0, r, a1⟩)) a2
  · refine zX.call (mid2 := 6) (as := [.inr (20, v), zi b, zi m]) (rest := []) ⟨rfl, rfl⟩ (fun _ => rfl) (zX.inv rfl hV.1 rfl rfl) ⟨Nat.le_of_ble_eq_true rfl, Nat.le_of_ble_eq_true rfl⟩ ?_
    refine s_jlg (d := d + 4) r hm ho.2.1 hV hkA (fun h1 a1 a2 => ?_)
    show zX _ 139 140 l [] c s _ _
    exact q h1 (by
        unfold zuGo
        rw [if_neg (by omega), if_neg (by omega), if_pos c0.1]
        exact Or.inr (Or.inr (Or.inl ⟨c0, r, a1, ((hkA.fr a2).sub (fun x hx => zjG_sub _ _ x hx))⟩))) a2
  · refine zX.call (mid2 := 71) (as := [.inr (20, v), zi b, zi m]) (rest := []) ⟨rfl, rfl⟩ (fun _ => rfl) (zX.inv rfl hV.1 rfl rfl) ⟨Nat.le_of_ble_eq_true rfl, Nat.le_of_ble_eq_true rfl⟩ ?_
    refine s_vlg (d := d + 3) r hm ho.2.1 ho.2.2.1 hV hkA hkB (fun h1 a1 a2 => ?_)
    show zX _ 139 140 l [] c s _ _
    exact q h1 (by
        unfold zuGo
        rw [if_neg (by omega), if_neg (by omega), if_neg (by omega)]
        exact Or.inr (Or.inr (Or.inr ⟨c0, r, a1, ((hkA.fr a2).sub (fun x hx => zvG_sub _ _ x hx)), ((hkB.fr a2).sub (fun x hx => zvH_sub _ _ x hx))⟩))) a2
set_option maxHeartbeats 4000000 in
theorem u_beg {c s N k1 k2 k3 : Nat} {h : xH} {C : zCf} {T : zSt × List Int64} {l : List (Nat × xV)} (hH : ∀ t, 8 ≤ t → T.1.2.1 t = 0) (hV : zVi h N k1 k2 k3 v C T)
    (q : ∀ h1, zVi h1 N k1 k2 k3 v C (zuBeg C T) → zFv v h h1 → zX (d + 4) 140 102 l [] c s h1 Q) : zX (d + 4) 140 99 l [.inr (20, v)] c s h Q := by
  rcases hV with ⟨c0, r, hV⟩ | ⟨c0, r, hV⟩ | ⟨c0, r, hV, hkA⟩ | ⟨c0, r, hV, hkA, hkB⟩
  · refine zX.call (mid2 := 76) (as := [.inr (20, v)]) (rest := []) ⟨rfl, rfl⟩ (fun _ => rfl) (zX.inv rfl hV.1 rfl rfl) ⟨Nat.le_of_ble_eq_true rfl, Nat.le_of_ble_eq_true rfl⟩ ?_
    refine s_wbeg (d := d) r hH hV (fun h1 a1 a2 => ?_)
    show zX _ 140 102 l [] c s _ _
    exact q h1 (by
        unfold zuBeg
        rw [if_pos c0.1]
        exact Or.inl ⟨c0, r, a1⟩) a2
  · refine zX.call (mid2 := 76) (as := [.inr (20, v)]) (rest := []) ⟨rfl, rfl⟩ (fun _ => rfl) (zX.inv rfl hV.1 rfl rfl) ⟨Nat.le_of_ble_eq_true rfl, Nat.le_of_ble_eq_true rfl⟩ ?_
    refine s_sbeg (d := d) r hH hV (fun h1 a1 a2 => ?_)
    show zX _ 140 102 l [] c s _ _
    exact q h1 (by
        unfold zuBeg
        rw [if_neg (by omega), if_pos c0.1]
        exact Or.inr (Or.inl ⟨c0, r, a1⟩)) a2
  · refine zX.call (mid2 := 76) (as := [.inr (20, v)]) (rest := []) ⟨rfl, rfl⟩ (fun _ => rfl) (zX.inv rfl hV.1 rfl rfl) ⟨Nat.le_of_ble_eq_true rfl, Nat.le_of_ble_eq_true rfl⟩ ?_
    refine s_jbeg (d := d + 1) r hH hV (fun h1 a1 a2 => ?_)
    show zX _ 140 102 l [] c s _ _
    exact q h1 (by
        unfold zuBeg
        rw [if_neg (by omega), if_neg (by omega), if_pos c0.1]
        exact Or.inr (Or.inr (Or.inl ⟨c0, r, a1, (fun x hx => by cases hx)⟩))) a2
  · refine zX.call (mid2 := 76) (as := [.inr (20, v)]) (rest := []) ⟨rfl, rfl⟩ (fun _ => rfl) (zX.inv rfl hV.1 rfl rfl) ⟨Nat.le_of_ble_eq_true rfl, Nat.le_of_ble_eq_true rfl⟩ ?_
    refine s_vbeg (d := d + 1) r hH hV (fun h1 a1 a2 => ?_)
    show zX _ 140 102 l [] c s _ _
    exact q h1 (by
        unfold zuBeg
        rw [if_neg (by omega), if_neg (by omega), if_neg (by omega)]
        exact Or.inr (Or.inr (Or.inr ⟨c0, r, a1, (fun x hx => by cases hx), (fun x hx => by cases hx)⟩))) a2
/-- does a view want both sides -/
def zbs (C : zCf) : Bool := decide (C.1 = 2) || decide (C.1 = 8)
theorem u_lets {c s N k1 k2 k3 : Nat} {h : xH} {C : zCf} {T : zSt × List Int64} {e : zE} {l : List (Nat × xV)} (hE : zEr e) (he : zEn h e) (hV : zVi h N k1 k2 k3 v C T)
    (q0 : zLet (zbs C) C.2.1 e = false → zX (d + 8) 139 30 l [zi 0] c s h Q) (q1 : zLet (zbs C) C.2.1 e = true → zX (d + 8) 139 30 l [zi 1] c s h Q) : zX (d + 8) 139 27 l [.inr (8, zeN e), .inr (20, v)] c s h Q := by
  rcases hV with ⟨c0, r, hV⟩ | ⟨c0, r, hV⟩ | ⟨c0, r, hV, hkA⟩ | ⟨c0, r, hV, hkA, hkB⟩
  · refine zX.call (mid2 := 75) (as := [.inr (20, v), .inr (8, zeN e)]) (rest := []) ⟨rfl, rfl⟩ (fun _ => rfl) (zX.inv rfl hV.1 rfl rfl) ⟨Nat.le_of_ble_eq_true rfl, Nat.le_of_ble_eq_true rfl⟩ ?_
    have hb : zbs C = false := by
      unfold zbs
      rw [c0.1]
      rfl
    rw [hb] at q0 q1
    refine s_lets (ci := 9) (bs := false) r.1 (by omega) hE hV.1 he (fun z => ?_) (fun z => ?_)
    · show zX _ 139 30 l [zi 0] c s _ _
      exact q0 z
    · show zX _ 139 30 l [zi 1] c s _ _
      exact q1 z
  · refine zX.call (mid2 := 75) (as := [.inr (20, v), .inr (8, zeN e)]) (rest := []) ⟨rfl, rfl⟩ (fun _ => rfl) (zX.inv rfl hV.1 rfl rfl) ⟨Nat.le_of_ble_eq_true rfl, Nat.le_of_ble_eq_true rfl⟩ ?_
    have hb : zbs C = false := by
      unfold zbs
      rw [c0.1]
      rfl
    rw [hb] at q0 q1
    refine s_lets (ci := 6) (bs := false) r.1 (by omega) hE hV.1 he (fun z => ?_) (fun z => ?_)
    · show zX _ 139 30 l [zi 0] c s _ _
      exact q0 z
    · show zX _ 139 30 l [zi 1] c s _ _
      exact q1 z
  · refine zX.call (mid2 := 75) (as := [.inr (20, v), .inr (8, zeN e)]) (rest := []) ⟨rfl, rfl⟩ (fun _ => rfl) (zX.inv rfl hV.1 rfl rfl) ⟨Nat.le_of_ble_eq_true rfl, Nat.le_of_ble_eq_true rfl⟩ ?_
    have hb : zbs C = true := by
      unfold zbs
      rw [c0.1]
      rfl
    rw [hb] at q0 q1
    refine s_lets (ci := 2) (bs := true) r (by omega) hE hV.1 he (fun z => ?_) (fun z => ?_)
    · show zX _ 139 30 l [zi 0] c s _ _
      exact q0 z
    · show zX _ 139 30 l [zi 1] c s _ _
      exact q1 z
  · refine zX.call (mid2 := 75) (as := [.inr (20, v), .inr (8, zeN e)]) (rest := []) ⟨rfl, rfl⟩ (fun _ => rfl) (zX.inv rfl hV.1 rfl rfl) ⟨Nat.le_of_ble_eq_true rfl, Nat.le_of_ble_eq_true rfl⟩ ?_
    have hb : zbs C = true := by
      unfold zbs
      rw [c0]
      rfl
    rw [hb] at q0 q1
    refine s_lets (ci := 8) (bs := true) r (by omega) hE hV.1 he (fun z => ?_) (fun z => ?_)
    · show zX _ 139 30 l [zi 0] c s _ _
      exact q0 z
    · show zX _ 139 30 l [zi 1] c s _ _
      exact q1 z
def zuL (C : zCf) : Nat := if C.1 = 9 then zwi C.2.2.2.2.2 * 8 else if C.1 = 6 then 8000 else if C.1 = 2 then 12800 else 240
noncomputable def zuFo (v : Nat) (C : zCf) (J : List zE) (m : Int) : Nat → Int64 :=
  if C.1 = 9 then zwFound v C.2.2.1 C.2.2.2.1 C.2.2.2.2.2 C.2.2.2.2.1 C.2.1 J m else if C.1 = 6 then zsFound v C.2.2.1 C.2.2.2.1 C.2.2.2.2.1 C.2.1 J m else
  if C.1 = 2 then zjFound v C.2.2.1 C.2.2.2.1 C.2.1 J else zvFound v C.2.2.2.1 C.2.1 m J
theorem u_fag {c s cap N k1 k2 k3 : Nat} {h : xH} {C : zCf} {T : zSt × List Int64} {m : Int} {J : List zE} {l : List (Nat × xV)} (hm : -1 ≤ m ∧ m < 1000) (hJ72 : J.length ≤ 72) (hJ : zJr h cap J) (hV : zVi h N k1 k2 k3 v C T)
    (q : ∀ h1 q3 c1 s1, zVi h1 N k1 k2 q3 v C T → zRes h1 23 v (zuL C) (zuFo v C J m) → (∀ a b : Nat, ¬ ((23 ≤ a ∧ a < 25 ∨ 30 ≤ a ∧ a < 34) ∧ b = v ∨ 40 ≤ a ∧ a < 42 ∧ b % 8 = v) → h1 (a, b) = h (a, b)) → zCo k3 c s q3 c1 s1 → zX (d + 9) 128 47 l [] c1 s1 h1 Q) : zX (d + 9) 128 44 l [zi m, .inr (15, 0), .inr (20, v)] c s h Q := by
  rcases hV with ⟨c0, r, hV⟩ | ⟨c0, r, hV⟩ | ⟨c0, r, hV, hkA⟩ | ⟨c0, r, hV, hkA, hkB⟩
  · refine zX.call (mid2 := 77) (as := [.inr (20, v), .inr (15, 0), zi m]) (rest := []) ⟨rfl, rfl⟩ (fun _ => rfl) (zX.inv rfl hV.1 rfl rfl) ⟨Nat.le_of_ble_eq_true rfl, Nat.le_of_ble_eq_true rfl⟩ ?_
    refine s_wfag (d := d + 4) r hm hJ hV (fun h1 a1 a2 a3 => ?_)
    show zX _ 128 47 l [] c s _ _
    exact q h1 k3 c s (Or.inl ⟨c0, r, a1⟩) (by
        unfold zuL zuFo
        rw [if_pos c0.1, if_pos c0.1]
        exact a2) (fun a b hn => a3 a b (by omega)) zCo.rf
  · refine zX.call (mid2 := 77) (as := [.inr (20, v), .inr (15, 0), zi m]) (rest := []) ⟨rfl, rfl⟩ (fun _ => rfl) (zX.inv rfl hV.1 rfl rfl) ⟨Nat.le_of_ble_eq_true rfl, Nat.le_of_ble_eq_true rfl⟩ ?_
    refine s_sfag (d := d + 3) r hm hJ hV (fun h1 a1 a2 a3 => ?_)
    show zX _ 128 47 l [] c s _ _
    exact q h1 k3 c s (Or.inr (Or.inl ⟨c0, r, a1⟩)) (by
        unfold zuL zuFo
        rw [if_neg (by omega), if_pos c0.1, if_neg (by omega), if_pos c0.1]
        exact a2) (fun a b hn => a3 a b (by omega)) zCo.rf
  · refine zX.call (mid2 := 77) (as := [.inr (20, v), .inr (15, 0), zi m]) (rest := []) ⟨rfl, rfl⟩ (fun _ => rfl) (zX.inv rfl hV.1 rfl rfl) ⟨Nat.le_of_ble_eq_true rfl, Nat.le_of_ble_eq_true rfl⟩ ?_
    refine s_jfag (d := d + 3) r hm hJ72 hJ hV (fun h1 a1 a2 a3 => ?_)
    show zX _ 128 47 l [] c s _ _
    exact q h1 k3 c s (Or.inr (Or.inr (Or.inl ⟨c0, r, a1, (hkA.fr (v := v) (fun a b hn => a3 a b (by have := r.1; omega)))⟩))) (by
        unfold zuL zuFo
        rw [if_neg (by omega), if_neg (by omega), if_pos c0.1, if_neg (by omega), if_neg (by omega), if_pos c0.1]
        exact a2) (fun a b hn => a3 a b (by omega)) zCo.rf
  · refine zX.call (mid2 := 77) (as := [.inr (20, v), .inr (15, 0), zi m]) (rest := []) ⟨rfl, rfl⟩ (fun _ => rfl) (zX.inv rfl hV.1 rfl rfl) ⟨Nat.le_of_ble_eq_true rfl, Nat.le_of_ble_eq_true rfl⟩ ?_
    refine s_vfag (d := d) r hm hJ72 hJ hV (fun h1 q3 c1 s1 a1 a2 a3 a4 => ?_)
    show zX _ 128 47 l [] c1 s1 _ _
    exact q h1 q3 c1 s1 (Or.inr (Or.inr (Or.inr ⟨c0, r, a1, (hkA.fr (v := v) (fun a b hn => a3 a b (by have := r.1; omega))), (hkB.fr (v := v) (fun a b hn => a3 a b (by have := r.1; omega)))⟩))) (by
        unfold zuL zuFo
        rw [if_neg (by omega), if_neg (by omega), if_neg (by omega), if_neg (by omega), if_neg (by omega), if_neg (by omega)]
        exact a2) (fun a b hn => a3 a b (by omega)) a4
theorem zVi.told {N k1 k2 k3 : Nat} {h : xH} {C : zCf} {T : zSt × List Int64} (hV : zVi h N k1 k2 k3 v C T) : zRes h 21 v (zuL C) T.1.1 := by
  rcases hV with ⟨c0, r, hV⟩ | ⟨c0, r, hV⟩ | ⟨c0, r, hV, hkA⟩ | ⟨c0, r, hV, hkA, hkB⟩
  · unfold zuL
    rw [if_pos c0.1]
    exact hV.2.1
  · unfold zuL
    rw [if_neg (by omega), if_pos c0.1]
    exact hV.2.1
  · unfold zuL
    rw [if_neg (by omega), if_neg (by omega), if_pos c0.1]
    exact hV.2.1
  · unfold zuL
    rw [if_neg (by omega), if_neg (by omega), if_neg (by omega)]
    exact hV.2.1
end ZY87
