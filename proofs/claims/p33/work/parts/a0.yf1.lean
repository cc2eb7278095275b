set_option maxRecDepth 100000
section YA0
/-- the foundry's whole state: (parts, journal, (views, outputs)), (read, cut, under way), (promised, cut's outputs, rows promised, rows at the cut), workers, sums -/
abbrev zWl : Type := zQd × (Bool × Bool × Bool) × (Nat × Nat × Nat × Nat) × (Nat → Int) × (Nat → Int32)
abbrev wd_P (W : zWl) : Nat → zPT := W.1.1
abbrev wd_J (W : zWl) : List zE := W.1.2.1
abbrev wd_L (W : zWl) : zVL := W.1.2.2.1
abbrev wd_O (W : zWl) : List Int64 := W.1.2.2.2
abbrev wd_rd (W : zWl) : Bool := W.2.1.1
abbrev wd_ct (W : zWl) : Bool := W.2.1.2.1
abbrev wd_uw (W : zWl) : Bool := W.2.1.2.2
abbrev wd_pr (W : zWl) : Nat := W.2.2.1.1
abbrev wd_cu (W : zWl) : Nat := W.2.2.1.2.1
abbrev wd_pj (W : zWl) : Nat := W.2.2.1.2.2.1
abbrev wd_cj (W : zWl) : Nat := W.2.2.1.2.2.2
abbrev wd_wk (W : zWl) : Nat → Int := W.2.2.2.1
abbrev wd_ps (W : zWl) : Nat → Int32 := W.2.2.2.2
abbrev wd_n (W : zWl) (p : Nat) : Nat := (wd_P W p).2.2.2.2.length
/-- room of the logs -/
abbrev zPc (P : Nat → zPT) : Nat := (P 0).2.2.2.1 + (P 1).2.2.2.1 + (P 2).2.2.2.1
abbrev wd_fs (W : zWl) : List xV := zFf (wd_rd W) (wd_ct W) (wd_uw W) (wd_pr W) (wd_cu W) (wd_pj W) (wd_cj W)
/-- the foundry lies there, with its room M; sc: what lies at the script's name -/
def zFd (sc : Option xO) (h : xH) (M : Nat) (W : zWl) : Prop := ∃ (N capv capj : Nat) (K : zKp) (g : Nat → xV),
  M = N + zKm K 5 + capv + capj + zPc (wd_P W) ∧ h (10, 0) = some (.inl (10, zFn (wd_fs W))) ∧ zAL h 13 0 capv (zVn (wd_L W)) ∧ zVa h N K (wd_L W) (wd_O W) ∧ zPs h (wd_P W) ∧ zJr h capj (wd_J W) ∧ h (17, 0) = some (.inr (0, 8, zA (wd_wk W))) ∧ h (18, 0) = some (.inr (0, 5, zI (wd_ps W))) ∧ h (0, 1) = some (.inr (4, 0, g)) ∧ h (0, 0) = sc ∧
  (∀ p i, p < 3 → wd_n W p ≤ i → h (8, 8 * i + p) = none) ∧ (wd_rd W = false → ∀ a b : Nat, 20 ≤ a → a < 60 → (wd_L W).length ≤ b % 8 → h (a, b) = none)
/-- what a step costs beyond the room -/
abbrev zCs (x y M c s M1 c1 s1 : Nat) : Prop := M ≤ M1 ∧ c1 + M ≤ c + M1 + x ∧ s1 + 4 * M ≤ s + 4 * M1 + y
variable {d : Nat} {Q : xR → Nat → Nat → xH → Prop} {sc : Option xO} {h : xH} {M c s : Nat} {W : zWl}
theorem k_told {i : Nat} {C : zCf} {S : zSt} {x2 x3 x4 : Int} (hx : (wd_L W)[i]? = some (C, S)) (hF : zFd sc h M W)
    (q : Q (.inl (some (zi (zcnt S.1 (zuL C) : Int)))) c s h) : zX (d + 10) 170 0 [(0, .inr (10, 0)), (1, zi 7), (2, zi (i : Int)), (3, zi x2), (4, zi x3), (5, zi x4)] [] c s h Q := by
  obtain ⟨N, capv, capj, K, g, hM, hf, hA, hV, hP, hJ, hw, hps, hemp, hsc, hfe, hfv⟩ := id hF
  refine zX.sn 1 (pc2 := 1) (l2 := [(0, .inr (10, 0)), (1, zi 7), (2, zi (i : Int)), (3, zi x2), (4, zi x3), (5, zi x4)]) (st2 := [zi 7]) rfl ?_
  refine zX.tsw (tgt := 154) ⟨rfl, rfl⟩ (by omega) (by omega) rfl rfl ?_
  refine zX.sn 1 (pc2 := 155) (l2 := [(0, .inr (10, 0)), (1, zi 7), (2, zi (i : Int)), (3, zi x2), (4, zi x3), (5, zi x4)]) (st2 := [.inr (10, 0)]) rfl ?_
  refine zX.sn 1 (pc2 := 156) (l2 := [(0, .inr (10, 0)), (1, zi 7), (2, zi (i : Int)), (3, zi x2), (4, zi x3), (5, zi x4)]) (st2 := [zi (i : Int), .inr (10, 0)]) rfl ?_
  refine zX.call (mid2 := 109) (as := [.inr (10, 0), zi (i : Int)]) (rest := []) ⟨rfl, rfl⟩ (fun _ => rfl) (zX.inv rfl hf rfl rfl) ⟨Nat.le_of_ble_eq_true rfl, Nat.le_of_ble_eq_true rfl⟩ ?_
  refine s_told (d := d + 5) hx hf hA hV ?_
  show zX _ 170 159 [(0, .inr (10, 0)), (1, zi 7), (2, zi (i : Int)), (3, zi x2), (4, zi x3), (5, zi x4)] [zi (zcnt S.1 (zuL C) : Int)] c s _ _
  refine zX.ret rfl rfl ?_
  exact q
theorem k_dropped {i : Nat} {C : zCf} {S : zSt} {x2 x3 x4 : Int} (hx : (wd_L W)[i]? = some (C, S)) (hF : zFd sc h M W)
    (q : Q (.inl (some (.inl (.int S.2.2.1)))) c s h) : zX (d + 10) 170 0 [(0, .inr (10, 0)), (1, zi 11), (2, zi (i : Int)), (3, zi x2), (4, zi x3), (5, zi x4)] [] c s h Q := by
  obtain ⟨N, capv, capj, K, g, hM, hf, hA, hV, hP, hJ, hw, hps, hemp, hsc, hfe, hfv⟩ := id hF
  refine zX.sn 1 (pc2 := 1) (l2 := [(0, .inr (10, 0)), (1, zi 11), (2, zi (i : Int)), (3, zi x2), (4, zi x3), (5, zi x4)]) (st2 := [zi 11]) rfl ?_
  refine zX.tsw (tgt := 189) ⟨rfl, rfl⟩ (by omega) (by omega) rfl rfl ?_
  refine zX.sn 1 (pc2 := 190) (l2 := [(0, .inr (10, 0)), (1, zi 11), (2, zi (i : Int)), (3, zi x2), (4, zi x3), (5, zi x4)]) (st2 := [.inr (10, 0)]) rfl ?_
  refine zX.sn 1 (pc2 := 191) (l2 := [(0, .inr (10, 0)), (1, zi 11), (2, zi (i : Int)), (3, zi x2), (4, zi x3), (5, zi x4)]) (st2 := [zi (i : Int), .inr (10, 0)]) rfl ?_
  refine zX.call (mid2 := 113) (as := [.inr (10, 0), zi (i : Int)]) (rest := []) ⟨rfl, rfl⟩ (fun _ => rfl) (zX.inv rfl hf rfl rfl) ⟨Nat.le_of_ble_eq_true rfl, Nat.le_of_ble_eq_true rfl⟩ ?_
  refine s_dropped (d := d + 5) hx hf hA hV ?_
  show zX _ 170 194 [(0, .inr (10, 0)), (1, zi 11), (2, zi (i : Int)), (3, zi x2), (4, zi x3), (5, zi x4)] [.inl (.int S.2.2.1)] c s _ _
  refine zX.ret rfl rfl ?_
  exact q
theorem k_held {i : Nat} {C : zCf} {S : zSt} {x2 x3 x4 : Int} (hx : (wd_L W)[i]? = some (C, S)) (hF : zFd sc h M W)
    (q : Q (.inl (some (.inl (.int (zhs S.2.1 8))))) c s h) : zX (d + 10) 170 0 [(0, .inr (10, 0)), (1, zi 12), (2, zi (i : Int)), (3, zi x2), (4, zi x3), (5, zi x4)] [] c s h Q := by
  obtain ⟨N, capv, capj, K, g, hM, hf, hA, hV, hP, hJ, hw, hps, hemp, hsc, hfe, hfv⟩ := id hF
  refine zX.sn 1 (pc2 := 1) (l2 := [(0, .inr (10, 0)), (1, zi 12), (2, zi (i : Int)), (3, zi x2), (4, zi x3), (5, zi x4)]) (st2 := [zi 12]) rfl ?_
  refine zX.tsw (tgt := 195) ⟨rfl, rfl⟩ (by omega) (by omega) rfl rfl ?_
  refine zX.sn 1 (pc2 := 196) (l2 := [(0, .inr (10, 0)), (1, zi 12), (2, zi (i : Int)), (3, zi x2), (4, zi x3), (5, zi x4)]) (st2 := [.inr (10, 0)]) rfl ?_
  refine zX.sn 1 (pc2 := 197) (l2 := [(0, .inr (10, 0)), (1, zi 12), (2, zi (i : Int)), (3, zi x2), (4, zi x3), (5, zi x4)]) (st2 := [zi (i : Int), .inr (10, 0)]) rfl ?_
  refine zX.call (mid2 := 114) (as := [.inr (10, 0), zi (i : Int)]) (rest := []) ⟨rfl, rfl⟩ (fun _ => rfl) (zX.inv rfl hf rfl rfl) ⟨Nat.le_of_ble_eq_true rfl, Nat.le_of_ble_eq_true rfl⟩ ?_
  refine s_held (d := d + 5) hx hf hA hV ?_
  show zX _ 170 200 [(0, .inr (10, 0)), (1, zi 12), (2, zi (i : Int)), (3, zi x2), (4, zi x3), (5, zi x4)] [.inl (.int (zhs S.2.1 8))] c s _ _
  refine zX.ret rfl rfl ?_
  exact q
theorem k_psum {i : Nat} {x2 x3 x4 : Int} (hi : i < (wd_L W).length) (hF : zFd sc h M W)
    (q : Q (.inl (some (.inl (.int (wd_ps W i))))) c s h) : zX (d + 10) 170 0 [(0, .inr (10, 0)), (1, zi 18), (2, zi (i : Int)), (3, zi x2), (4, zi x3), (5, zi x4)] [] c s h Q := by
  obtain ⟨N, capv, capj, K, g, hM, hf, hA, hV, hP, hJ, hw, hps, hemp, hsc, hfe, hfv⟩ := id hF
  refine zX.sn 1 (pc2 := 1) (l2 := [(0, .inr (10, 0)), (1, zi 18), (2, zi (i : Int)), (3, zi x2), (4, zi x3), (5, zi x4)]) (st2 := [zi 18]) rfl ?_
  refine zX.tsw (tgt := 230) ⟨rfl, rfl⟩ (by omega) (by omega) rfl rfl ?_
  refine zX.sn 1 (pc2 := 231) (l2 := [(0, .inr (10, 0)), (1, zi 18), (2, zi (i : Int)), (3, zi x2), (4, zi x3), (5, zi x4)]) (st2 := [.inr (10, 0)]) rfl ?_
  refine zX.sn 1 (pc2 := 232) (l2 := [(0, .inr (10, 0)), (1, zi 18), (2, zi (i : Int)), (3, zi x2), (4, zi x3), (5, zi x4)]) (st2 := [zi (i : Int), .inr (10, 0)]) rfl ?_
  refine zX.call (mid2 := 122) (as := [.inr (10, 0), zi (i : Int)]) (rest := []) ⟨rfl, rfl⟩ (fun _ => rfl) (zX.inv rfl hf rfl rfl) ⟨Nat.le_of_ble_eq_true rfl, Nat.le_of_ble_eq_true rfl⟩ ?_
  refine s_promisedSum (d := d + 8) hi hV.2.1.1 hf hA hps ?_
  show zX _ 170 235 [(0, .inr (10, 0)), (1, zi 18), (2, zi (i : Int)), (3, zi x2), (4, zi x3), (5, zi x4)] [.inl (.int (wd_ps W i))] c s _ _
  refine zX.ret rfl rfl ?_
  exact q
/-- the answer of firstFrom as the law sees it -/
def zfF (C : zCf) (S : zSt) (k : Int) : Int := if zck S.1 k (zuL C) 0 0 = 0 then (-1005) else zlf S.1 k (zuL C) 0 1000
theorem k_first {i : Nat} {C : zCf} {S : zSt} {k x3 x4 : Int} (hk : 0 ≤ k ∧ k < 1000) (hx : (wd_L W)[i]? = some (C, S)) (hF : zFd sc h M W)
    (q : ∀ c1 s1 : Nat, c ≤ c1 ∧ c1 ≤ c + 1 ∧ s ≤ s1 ∧ s1 ≤ s + 6 → Q (.inl (some (zi (zfF C S k)))) c1 s1 h) : zX (d + 10) 170 0 [(0, .inr (10, 0)), (1, zi 10), (2, zi (i : Int)), (3, zi k), (4, zi x3), (5, zi x4)] [] c s h Q := by
  obtain ⟨N, capv, capj, K, g, hM, hf, hA, hV, hP, hJ, hw, hps, hemp, hsc, hfe, hfv⟩ := id hF
  refine zX.sn 1 (pc2 := 1) (l2 := [(0, .inr (10, 0)), (1, zi 10), (2, zi (i : Int)), (3, zi k), (4, zi x3), (5, zi x4)]) (st2 := [zi 10]) rfl ?_
  refine zX.tsw (tgt := 182) ⟨rfl, rfl⟩ (by omega) (by omega) rfl rfl ?_
  refine zX.sn 1 (pc2 := 183) (l2 := [(0, .inr (10, 0)), (1, zi 10), (2, zi (i : Int)), (3, zi k), (4, zi x3), (5, zi x4)]) (st2 := [.inr (10, 0)]) rfl ?_
  refine zX.sn 1 (pc2 := 184) (l2 := [(0, .inr (10, 0)), (1, zi 10), (2, zi (i : Int)), (3, zi k), (4, zi x3), (5, zi x4)]) (st2 := [zi (i : Int), .inr (10, 0)]) rfl ?_
  refine zX.sn 1 (pc2 := 185) (l2 := [(0, .inr (10, 0)), (1, zi 10), (2, zi (i : Int)), (3, zi k), (4, zi x3), (5, zi x4)]) (st2 := [zi k, zi (i : Int), .inr (10, 0)]) rfl ?_
  refine zX.call (mid2 := 112) (as := [.inr (10, 0), zi (i : Int), zi k]) (rest := []) ⟨rfl, rfl⟩ (fun _ => rfl) (zX.inv rfl hf rfl rfl) ⟨Nat.le_of_ble_eq_true rfl, Nat.le_of_ble_eq_true rfl⟩ ?_
  refine s_first (d := d) hk hx hf hA hV (fun z => ?_) (fun z => ?_)
  · refine zXK.han (z := (288, 2, 6)) rfl ?_
    show zX _ 170 290 [(0, .inr (10, 0)), (1, zi 10), (2, zi (i : Int)), (3, zi k), (4, zi x3), (5, zi x4)] [] (c + 1) (s + 6) _ _
    refine zX.sn 1 (pc2 := 293) (l2 := [(0, .inr (10, 0)), (1, zi 10), (2, zi (i : Int)), (3, zi k), (4, zi x3), (5, zi x4)]) (st2 := [zi (-1005)]) rfl ?_
    refine zX.ret rfl rfl ?_
    have q := q (c + 1) (s + 6) (by omega)
    rw [show zfF C S k = (-1005) from if_pos z] at q
    exact q
  · show zX _ 170 188 [(0, .inr (10, 0)), (1, zi 10), (2, zi (i : Int)), (3, zi k), (4, zi x3), (5, zi x4)] [zi (zlf S.1 k (zuL C) 0 1000)] c s _ _
    refine zX.ret rfl rfl ?_
    have q := q c s (by omega)
    rw [show zfF C S k = zlf S.1 k (zuL C) 0 1000 from if_neg z] at q
    exact q
theorem k_entries {p : Nat} {x2 x3 x4 : Int} (hp : p < 3) (hF : zFd sc h M W)
    (q : Q (.inl (some (zi (wd_n W p : Int)))) c s h) : zX (d + 10) 170 0 [(0, .inr (10, 0)), (1, zi 3), (2, zi (p : Int)), (3, zi x2), (4, zi x3), (5, zi x4)] [] c s h Q := by
  obtain ⟨N, capv, capj, K, g, hM, hf, hA, hV, hP, hJ, hw, hps, hemp, hsc, hfe, hfv⟩ := id hF
  refine zX.sn 1 (pc2 := 1) (l2 := [(0, .inr (10, 0)), (1, zi 3), (2, zi (p : Int)), (3, zi x2), (4, zi x3), (5, zi x4)]) (st2 := [zi 3]) rfl ?_
  refine zX.tsw (tgt := 129) ⟨rfl, rfl⟩ (by omega) (by omega) rfl rfl ?_
  refine zX.sn 1 (pc2 := 130) (l2 := [(0, .inr (10, 0)), (1, zi 3), (2, zi (p : Int)), (3, zi x2), (4, zi x3), (5, zi x4)]) (st2 := [.inr (10, 0)]) rfl ?_
  refine zX.sn 1 (pc2 := 131) (l2 := [(0, .inr (10, 0)), (1, zi 3), (2, zi (p : Int)), (3, zi x2), (4, zi x3), (5, zi x4)]) (st2 := [zi (p : Int), .inr (10, 0)]) rfl ?_
  refine zX.call (mid2 := 104) (as := [.inr (10, 0), zi (p : Int)]) (rest := []) ⟨rfl, rfl⟩ (fun _ => rfl) (zX.inv rfl hf rfl rfl) ⟨Nat.le_of_ble_eq_true rfl, Nat.le_of_ble_eq_true rfl⟩ ?_
  refine s_entries (d := d + 5) hp hf hP ?_
  show zX _ 170 134 [(0, .inr (10, 0)), (1, zi 3), (2, zi (p : Int)), (3, zi x2), (4, zi x3), (5, zi x4)] [zi (wd_n W p : Int)] c s _ _
  refine zX.ret rfl rfl ?_
  exact q
theorem k_place {p : Nat} {x2 x3 x4 : Int} (hp : p < 3) (hF : zFd sc h M W)
    (q : Q (.inl (some (zi ((wd_P W p).1 : Int)))) c s h) : zX (d + 10) 170 0 [(0, .inr (10, 0)), (1, zi 5), (2, zi (p : Int)), (3, zi x2), (4, zi x3), (5, zi x4)] [] c s h Q := by
  obtain ⟨N, capv, capj, K, g, hM, hf, hA, hV, hP, hJ, hw, hps, hemp, hsc, hfe, hfv⟩ := id hF
  refine zX.sn 1 (pc2 := 1) (l2 := [(0, .inr (10, 0)), (1, zi 5), (2, zi (p : Int)), (3, zi x2), (4, zi x3), (5, zi x4)]) (st2 := [zi 5]) rfl ?_
  refine zX.tsw (tgt := 142) ⟨rfl, rfl⟩ (by omega) (by omega) rfl rfl ?_
  refine zX.sn 1 (pc2 := 143) (l2 := [(0, .inr (10, 0)), (1, zi 5), (2, zi (p : Int)), (3, zi x2), (4, zi x3), (5, zi x4)]) (st2 := [.inr (10, 0)]) rfl ?_
  refine zX.sn 1 (pc2 := 144) (l2 := [(0, .inr (10, 0)), (1, zi 5), (2, zi (p : Int)), (3, zi x2), (4, zi x3), (5, zi x4)]) (st2 := [zi (p : Int), .inr (10, 0)]) rfl ?_
  refine zX.call (mid2 := 106) (as := [.inr (10, 0), zi (p : Int)]) (rest := []) ⟨rfl, rfl⟩ (fun _ => rfl) (zX.inv rfl hf rfl rfl) ⟨Nat.le_of_ble_eq_true rfl, Nat.le_of_ble_eq_true rfl⟩ ?_
  refine s_place (d := d + 5) hp hf hP ?_
  show zX _ 170 147 [(0, .inr (10, 0)), (1, zi 5), (2, zi (p : Int)), (3, zi x2), (4, zi x3), (5, zi x4)] [zi ((wd_P W p).1 : Int)] c s _ _
  refine zX.ret rfl rfl ?_
  exact q
theorem k_markOf {p : Nat} {x2 x3 x4 : Int} (hp : p < 3) (hF : zFd sc h M W)
    (q : Q (.inl (some (zi (wd_P W p).2.1))) c s h) : zX (d + 10) 170 0 [(0, .inr (10, 0)), (1, zi 6), (2, zi (p : Int)), (3, zi x2), (4, zi x3), (5, zi x4)] [] c s h Q := by
  obtain ⟨N, capv, capj, K, g, hM, hf, hA, hV, hP, hJ, hw, hps, hemp, hsc, hfe, hfv⟩ := id hF
  refine zX.sn 1 (pc2 := 1) (l2 := [(0, .inr (10, 0)), (1, zi 6), (2, zi (p : Int)), (3, zi x2), (4, zi x3), (5, zi x4)]) (st2 := [zi 6]) rfl ?_
  refine zX.tsw (tgt := 148) ⟨rfl, rfl⟩ (by omega) (by omega) rfl rfl ?_
  refine zX.sn 1 (pc2 := 149) (l2 := [(0, .inr (10, 0)), (1, zi 6), (2, zi (p : Int)), (3, zi x2), (4, zi x3), (5, zi x4)]) (st2 := [.inr (10, 0)]) rfl ?_
  refine zX.sn 1 (pc2 := 150) (l2 := [(0, .inr (10, 0)), (1, zi 6), (2, zi (p : Int)), (3, zi x2), (4, zi x3), (5, zi x4)]) (st2 := [zi (p : Int), .inr (10, 0)]) rfl ?_
  refine zX.call (mid2 := 107) (as := [.inr (10, 0), zi (p : Int)]) (rest := []) ⟨rfl, rfl⟩ (fun _ => rfl) (zX.inv rfl hf rfl rfl) ⟨Nat.le_of_ble_eq_true rfl, Nat.le_of_ble_eq_true rfl⟩ ?_
  refine s_markOf (d := d + 5) hp hf hP ?_
  show zX _ 170 153 [(0, .inr (10, 0)), (1, zi 6), (2, zi (p : Int)), (3, zi x2), (4, zi x3), (5, zi x4)] [zi (wd_P W p).2.1] c s _ _
  refine zX.ret rfl rfl ?_
  exact q
theorem k_load {w : Nat} {x2 x3 x4 : Int} (hwr : ∀ i, 0 ≤ wd_wk W i ∧ wd_wk W i < 3) (hwl : w < 3) (hF : zFd sc h M W)
    (q : Q (.inl (some (.inl (.int (zld (wd_L W) (wd_wk W) w 8 0 0))))) c s h) : zX (d + 10) 170 0 [(0, .inr (10, 0)), (1, zi 21), (2, zi (w : Int)), (3, zi x2), (4, zi x3), (5, zi x4)] [] c s h Q := by
  obtain ⟨N, capv, capj, K, g, hM, hf, hA, hV, hP, hJ, hw, hps, hemp, hsc, hfe, hfv⟩ := id hF
  refine zX.sn 1 (pc2 := 1) (l2 := [(0, .inr (10, 0)), (1, zi 21), (2, zi (w : Int)), (3, zi x2), (4, zi x3), (5, zi x4)]) (st2 := [zi 21]) rfl ?_
  refine zX.tsw (tgt := 249) ⟨rfl, rfl⟩ (by omega) (by omega) rfl rfl ?_
  refine zX.sn 1 (pc2 := 250) (l2 := [(0, .inr (10, 0)), (1, zi 21), (2, zi (w : Int)), (3, zi x2), (4, zi x3), (5, zi x4)]) (st2 := [.inr (10, 0)]) rfl ?_
  refine zX.sn 1 (pc2 := 251) (l2 := [(0, .inr (10, 0)), (1, zi 21), (2, zi (w : Int)), (3, zi x2), (4, zi x3), (5, zi x4)]) (st2 := [zi (w : Int), .inr (10, 0)]) rfl ?_
  refine zX.call (mid2 := 125) (as := [.inr (10, 0), zi (w : Int)]) (rest := []) ⟨rfl, rfl⟩ (fun _ => rfl) (zX.inv rfl hf rfl rfl) ⟨Nat.le_of_ble_eq_true rfl, Nat.le_of_ble_eq_true rfl⟩ ?_
  refine s_load (d := d + 5) hwr hwl hw hf hA hV ?_
  show zX _ 170 254 [(0, .inr (10, 0)), (1, zi 21), (2, zi (w : Int)), (3, zi x2), (4, zi x3), (5, zi x4)] [.inl (.int (zld (wd_L W) (wd_wk W) w 8 0 0))] c s _ _
  refine zX.ret rfl rfl ?_
  exact q
theorem k_workerOf {k : Nat} {x2 x3 x4 : Int} (hk : k < 8) (hF : zFd sc h M W)
    (q : Q (.inl (some (zi (wd_wk W k)))) c s h) : zX (d + 10) 170 0 [(0, .inr (10, 0)), (1, zi 20), (2, zi (k : Int)), (3, zi x2), (4, zi x3), (5, zi x4)] [] c s h Q := by
  obtain ⟨N, capv, capj, K, g, hM, hf, hA, hV, hP, hJ, hw, hps, hemp, hsc, hfe, hfv⟩ := id hF
  refine zX.sn 1 (pc2 := 1) (l2 := [(0, .inr (10, 0)), (1, zi 20), (2, zi (k : Int)), (3, zi x2), (4, zi x3), (5, zi x4)]) (st2 := [zi 20]) rfl ?_
  refine zX.tsw (tgt := 243) ⟨rfl, rfl⟩ (by omega) (by omega) rfl rfl ?_
  refine zX.sn 1 (pc2 := 244) (l2 := [(0, .inr (10, 0)), (1, zi 20), (2, zi (k : Int)), (3, zi x2), (4, zi x3), (5, zi x4)]) (st2 := [.inr (10, 0)]) rfl ?_
  refine zX.sn 1 (pc2 := 245) (l2 := [(0, .inr (10, 0)), (1, zi 20), (2, zi (k : Int)), (3, zi x2), (4, zi x3), (5, zi x4)]) (st2 := [zi (k : Int), .inr (10, 0)]) rfl ?_
  refine zX.call (mid2 := 124) (as := [.inr (10, 0), zi (k : Int)]) (rest := []) ⟨rfl, rfl⟩ (fun _ => rfl) (zX.inv rfl hf rfl rfl) ⟨Nat.le_of_ble_eq_true rfl, Nat.le_of_ble_eq_true rfl⟩ ?_
  refine s_workerOf (d := d + 8) hk hf hw ?_
  show zX _ 170 248 [(0, .inr (10, 0)), (1, zi 20), (2, zi (k : Int)), (3, zi x2), (4, zi x3), (5, zi x4)] [zi (wd_wk W k)] c s _ _
  refine zX.ret rfl rfl ?_
  exact q
theorem k_wait0 {j : Nat} {x : Int64} {x3 x4 : Int} (hx : (wd_O W)[(if wd_uw W then wd_cu W else wd_pr W) + j]? = some x) (hF : zFd sc h M W)
    (q : Q (.inl (some (zi (zvw x : Int)))) c s h) : zX (d + 10) 170 0 [(0, .inr (10, 0)), (1, zi 17), (2, zi (j : Int)), (3, zi 0), (4, zi x3), (5, zi x4)] [] c s h Q := by
  obtain ⟨N, capv, capj, K, g, hM, hf, hA, hV, hP, hJ, hw, hps, hemp, hsc, hfe, hfv⟩ := id hF
  refine zX.sn 1 (pc2 := 1) (l2 := [(0, .inr (10, 0)), (1, zi 17), (2, zi (j : Int)), (3, zi 0), (4, zi x3), (5, zi x4)]) (st2 := [zi 17]) rfl ?_
  refine zX.tsw (tgt := 223) ⟨rfl, rfl⟩ (by omega) (by omega) rfl rfl ?_
  refine zX.sn 1 (pc2 := 224) (l2 := [(0, .inr (10, 0)), (1, zi 17), (2, zi (j : Int)), (3, zi 0), (4, zi x3), (5, zi x4)]) (st2 := [.inr (10, 0)]) rfl ?_
  refine zX.sn 1 (pc2 := 225) (l2 := [(0, .inr (10, 0)), (1, zi 17), (2, zi (j : Int)), (3, zi 0), (4, zi x3), (5, zi x4)]) (st2 := [zi (j : Int), .inr (10, 0)]) rfl ?_
  refine zX.sn 1 (pc2 := 226) (l2 := [(0, .inr (10, 0)), (1, zi 17), (2, zi (j : Int)), (3, zi 0), (4, zi x3), (5, zi x4)]) (st2 := [zi 0, zi (j : Int), .inr (10, 0)]) rfl ?_
  refine zX.call (mid2 := 121) (as := [.inr (10, 0), zi (j : Int), zi 0]) (rest := []) ⟨rfl, rfl⟩ (fun _ => rfl) (zX.inv rfl hf rfl rfl) ⟨Nat.le_of_ble_eq_true rfl, Nat.le_of_ble_eq_true rfl⟩ ?_
  refine s_waitingAt0 (d := d + 6) hf hV.1 hx ?_
  show zX _ 170 229 [(0, .inr (10, 0)), (1, zi 17), (2, zi (j : Int)), (3, zi 0), (4, zi x3), (5, zi x4)] [zi (zvw x : Int)] c s _ _
  refine zX.ret rfl rfl ?_
  exact q
theorem k_wait5 {j : Nat} {x : Int64} {x3 x4 : Int} (hx : (wd_O W)[(if wd_uw W then wd_cu W else wd_pr W) + j]? = some x) (hF : zFd sc h M W)
    (q : Q (.inl (some (zi (zsg x)))) c s h) : zX (d + 10) 170 0 [(0, .inr (10, 0)), (1, zi 17), (2, zi (j : Int)), (3, zi 5), (4, zi x3), (5, zi x4)] [] c s h Q := by
  obtain ⟨N, capv, capj, K, g, hM, hf, hA, hV, hP, hJ, hw, hps, hemp, hsc, hfe, hfv⟩ := id hF
  refine zX.sn 1 (pc2 := 1) (l2 := [(0, .inr (10, 0)), (1, zi 17), (2, zi (j : Int)), (3, zi 5), (4, zi x3), (5, zi x4)]) (st2 := [zi 17]) rfl ?_
  refine zX.tsw (tgt := 223) ⟨rfl, rfl⟩ (by omega) (by omega) rfl rfl ?_
  refine zX.sn 1 (pc2 := 224) (l2 := [(0, .inr (10, 0)), (1, zi 17), (2, zi (j : Int)), (3, zi 5), (4, zi x3), (5, zi x4)]) (st2 := [.inr (10, 0)]) rfl ?_
  refine zX.sn 1 (pc2 := 225) (l2 := [(0, .inr (10, 0)), (1, zi 17), (2, zi (j : Int)), (3, zi 5), (4, zi x3), (5, zi x4)]) (st2 := [zi (j : Int), .inr (10, 0)]) rfl ?_
  refine zX.sn 1 (pc2 := 226) (l2 := [(0, .inr (10, 0)), (1, zi 17), (2, zi (j : Int)), (3, zi 5), (4, zi x3), (5, zi x4)]) (st2 := [zi 5, zi (j : Int), .inr (10, 0)]) rfl ?_
  refine zX.call (mid2 := 121) (as := [.inr (10, 0), zi (j : Int), zi 5]) (rest := []) ⟨rfl, rfl⟩ (fun _ => rfl) (zX.inv rfl hf rfl rfl) ⟨Nat.le_of_ble_eq_true rfl, Nat.le_of_ble_eq_true rfl⟩ ?_
  refine s_waitingAt5 (d := d + 6) hf hV.1 hx ?_
  show zX _ 170 229 [(0, .inr (10, 0)), (1, zi 17), (2, zi (j : Int)), (3, zi 5), (4, zi x3), (5, zi x4)] [zi (zsg x)] c s _ _
  refine zX.ret rfl rfl ?_
  exact q
theorem x_putRowP {p : Nat} {x2 x3 x4 : Int} (hp : 3 ≤ p ∧ p < 100) (hF : zFd sc h M W)
    (q : Q (.inl (some (zi (-1002)))) (c + 1) (s + 6) h) : zX (d + 10) 170 0 [(0, .inr (10, 0)), (1, zi 0), (2, zi (p : Int)), (3, zi x2), (4, zi x3), (5, zi x4)] [] c s h Q := by
  obtain ⟨N, capv, capj, K, g, hM, hf, hA, hV, hP, hJ, hw, hps, hemp, hsc, hfe, hfv⟩ := id hF
  refine zX.sn 1 (pc2 := 1) (l2 := [(0, .inr (10, 0)), (1, zi 0), (2, zi (p : Int)), (3, zi x2), (4, zi x3), (5, zi x4)]) (st2 := [zi 0]) rfl ?_
  refine zX.tsw (tgt := 104) ⟨rfl, rfl⟩ (by omega) (by omega) rfl rfl ?_
  refine zX.sn 1 (pc2 := 105) (l2 := [(0, .inr (10, 0)), (1, zi 0), (2, zi (p : Int)), (3, zi x2), (4, zi x3), (5, zi x4)]) (st2 := [.inr (10, 0)]) rfl ?_
  refine zX.sn 1 (pc2 := 106) (l2 := [(0, .inr (10, 0)), (1, zi 0), (2, zi (p : Int)), (3, zi x2), (4, zi x3), (5, zi x4)]) (st2 := [zi (p : Int), .inr (10, 0)]) rfl ?_
  refine zX.sn 1 (pc2 := 107) (l2 := [(0, .inr (10, 0)), (1, zi 0), (2, zi (p : Int)), (3, zi x2), (4, zi x3), (5, zi x4)]) (st2 := [zi x2, zi (p : Int), .inr (10, 0)]) rfl ?_
  refine zX.sn 1 (pc2 := 109) (l2 := [(0, .inr (10, 0)), (1, zi 0), (2, zi (p : Int)), (3, zi x2), (4, zi x3), (5, zi x4)]) (st2 := [zi x3, zi x2, zi (p : Int), .inr (10, 0)]) rfl ?_
  refine zX.sn 1 (pc2 := 111) (l2 := [(0, .inr (10, 0)), (1, zi 0), (2, zi (p : Int)), (3, zi x2), (4, zi x3), (5, zi x4)]) (st2 := [zi x4, zi x3, zi x2, zi (p : Int), .inr (10, 0)]) rfl ?_
  refine zX.call (mid2 := 100) (as := [.inr (10, 0), zi (p : Int), zi x2, zi x3, zi x4]) (rest := []) ⟨rfl, rfl⟩ (fun _ => rfl) (zX.inv rfl hf rfl rfl) ⟨Nat.le_of_ble_eq_true rfl, Nat.le_of_ble_eq_true rfl⟩ ?_
  refine t_putRowP (d := d) hp.1 hp.2 hf hP ?_
  refine zXK.han (z := (270, 2, 6)) rfl ?_
  show zX _ 170 272 [(0, .inr (10, 0)), (1, zi 0), (2, zi (p : Int)), (3, zi x2), (4, zi x3), (5, zi x4)] [] (c + 1) (s + 6) _ _
  refine zX.sn 1 (pc2 := 275) (l2 := [(0, .inr (10, 0)), (1, zi 0), (2, zi (p : Int)), (3, zi x2), (4, zi x3), (5, zi x4)]) (st2 := [zi (-1002)]) rfl ?_
  refine zX.ret rfl rfl ?_
  exact q
theorem x_putMarkP {p : Nat} {x2 x3 x4 : Int} (hp : 3 ≤ p ∧ p < 100) (hF : zFd sc h M W)
    (q : Q (.inl (some (zi (-1002)))) (c + 1) (s + 6) h) : zX (d + 10) 170 0 [(0, .inr (10, 0)), (1, zi 1), (2, zi (p : Int)), (3, zi x2), (4, zi x3), (5, zi x4)] [] c s h Q := by
  obtain ⟨N, capv, capj, K, g, hM, hf, hA, hV, hP, hJ, hw, hps, hemp, hsc, hfe, hfv⟩ := id hF
  refine zX.sn 1 (pc2 := 1) (l2 := [(0, .inr (10, 0)), (1, zi 1), (2, zi (p : Int)), (3, zi x2), (4, zi x3), (5, zi x4)]) (st2 := [zi 1]) rfl ?_
  refine zX.tsw (tgt := 115) ⟨rfl, rfl⟩ (by omega) (by omega) rfl rfl ?_
  refine zX.sn 1 (pc2 := 116) (l2 := [(0, .inr (10, 0)), (1, zi 1), (2, zi (p : Int)), (3, zi x2), (4, zi x3), (5, zi x4)]) (st2 := [.inr (10, 0)]) rfl ?_
  refine zX.sn 1 (pc2 := 117) (l2 := [(0, .inr (10, 0)), (1, zi 1), (2, zi (p : Int)), (3, zi x2), (4, zi x3), (5, zi x4)]) (st2 := [zi (p : Int), .inr (10, 0)]) rfl ?_
  refine zX.sn 1 (pc2 := 118) (l2 := [(0, .inr (10, 0)), (1, zi 1), (2, zi (p : Int)), (3, zi x2), (4, zi x3), (5, zi x4)]) (st2 := [zi x2, zi (p : Int), .inr (10, 0)]) rfl ?_
  refine zX.call (mid2 := 101) (as := [.inr (10, 0), zi (p : Int), zi x2]) (rest := []) ⟨rfl, rfl⟩ (fun _ => rfl) (zX.inv rfl hf rfl rfl) ⟨Nat.le_of_ble_eq_true rfl, Nat.le_of_ble_eq_true rfl⟩ ?_
  refine t_putMarkP (d := d) (x2 := x2) (x3 := x3) hp.1 hp.2 hf hP ?_
  refine zXK.han (z := (270, 2, 6)) rfl ?_
  show zX _ 170 272 [(0, .inr (10, 0)), (1, zi 1), (2, zi (p : Int)), (3, zi x2), (4, zi x3), (5, zi x4)] [] (c + 1) (s + 6) _ _
  refine zX.sn 1 (pc2 := 275) (l2 := [(0, .inr (10, 0)), (1, zi 1), (2, zi (p : Int)), (3, zi x2), (4, zi x3), (5, zi x4)]) (st2 := [zi (-1002)]) rfl ?_
  refine zX.ret rfl rfl ?_
  exact q
theorem x_slackP {p : Nat} {x2 x3 x4 : Int} (hp : 3 ≤ p ∧ p < 100) (hF : zFd sc h M W)
    (q : Q (.inl (some (zi (-1002)))) (c + 1) (s + 6) h) : zX (d + 10) 170 0 [(0, .inr (10, 0)), (1, zi 2), (2, zi (p : Int)), (3, zi x2), (4, zi x3), (5, zi x4)] [] c s h Q := by
  obtain ⟨N, capv, capj, K, g, hM, hf, hA, hV, hP, hJ, hw, hps, hemp, hsc, hfe, hfv⟩ := id hF
  refine zX.sn 1 (pc2 := 1) (l2 := [(0, .inr (10, 0)), (1, zi 2), (2, zi (p : Int)), (3, zi x2), (4, zi x3), (5, zi x4)]) (st2 := [zi 2]) rfl ?_
  refine zX.tsw (tgt := 122) ⟨rfl, rfl⟩ (by omega) (by omega) rfl rfl ?_
  refine zX.sn 1 (pc2 := 123) (l2 := [(0, .inr (10, 0)), (1, zi 2), (2, zi (p : Int)), (3, zi x2), (4, zi x3), (5, zi x4)]) (st2 := [.inr (10, 0)]) rfl ?_
  refine zX.sn 1 (pc2 := 124) (l2 := [(0, .inr (10, 0)), (1, zi 2), (2, zi (p : Int)), (3, zi x2), (4, zi x3), (5, zi x4)]) (st2 := [zi (p : Int), .inr (10, 0)]) rfl ?_
  refine zX.sn 1 (pc2 := 125) (l2 := [(0, .inr (10, 0)), (1, zi 2), (2, zi (p : Int)), (3, zi x2), (4, zi x3), (5, zi x4)]) (st2 := [zi x2, zi (p : Int), .inr (10, 0)]) rfl ?_
  refine zX.call (mid2 := 102) (as := [.inr (10, 0), zi (p : Int), zi x2]) (rest := []) ⟨rfl, rfl⟩ (fun _ => rfl) (zX.inv rfl hf rfl rfl) ⟨Nat.le_of_ble_eq_true rfl, Nat.le_of_ble_eq_true rfl⟩ ?_
  refine t_setSlackP (d := d) (x2 := x2) (x3 := x3) hp.1 hp.2 hf hP ?_
  refine zXK.han (z := (270, 2, 6)) rfl ?_
  show zX _ 170 272 [(0, .inr (10, 0)), (1, zi 2), (2, zi (p : Int)), (3, zi x2), (4, zi x3), (5, zi x4)] [] (c + 1) (s + 6) _ _
  refine zX.sn 1 (pc2 := 275) (l2 := [(0, .inr (10, 0)), (1, zi 2), (2, zi (p : Int)), (3, zi x2), (4, zi x3), (5, zi x4)]) (st2 := [zi (-1002)]) rfl ?_
  refine zX.ret rfl rfl ?_
  exact q
theorem x_readP {p : Nat} {x2 x3 x4 : Int} (hp : 3 ≤ p ∧ p < 100) (hF : zFd sc h M W)
    (q : Q (.inl (some (zi (-1002)))) (c + 1) (s + 6) h) : zX (d + 10) 170 0 [(0, .inr (10, 0)), (1, zi 4), (2, zi (p : Int)), (3, zi x2), (4, zi x3), (5, zi x4)] [] c s h Q := by
  obtain ⟨N, capv, capj, K, g, hM, hf, hA, hV, hP, hJ, hw, hps, hemp, hsc, hfe, hfv⟩ := id hF
  refine zX.sn 1 (pc2 := 1) (l2 := [(0, .inr (10, 0)), (1, zi 4), (2, zi (p : Int)), (3, zi x2), (4, zi x3), (5, zi x4)]) (st2 := [zi 4]) rfl ?_
  refine zX.tsw (tgt := 135) ⟨rfl, rfl⟩ (by omega) (by omega) rfl rfl ?_
  refine zX.sn 1 (pc2 := 136) (l2 := [(0, .inr (10, 0)), (1, zi 4), (2, zi (p : Int)), (3, zi x2), (4, zi x3), (5, zi x4)]) (st2 := [.inr (10, 0)]) rfl ?_
  refine zX.sn 1 (pc2 := 137) (l2 := [(0, .inr (10, 0)), (1, zi 4), (2, zi (p : Int)), (3, zi x2), (4, zi x3), (5, zi x4)]) (st2 := [zi (p : Int), .inr (10, 0)]) rfl ?_
  refine zX.sn 1 (pc2 := 138) (l2 := [(0, .inr (10, 0)), (1, zi 4), (2, zi (p : Int)), (3, zi x2), (4, zi x3), (5, zi x4)]) (st2 := [zi x2, zi (p : Int), .inr (10, 0)]) rfl ?_
  refine zX.call (mid2 := 105) (as := [.inr (10, 0), zi (p : Int), zi x2]) (rest := []) ⟨rfl, rfl⟩ (fun _ => rfl) (zX.inv rfl hf rfl rfl) ⟨Nat.le_of_ble_eq_true rfl, Nat.le_of_ble_eq_true rfl⟩ ?_
  refine t_readP (d := d) (x2 := x2) (x3 := x3) hp.1 hp.2 hf hP ?_
  refine zXK.han (z := (270, 2, 6)) rfl ?_
  show zX _ 170 272 [(0, .inr (10, 0)), (1, zi 4), (2, zi (p : Int)), (3, zi x2), (4, zi x3), (5, zi x4)] [] (c + 1) (s + 6) _ _
  refine zX.sn 1 (pc2 := 275) (l2 := [(0, .inr (10, 0)), (1, zi 4), (2, zi (p : Int)), (3, zi x2), (4, zi x3), (5, zi x4)]) (st2 := [zi (-1002)]) rfl ?_
  refine zX.ret rfl rfl ?_
  exact q
theorem x_placeP {p : Nat} {x2 x3 x4 : Int} (hp : 3 ≤ p ∧ p < 100) (hF : zFd sc h M W)
    (q : Q (.inl (some (zi (-1002)))) (c + 1) (s + 6) h) : zX (d + 10) 170 0 [(0, .inr (10, 0)), (1, zi 5), (2, zi (p : Int)), (3, zi x2), (4, zi x3), (5, zi x4)] [] c s h Q := by
  obtain ⟨N, capv, capj, K, g, hM, hf, hA, hV, hP, hJ, hw, hps, hemp, hsc, hfe, hfv⟩ := id hF
  refine zX.sn 1 (pc2 := 1) (l2 := [(0, .inr (10, 0)), (1, zi 5), (2, zi (p : Int)), (3, zi x2), (4, zi x3), (5, zi x4)]) (st2 := [zi 5]) rfl ?_
  refine zX.tsw (tgt := 142) ⟨rfl, rfl⟩ (by omega) (by omega) rfl rfl ?_
  refine zX.sn 1 (pc2 := 143) (l2 := [(0, .inr (10, 0)), (1, zi 5), (2, zi (p : Int)), (3, zi x2), (4, zi x3), (5, zi x4)]) (st2 := [.inr (10, 0)]) rfl ?_
  refine zX.sn 1 (pc2 := 144) (l2 := [(0, .inr (10, 0)), (1, zi 5), (2, zi (p : Int)), (3, zi x2), (4, zi x3), (5, zi x4)]) (st2 := [zi (p : Int), .inr (10, 0)]) rfl ?_
  refine zX.call (mid2 := 106) (as := [.inr (10, 0), zi (p : Int)]) (rest := []) ⟨rfl, rfl⟩ (fun _ => rfl) (zX.inv rfl hf rfl rfl) ⟨Nat.le_of_ble_eq_true rfl, Nat.le_of_ble_eq_true rfl⟩ ?_
  refine t_placeP (d := d) (x1 := x2) (x2 := x2) (x3 := x3) hp.1 hp.2 hf hP ?_
  refine zXK.han (z := (270, 2, 6)) rfl ?_
  show zX _ 170 272 [(0, .inr (10, 0)), (1, zi 5), (2, zi (p : Int)), (3, zi x2), (4, zi x3), (5, zi x4)] [] (c + 1) (s + 6) _ _
  refine zX.sn 1 (pc2 := 275) (l2 := [(0, .inr (10, 0)), (1, zi 5), (2, zi (p : Int)), (3, zi x2), (4, zi x3), (5, zi x4)]) (st2 := [zi (-1002)]) rfl ?_
  refine zX.ret rfl rfl ?_
  exact q
theorem x_putRowK {p : Nat} {x3 x4 : Int} (hp : p < 3) (hF : zFd sc h M W)
    (q : Q (.inl (some (zi (-1002)))) (c + 1) (s + 6) h) : zX (d + 10) 170 0 [(0, .inr (10, 0)), (1, zi 0), (2, zi (p : Int)), (3, zi 8), (4, zi x3), (5, zi x4)] [] c s h Q := by
  obtain ⟨N, capv, capj, K, g, hM, hf, hA, hV, hP, hJ, hw, hps, hemp, hsc, hfe, hfv⟩ := id hF
  refine zX.sn 1 (pc2 := 1) (l2 := [(0, .inr (10, 0)), (1, zi 0), (2, zi (p : Int)), (3, zi 8), (4, zi x3), (5, zi x4)]) (st2 := [zi 0]) rfl ?_
  refine zX.tsw (tgt := 104) ⟨rfl, rfl⟩ (by omega) (by omega) rfl rfl ?_
  refine zX.sn 1 (pc2 := 105) (l2 := [(0, .inr (10, 0)), (1, zi 0), (2, zi (p : Int)), (3, zi 8), (4, zi x3), (5, zi x4)]) (st2 := [.inr (10, 0)]) rfl ?_
  refine zX.sn 1 (pc2 := 106) (l2 := [(0, .inr (10, 0)), (1, zi 0), (2, zi (p : Int)), (3, zi 8), (4, zi x3), (5, zi x4)]) (st2 := [zi (p : Int), .inr (10, 0)]) rfl ?_
  refine zX.sn 1 (pc2 := 107) (l2 := [(0, .inr (10, 0)), (1, zi 0), (2, zi (p : Int)), (3, zi 8), (4, zi x3), (5, zi x4)]) (st2 := [zi 8, zi (p : Int), .inr (10, 0)]) rfl ?_
  refine zX.sn 1 (pc2 := 109) (l2 := [(0, .inr (10, 0)), (1, zi 0), (2, zi (p : Int)), (3, zi 8), (4, zi x3), (5, zi x4)]) (st2 := [zi x3, zi 8, zi (p : Int), .inr (10, 0)]) rfl ?_
  refine zX.sn 1 (pc2 := 111) (l2 := [(0, .inr (10, 0)), (1, zi 0), (2, zi (p : Int)), (3, zi 8), (4, zi x3), (5, zi x4)]) (st2 := [zi x4, zi x3, zi 8, zi (p : Int), .inr (10, 0)]) rfl ?_
  refine zX.call (mid2 := 100) (as := [.inr (10, 0), zi (p : Int), zi 8, zi x3, zi x4]) (rest := []) ⟨rfl, rfl⟩ (fun _ => rfl) (zX.inv rfl hf rfl rfl) ⟨Nat.le_of_ble_eq_true rfl, Nat.le_of_ble_eq_true rfl⟩ ?_
  refine t_putRowK (d := d) hp hf hP hw ?_
  refine zXK.han (z := (270, 2, 6)) rfl ?_
  show zX _ 170 272 [(0, .inr (10, 0)), (1, zi 0), (2, zi (p : Int)), (3, zi 8), (4, zi x3), (5, zi x4)] [] (c + 1) (s + 6) _ _
  refine zX.sn 1 (pc2 := 275) (l2 := [(0, .inr (10, 0)), (1, zi 0), (2, zi (p : Int)), (3, zi 8), (4, zi x3), (5, zi x4)]) (st2 := [zi (-1002)]) rfl ?_
  refine zX.ret rfl rfl ?_
  exact q
theorem x_slackV {p x : Nat} {x3 x4 : Int} (hp : p < 3) (hx : x ≤ 99) (hl : 0 < (wd_L W).length) (hF : zFd sc h M W)
    (q : Q (.inl (some (zi (-1003)))) (c + 1) (s + 6) h) : zX (d + 10) 170 0 [(0, .inr (10, 0)), (1, zi 2), (2, zi (p : Int)), (3, zi (x : Int)), (4, zi x3), (5, zi x4)] [] c s h Q := by
  obtain ⟨N, capv, capj, K, g, hM, hf, hA, hV, hP, hJ, hw, hps, hemp, hsc, hfe, hfv⟩ := id hF
  refine zX.sn 1 (pc2 := 1) (l2 := [(0, .inr (10, 0)), (1, zi 2), (2, zi (p : Int)), (3, zi (x : Int)), (4, zi x3), (5, zi x4)]) (st2 := [zi 2]) rfl ?_
  refine zX.tsw (tgt := 122) ⟨rfl, rfl⟩ (by omega) (by omega) rfl rfl ?_
  refine zX.sn 1 (pc2 := 123) (l2 := [(0, .inr (10, 0)), (1, zi 2), (2, zi (p : Int)), (3, zi (x : Int)), (4, zi x3), (5, zi x4)]) (st2 := [.inr (10, 0)]) rfl ?_
  refine zX.sn 1 (pc2 := 124) (l2 := [(0, .inr (10, 0)), (1, zi 2), (2, zi (p : Int)), (3, zi (x : Int)), (4, zi x3), (5, zi x4)]) (st2 := [zi (p : Int), .inr (10, 0)]) rfl ?_
  refine zX.sn 1 (pc2 := 125) (l2 := [(0, .inr (10, 0)), (1, zi 2), (2, zi (p : Int)), (3, zi (x : Int)), (4, zi x3), (5, zi x4)]) (st2 := [zi (x : Int), zi (p : Int), .inr (10, 0)]) rfl ?_
  refine zX.call (mid2 := 102) (as := [.inr (10, 0), zi (p : Int), zi (x : Int)]) (rest := []) ⟨rfl, rfl⟩ (fun _ => rfl) (zX.inv rfl hf rfl rfl) ⟨Nat.le_of_ble_eq_true rfl, Nat.le_of_ble_eq_true rfl⟩ ?_
  refine t_setSlackV (d := d) hp hx hf hP hA (by rw [← List.length_eq_zero_iff, zVn_len]; omega) ?_
  refine zXK.han (z := (276, 2, 6)) rfl ?_
  show zX _ 170 278 [(0, .inr (10, 0)), (1, zi 2), (2, zi (p : Int)), (3, zi (x : Int)), (4, zi x3), (5, zi x4)] [] (c + 1) (s + 6) _ _
  refine zX.sn 1 (pc2 := 281) (l2 := [(0, .inr (10, 0)), (1, zi 2), (2, zi (p : Int)), (3, zi (x : Int)), (4, zi x3), (5, zi x4)]) (st2 := [zi (-1003)]) rfl ?_
  refine zX.ret rfl rfl ?_
  exact q
theorem x_read0 {p : Nat} {x3 x4 : Int} (hp : p < 3) (hF : zFd sc h M W)
    (q : Q (.inl (some (zi (-1002)))) (c + 1) (s + 6) h) : zX (d + 10) 170 0 [(0, .inr (10, 0)), (1, zi 4), (2, zi (p : Int)), (3, zi 0), (4, zi x3), (5, zi x4)] [] c s h Q := by
  obtain ⟨N, capv, capj, K, g, hM, hf, hA, hV, hP, hJ, hw, hps, hemp, hsc, hfe, hfv⟩ := id hF
  refine zX.sn 1 (pc2 := 1) (l2 := [(0, .inr (10, 0)), (1, zi 4), (2, zi (p : Int)), (3, zi 0), (4, zi x3), (5, zi x4)]) (st2 := [zi 4]) rfl ?_
  refine zX.tsw (tgt := 135) ⟨rfl, rfl⟩ (by omega) (by omega) rfl rfl ?_
  refine zX.sn 1 (pc2 := 136) (l2 := [(0, .inr (10, 0)), (1, zi 4), (2, zi (p : Int)), (3, zi 0), (4, zi x3), (5, zi x4)]) (st2 := [.inr (10, 0)]) rfl ?_
  refine zX.sn 1 (pc2 := 137) (l2 := [(0, .inr (10, 0)), (1, zi 4), (2, zi (p : Int)), (3, zi 0), (4, zi x3), (5, zi x4)]) (st2 := [zi (p : Int), .inr (10, 0)]) rfl ?_
  refine zX.sn 1 (pc2 := 138) (l2 := [(0, .inr (10, 0)), (1, zi 4), (2, zi (p : Int)), (3, zi 0), (4, zi x3), (5, zi x4)]) (st2 := [zi 0, zi (p : Int), .inr (10, 0)]) rfl ?_
  refine zX.call (mid2 := 105) (as := [.inr (10, 0), zi (p : Int), zi 0]) (rest := []) ⟨rfl, rfl⟩ (fun _ => rfl) (zX.inv rfl hf rfl rfl) ⟨Nat.le_of_ble_eq_true rfl, Nat.le_of_ble_eq_true rfl⟩ ?_
  refine t_read0 (d := d) hp hf hP ?_
  refine zXK.han (z := (270, 2, 6)) rfl ?_
  show zX _ 170 272 [(0, .inr (10, 0)), (1, zi 4), (2, zi (p : Int)), (3, zi 0), (4, zi x3), (5, zi x4)] [] (c + 1) (s + 6) _ _
  refine zX.sn 1 (pc2 := 275) (l2 := [(0, .inr (10, 0)), (1, zi 4), (2, zi (p : Int)), (3, zi 0), (4, zi x3), (5, zi x4)]) (st2 := [zi (-1002)]) rfl ?_
  refine zX.ret rfl rfl ?_
  exact q
theorem x_told {i : Nat} {x2 x3 x4 : Int} (hi : (wd_L W).length ≤ i ∧ i < 100) (hF : zFd sc h M W)
    (q : Q (.inl (some (zi (-1001)))) (c + 1) (s + 6) h) : zX (d + 10) 170 0 [(0, .inr (10, 0)), (1, zi 7), (2, zi (i : Int)), (3, zi x2), (4, zi x3), (5, zi x4)] [] c s h Q := by
  obtain ⟨N, capv, capj, K, g, hM, hf, hA, hV, hP, hJ, hw, hps, hemp, hsc, hfe, hfv⟩ := id hF
  refine zX.sn 1 (pc2 := 1) (l2 := [(0, .inr (10, 0)), (1, zi 7), (2, zi (i : Int)), (3, zi x2), (4, zi x3), (5, zi x4)]) (st2 := [zi 7]) rfl ?_
  refine zX.tsw (tgt := 154) ⟨rfl, rfl⟩ (by omega) (by omega) rfl rfl ?_
  refine zX.sn 1 (pc2 := 155) (l2 := [(0, .inr (10, 0)), (1, zi 7), (2, zi (i : Int)), (3, zi x2), (4, zi x3), (5, zi x4)]) (st2 := [.inr (10, 0)]) rfl ?_
  refine zX.sn 1 (pc2 := 156) (l2 := [(0, .inr (10, 0)), (1, zi 7), (2, zi (i : Int)), (3, zi x2), (4, zi x3), (5, zi x4)]) (st2 := [zi (i : Int), .inr (10, 0)]) rfl ?_
  refine zX.call (mid2 := 109) (as := [.inr (10, 0), zi (i : Int)]) (rest := []) ⟨rfl, rfl⟩ (fun _ => rfl) (zX.inv rfl hf rfl rfl) ⟨Nat.le_of_ble_eq_true rfl, Nat.le_of_ble_eq_true rfl⟩ ?_
  refine t_told (d := d) (x1 := x2) hi.1 hi.2 hV.2.1.1 hf hA ?_
  refine zXK.han (z := (264, 2, 6)) rfl ?_
  show zX _ 170 266 [(0, .inr (10, 0)), (1, zi 7), (2, zi (i : Int)), (3, zi x2), (4, zi x3), (5, zi x4)] [] (c + 1) (s + 6) _ _
  refine zX.sn 1 (pc2 := 269) (l2 := [(0, .inr (10, 0)), (1, zi 7), (2, zi (i : Int)), (3, zi x2), (4, zi x3), (5, zi x4)]) (st2 := [zi (-1001)]) rfl ?_
  refine zX.ret rfl rfl ?_
  exact q
theorem x_first {i : Nat} {x2 x3 x4 : Int} (hi : (wd_L W).length ≤ i ∧ i < 100) (hF : zFd sc h M W)
    (q : Q (.inl (some (zi (-1001)))) (c + 1) (s + 6) h) : zX (d + 10) 170 0 [(0, .inr (10, 0)), (1, zi 10), (2, zi (i : Int)), (3, zi x2), (4, zi x3), (5, zi x4)] [] c s h Q := by
  obtain ⟨N, capv, capj, K, g, hM, hf, hA, hV, hP, hJ, hw, hps, hemp, hsc, hfe, hfv⟩ := id hF
  refine zX.sn 1 (pc2 := 1) (l2 := [(0, .inr (10, 0)), (1, zi 10), (2, zi (i : Int)), (3, zi x2), (4, zi x3), (5, zi x4)]) (st2 := [zi 10]) rfl ?_
  refine zX.tsw (tgt := 182) ⟨rfl, rfl⟩ (by omega) (by omega) rfl rfl ?_
  refine zX.sn 1 (pc2 := 183) (l2 := [(0, .inr (10, 0)), (1, zi 10), (2, zi (i : Int)), (3, zi x2), (4, zi x3), (5, zi x4)]) (st2 := [.inr (10, 0)]) rfl ?_
  refine zX.sn 1 (pc2 := 184) (l2 := [(0, .inr (10, 0)), (1, zi 10), (2, zi (i : Int)), (3, zi x2), (4, zi x3), (5, zi x4)]) (st2 := [zi (i : Int), .inr (10, 0)]) rfl ?_
  refine zX.sn 1 (pc2 := 185) (l2 := [(0, .inr (10, 0)), (1, zi 10), (2, zi (i : Int)), (3, zi x2), (4, zi x3), (5, zi x4)]) (st2 := [zi x2, zi (i : Int), .inr (10, 0)]) rfl ?_
  refine zX.call (mid2 := 112) (as := [.inr (10, 0), zi (i : Int), zi x2]) (rest := []) ⟨rfl, rfl⟩ (fun _ => rfl) (zX.inv rfl hf rfl rfl) ⟨Nat.le_of_ble_eq_true rfl, Nat.le_of_ble_eq_true rfl⟩ ?_
  refine t_first (d := d) hi.1 hi.2 hV.2.1.1 hf hA ?_
  refine zXK.han (z := (264, 2, 6)) rfl ?_
  show zX _ 170 266 [(0, .inr (10, 0)), (1, zi 10), (2, zi (i : Int)), (3, zi x2), (4, zi x3), (5, zi x4)] [] (c + 1) (s + 6) _ _
  refine zX.sn 1 (pc2 := 269) (l2 := [(0, .inr (10, 0)), (1, zi 10), (2, zi (i : Int)), (3, zi x2), (4, zi x3), (5, zi x4)]) (st2 := [zi (-1001)]) rfl ?_
  refine zX.ret rfl rfl ?_
  exact q
theorem x_moveK {x2 x3 x4 : Int}  (hF : zFd sc h M W)
    (q : Q (.inl (some (zi (-1002)))) (c + 1) (s + 6) h) : zX (d + 10) 170 0 [(0, .inr (10, 0)), (1, zi 19), (2, zi 8), (3, zi x2), (4, zi x3), (5, zi x4)] [] c s h Q := by
  obtain ⟨N, capv, capj, K, g, hM, hf, hA, hV, hP, hJ, hw, hps, hemp, hsc, hfe, hfv⟩ := id hF
  refine zX.sn 1 (pc2 := 1) (l2 := [(0, .inr (10, 0)), (1, zi 19), (2, zi 8), (3, zi x2), (4, zi x3), (5, zi x4)]) (st2 := [zi 19]) rfl ?_
  refine zX.tsw (tgt := 236) ⟨rfl, rfl⟩ (by omega) (by omega) rfl rfl ?_
  refine zX.sn 1 (pc2 := 237) (l2 := [(0, .inr (10, 0)), (1, zi 19), (2, zi 8), (3, zi x2), (4, zi x3), (5, zi x4)]) (st2 := [.inr (10, 0)]) rfl ?_
  refine zX.sn 1 (pc2 := 238) (l2 := [(0, .inr (10, 0)), (1, zi 19), (2, zi 8), (3, zi x2), (4, zi x3), (5, zi x4)]) (st2 := [zi 8, .inr (10, 0)]) rfl ?_
  refine zX.sn 1 (pc2 := 239) (l2 := [(0, .inr (10, 0)), (1, zi 19), (2, zi 8), (3, zi x2), (4, zi x3), (5, zi x4)]) (st2 := [zi x2, zi 8, .inr (10, 0)]) rfl ?_
  refine zX.call (mid2 := 123) (as := [.inr (10, 0), zi 8, zi x2]) (rest := []) ⟨rfl, rfl⟩ (fun _ => rfl) (zX.inv rfl hf rfl rfl) ⟨Nat.le_of_ble_eq_true rfl, Nat.le_of_ble_eq_true rfl⟩ ?_
  refine t_moveKeyK (d := d) hf hw ?_
  refine zXK.han (z := (270, 2, 6)) rfl ?_
  show zX _ 170 272 [(0, .inr (10, 0)), (1, zi 19), (2, zi 8), (3, zi x2), (4, zi x3), (5, zi x4)] [] (c + 1) (s + 6) _ _
  refine zX.sn 1 (pc2 := 275) (l2 := [(0, .inr (10, 0)), (1, zi 19), (2, zi 8), (3, zi x2), (4, zi x3), (5, zi x4)]) (st2 := [zi (-1002)]) rfl ?_
  refine zX.ret rfl rfl ?_
  exact q
theorem x_moveW {k : Nat} {x3 x4 : Int} (hk : k < 8) (hF : zFd sc h M W)
    (q : Q (.inl (some (zi (-1002)))) (c + 1) (s + 6) h) : zX (d + 10) 170 0 [(0, .inr (10, 0)), (1, zi 19), (2, zi (k : Int)), (3, zi 3), (4, zi x3), (5, zi x4)] [] c s h Q := by
  obtain ⟨N, capv, capj, K, g, hM, hf, hA, hV, hP, hJ, hw, hps, hemp, hsc, hfe, hfv⟩ := id hF
  refine zX.sn 1 (pc2 := 1) (l2 := [(0, .inr (10, 0)), (1, zi 19), (2, zi (k : Int)), (3, zi 3), (4, zi x3), (5, zi x4)]) (st2 := [zi 19]) rfl ?_
  refine zX.tsw (tgt := 236) ⟨rfl, rfl⟩ (by omega) (by omega) rfl rfl ?_
  refine zX.sn 1 (pc2 := 237) (l2 := [(0, .inr (10, 0)), (1, zi 19), (2, zi (k : Int)), (3, zi 3), (4, zi x3), (5, zi x4)]) (st2 := [.inr (10, 0)]) rfl ?_
  refine zX.sn 1 (pc2 := 238) (l2 := [(0, .inr (10, 0)), (1, zi 19), (2, zi (k : Int)), (3, zi 3), (4, zi x3), (5, zi x4)]) (st2 := [zi (k : Int), .inr (10, 0)]) rfl ?_
  refine zX.sn 1 (pc2 := 239) (l2 := [(0, .inr (10, 0)), (1, zi 19), (2, zi (k : Int)), (3, zi 3), (4, zi x3), (5, zi x4)]) (st2 := [zi 3, zi (k : Int), .inr (10, 0)]) rfl ?_
  refine zX.call (mid2 := 123) (as := [.inr (10, 0), zi (k : Int), zi 3]) (rest := []) ⟨rfl, rfl⟩ (fun _ => rfl) (zX.inv rfl hf rfl rfl) ⟨Nat.le_of_ble_eq_true rfl, Nat.le_of_ble_eq_true rfl⟩ ?_
  refine t_moveKeyW (d := d) hk hf hw ?_
  refine zXK.han (z := (270, 2, 6)) rfl ?_
  show zX _ 170 272 [(0, .inr (10, 0)), (1, zi 19), (2, zi (k : Int)), (3, zi 3), (4, zi x3), (5, zi x4)] [] (c + 1) (s + 6) _ _
  refine zX.sn 1 (pc2 := 275) (l2 := [(0, .inr (10, 0)), (1, zi 19), (2, zi (k : Int)), (3, zi 3), (4, zi x3), (5, zi x4)]) (st2 := [zi (-1002)]) rfl ?_
  refine zX.ret rfl rfl ?_
  exact q
theorem x_cut {x1 x2 x3 x4 : Int} (hu : wd_uw W = true) (hF : zFd sc h M W)
    (q : Q (.inl (some (zi (-1003)))) (c + 1) (s + 6) h) : zX (d + 10) 170 0 [(0, .inr (10, 0)), (1, zi 13), (2, zi x1), (3, zi x2), (4, zi x3), (5, zi x4)] [] c s h Q := by
  obtain ⟨N, capv, capj, K, g, hM, hf, hA, hV, hP, hJ, hw, hps, hemp, hsc, hfe, hfv⟩ := id hF
  refine zX.sn 1 (pc2 := 1) (l2 := [(0, .inr (10, 0)), (1, zi 13), (2, zi x1), (3, zi x2), (4, zi x3), (5, zi x4)]) (st2 := [zi 13]) rfl ?_
  refine zX.tsw (tgt := 201) ⟨rfl, rfl⟩ (by omega) (by omega) rfl rfl ?_
  refine zX.sn 1 (pc2 := 202) (l2 := [(0, .inr (10, 0)), (1, zi 13), (2, zi x1), (3, zi x2), (4, zi x3), (5, zi x4)]) (st2 := [.inr (10, 0)]) rfl ?_
  have hf2 : h (10, 0) = some (.inl (10, zFn (zFf (wd_rd W) (wd_ct W) true (wd_pr W) (wd_cu W) (wd_pj W) (wd_cj W)))) := by rw [← hu]; exact hf
  refine zX.call (mid2 := 116) (as := [.inr (10, 0)]) (rest := []) ⟨rfl, rfl⟩ (fun _ => rfl) (zX.inv rfl hf rfl rfl) ⟨Nat.le_of_ble_eq_true rfl, Nat.le_of_ble_eq_true rfl⟩ ?_
  refine t_cut (d := d + 1) hf2 ?_
  refine zXK.han (z := (276, 2, 6)) rfl ?_
  show zX _ 170 278 [(0, .inr (10, 0)), (1, zi 13), (2, zi x1), (3, zi x2), (4, zi x3), (5, zi x4)] [] (c + 1) (s + 6) _ _
  refine zX.sn 1 (pc2 := 281) (l2 := [(0, .inr (10, 0)), (1, zi 13), (2, zi x1), (3, zi x2), (4, zi x3), (5, zi x4)]) (st2 := [zi (-1003)]) rfl ?_
  refine zX.ret rfl rfl ?_
  exact q
theorem x_complete {x1 x2 x3 x4 : Int} (hu : wd_uw W = false) (hF : zFd sc h M W)
    (q : Q (.inl (some (zi (-1003)))) (c + 1) (s + 6) h) : zX (d + 10) 170 0 [(0, .inr (10, 0)), (1, zi 14), (2, zi x1), (3, zi x2), (4, zi x3), (5, zi x4)] [] c s h Q := by
  obtain ⟨N, capv, capj, K, g, hM, hf, hA, hV, hP, hJ, hw, hps, hemp, hsc, hfe, hfv⟩ := id hF
  refine zX.sn 1 (pc2 := 1) (l2 := [(0, .inr (10, 0)), (1, zi 14), (2, zi x1), (3, zi x2), (4, zi x3), (5, zi x4)]) (st2 := [zi 14]) rfl ?_
  refine zX.tsw (tgt := 206) ⟨rfl, rfl⟩ (by omega) (by omega) rfl rfl ?_
  refine zX.sn 1 (pc2 := 207) (l2 := [(0, .inr (10, 0)), (1, zi 14), (2, zi x1), (3, zi x2), (4, zi x3), (5, zi x4)]) (st2 := [.inr (10, 0)]) rfl ?_
  have hf2 : h (10, 0) = some (.inl (10, zFn (zFf (wd_rd W) (wd_ct W) false (wd_pr W) (wd_cu W) (wd_pj W) (wd_cj W)))) := by rw [← hu]; exact hf
  refine zX.call (mid2 := 117) (as := [.inr (10, 0)]) (rest := []) ⟨rfl, rfl⟩ (fun _ => rfl) (zX.inv rfl hf rfl rfl) ⟨Nat.le_of_ble_eq_true rfl, Nat.le_of_ble_eq_true rfl⟩ ?_
  refine t_complete (d := d + 1) hf2 ?_
  refine zXK.han (z := (276, 2, 6)) rfl ?_
  show zX _ 170 278 [(0, .inr (10, 0)), (1, zi 14), (2, zi x1), (3, zi x2), (4, zi x3), (5, zi x4)] [] (c + 1) (s + 6) _ _
  refine zX.sn 1 (pc2 := 281) (l2 := [(0, .inr (10, 0)), (1, zi 14), (2, zi x1), (3, zi x2), (4, zi x3), (5, zi x4)]) (st2 := [zi (-1003)]) rfl ?_
  refine zX.ret rfl rfl ?_
  exact q
end YA0
