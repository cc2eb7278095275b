set_option maxRecDepth 100000
section YA1
def wPut (W : zWl) (p cap : Nat) (e : zE) : zWl := ((zaQ (wd_P W) p cap e, W.1.2), W.2)
def wSlk (W : zWl) (p x : Nat) : zWl := ((zaS (wd_P W) p x, W.1.2), W.2)
noncomputable def wRea (W : zWl) (p n : Nat) (rd1 : Bool) : zWl := (zrN p n W.1, (rd1, wd_ct W, wd_uw W), W.2.2)
def wCut (W : zWl) : zWl := (W.1, (wd_rd W, true, true), (wd_pr W, (wd_O W).length, wd_pj W, (wd_J W).length), W.2.2.2)
def wCom (W : zWl) : zWl := (W.1, (wd_rd W, wd_ct W, false), (wd_cu W, wd_cu W, wd_cj W, wd_cj W), wd_wk W, zcp (((wd_O W).drop (wd_pr W)).take (wd_cu W - wd_pr W)) (wd_ps W))
def wUnc (W : zWl) : zWl := (W.1, (wd_rd W, wd_ct W, false), W.2.2)
/-- what a crash begins with, and what it comes to -/
def wBeg (W : zWl) : zcX := (zaR (wd_P W) 3, (zaB (wd_O W) (wd_L W).length 0 (wd_L W), []))
noncomputable def wCra (W : zWl) : zWl := (((zcF ((wd_J W).take (wd_pj W)) (wBeg W)).1, (wd_J W).take (wd_pj W), (zcF ((wd_J W).take (wd_pj W)) (wBeg W)).2), (wd_rd W, wd_ct W, false), W.2.2)
def wMov (W : zWl) (k w : Nat) : zWl := (W.1, W.2.1, W.2.2.1, zfi (wd_wk W) k (w : Int), wd_ps W)
def wAdd (W : zWl) (C : zCf) : zWl := ((wd_P W, wd_J W, (wd_L W ++ [(C, zS0)], wd_O W)), W.2)
/-- other things than entries lie as they lay; entries that lay there lie there -/
theorem zVi.mv9 {h h1 : xH} {N k1 k2 k3 v : Nat} {C : zCf} {T : zSt × List Int64} (hv : v < 8) (hV : zVi h N k1 k2 k3 v C T) (e : ∀ a b : Nat, (20 ≤ a ∧ a < 60 ∧ b % 8 = v) ∨ a = 0 ∨ (2 ≤ a ∧ a < 4) → h1 (a, b) = h (a, b)) (e8 : ∀ b o, h (8, b) = some o → h1 (8, b) = some o) : zVi h1 N k1 k2 k3 v C T := by
  have ks : ∀ K, zKs h K → zKs h1 K := fun K hk x hx => ⟨(hk x hx).1, e8 _ _ (hk x hx).2⟩
  have hO : ∀ out, zOut h N out → zOut h1 N out := fun out ho => ho.fr (fun a b z => e a b (by omega))
  rcases hV with ⟨c, r, v1, v2, v3, ⟨fg, v4⟩, v5, ⟨fb, v6⟩, gn, gs, gg, v7⟩ | ⟨c, r, v1, v2, v3, ⟨fg, v4⟩, v5, ⟨jj, v6⟩, v7, ⟨fb, v8⟩, ⟨gn, gs, gg, v9⟩, v10⟩ | ⟨c, r, ⟨v1, v2, v3, v4, v5, fb, v6⟩, v7⟩ | ⟨c, r, ⟨v1, v2, v3, v4, v5, v6, ⟨fb, v7⟩, Ag, v8⟩, v9, v10⟩
  · exact Or.inl ⟨c, r, (e _ _ (by omega)).trans v1, v2.fr (fun a b z => e a b (by omega)), (e _ _ (by omega)).trans v3, ⟨fg, v4.fr (fun a b z => e a b (by omega))⟩, hO _ v5, ⟨fb, v6.fr (fun a b z => e a b (by omega))⟩, gn, gs, gg, v7.fr (fun a b z => e a b (by omega))⟩
  · exact Or.inr (Or.inl ⟨c, r, (e _ _ (by omega)).trans v1, v2.fr (fun a b z => e a b (by omega)), (e _ _ (by omega)).trans v3, ⟨fg, v4.fr (fun a b z => e a b (by omega))⟩, (e _ _ (by omega)).trans v5, ⟨jj, (e _ _ (by omega)).trans v6⟩, hO _ v7, ⟨fb, v8.fr (fun a b z => e a b (by omega))⟩, ⟨gn, gs, gg, v9.fr (fun a b z => e a b (by omega))⟩, v10⟩)
  · exact Or.inr (Or.inr (Or.inl ⟨c, r, ⟨(e _ _ (by omega)).trans v1, v2.fr (fun a b z => e a b (by omega)), (e _ _ (by omega)).trans v3, v4.fr (fun a b z => e a b (by omega)), hO _ v5, fb, v6.fr (fun a b z => e a b (by omega))⟩, ks _ v7⟩))
  · exact Or.inr (Or.inr (Or.inr ⟨c, r, ⟨(e _ _ (by omega)).trans v1, v2.fr (fun a b z => e a b (by omega)), (e _ _ (by omega)).trans v3, v4.fr (fun a b z => e a b (by omega)), v5.fr (fun a b z => e a b (by omega)), hO _ v6, ⟨fb, v7.fr (fun a b z => e a b (by omega))⟩, Ag, v8.fr (fun a b z => e a b (by omega))⟩, ks _ v9, ks _ v10⟩))
theorem zVa.mv9 {h h1 : xH} {N : Nat} {K : zKp} {L : zVL} {out : List Int64} (hA : zVa h N K L out) (e : ∀ a b : Nat, (20 ≤ a ∧ a < 60) ∨ a = 0 ∨ (2 ≤ a ∧ a < 4) → h1 (a, b) = h (a, b)) (e8 : ∀ b o, h (8, b) = some o → h1 (8, b) = some o) : zVa h1 N K L out := by
  refine ⟨hA.1.fr (fun a b z => e a b (by omega)), hA.2.1, fun j C S hj => ?_⟩
  have hj5 : j < L.length := (List.getElem?_eq_some_iff.mp hj).1
  have hl := hA.2.1
  exact (hA.2.2 j C S hj).mv9 (by omega) (fun a b z => e a b (by omega)) e8
theorem zJr.mv9 {h h1 : xH} {cap : Nat} {J : List zE} (hJ : zJr h cap J) (e : ∀ a b : Nat, (15 ≤ a ∧ a < 17) ∨ a = 0 → h1 (a, b) = h (a, b)) (e8 : ∀ b o, h (8, b) = some o → h1 (8, b) = some o) : zJr h1 cap J :=
  ⟨hJ.1.fr (fun a b z => e a b (by omega)), fun x hx => ⟨(hJ.2.1 x hx).1, e8 _ _ (hJ.2.1 x hx).2⟩, hJ.2.2⟩
theorem zPc_put {P : Nat → zPT} {p cap : Nat} {e : zE} (hp : p < 3) : zPc (zaQ P p cap e) + (P p).2.2.2.1 = zPc P + cap := by
  match p, hp with
  | 0, _ =>
    show cap + (P 1).2.2.2.1 + (P 2).2.2.2.1 + (P 0).2.2.2.1 = _
    show _ = (P 0).2.2.2.1 + (P 1).2.2.2.1 + (P 2).2.2.2.1 + cap
    omega
  | 1, _ =>
    show (P 0).2.2.2.1 + cap + (P 2).2.2.2.1 + (P 1).2.2.2.1 = (P 0).2.2.2.1 + (P 1).2.2.2.1 + (P 2).2.2.2.1 + cap
    omega
  | 2, _ => exact Nat.add_right_comm _ _ _
theorem wd_nput {W : zWl} {p cap : Nat} {e : zE} {q : Nat} : wd_n (wPut W p cap e) q = if q = p then wd_n W q + 1 else wd_n W q := by
  show ((if q = p then _ else _ : zPT)).2.2.2.2.length = _
  by_cases h : q = p
  · subst h
    rw [if_pos rfl, if_pos rfl]
    show (_ ++ [e]).length = _
    rw [List.length_append]
    rfl
  · rw [if_neg h, if_neg h]
variable {d : Nat} {Q : xR → Nat → Nat → xH → Prop} {sc : Option xO} {h : xH} {M c s : Nat} {W : zWl}
theorem zPc_ge {P : Nat → zPT} {p : Nat} (hp : p < 3) : (P p).2.2.2.1 ≤ zPc P := by
  match p, hp with
  | 0, _ => exact Nat.le_trans (Nat.le_add_right _ _) (Nat.le_add_right _ _)
  | 1, _ => exact Nat.le_trans (Nat.le_add_left _ _) (Nat.le_add_right _ _)
  | 2, _ => exact Nat.le_add_left _ _
/-- behind a put -/
theorem zFd.put {h1 : xH} {p cap : Nat} {e : zE} (hp : p < 3) (hF : zFd sc h M W) (he : zeN e = 8 * wd_n W p + p) (hP1 : zPs h1 (zaQ (wd_P W) p cap e)) (hcap : (wd_P W p).2.2.2.1 ≤ cap) (e1 : ∀ a b : Nat, ¬ (6 ≤ a ∧ a < 8 ∧ b % 8 = p ∨ a = 8 ∧ b = 8 * wd_n W p + p) → h1 (a, b) = h (a, b)) : zFd sc h1 (M + cap - (wd_P W p).2.2.2.1) (wPut W p cap e) := by
  obtain ⟨N, capv, capj, K, g, hM, hf, hA, hV, hP, hJ, hw, hps, hemp, hsc, hfe, hfv⟩ := id hF
  have e8 : ∀ b o, h (8, b) = some o → h1 (8, b) = some o := fun b o ho => (e1 _ _ (fun z => by
    rcases z with z | z
    · omega
    · rw [z.2, hfe p _ hp (Nat.le_refl _)] at ho
      cases ho)).trans ho
  have hpc := zPc_put (P := wd_P W) (cap := cap) (e := e) hp
  have hn := fun q => wd_nput (W := W) (p := p) (cap := cap) (e := e) (q := q)
  refine ⟨N, capv, capj, K, g, ?_, (e1 _ _ (by omega)).trans hf, hA.fr (fun a b z => e1 a b (by omega)), hV.mv9 (fun a b z => e1 a b (by omega)) e8, hP1, hJ.mv9 (fun a b z => e1 a b (by omega)) e8, (e1 _ _ (by omega)).trans hw, (e1 _ _ (by omega)).trans hps, (e1 _ _ (by omega)).trans hemp, (e1 _ _ (by omega)).trans hsc, fun q i hq hi => ?_, fun hr a b z1 z2 z3 => (e1 _ _ (by omega)).trans (hfv hr a b z1 z2 z3)⟩
  · show _ = N + zKm K 5 + capv + capj + zPc (zaQ (wd_P W) p cap e)
    omega
  · rw [hn q] at hi
    by_cases hqp : q = p
    · subst hqp
      rw [if_pos rfl] at hi
      exact (e1 _ _ (by omega)).trans (hfe q i hq (by omega))
    · rw [if_neg hqp] at hi
      exact (e1 _ _ (by omega)).trans (hfe q i hq hi)
set_option maxHeartbeats 1000000 in
theorem k_putRow {p k t : Nat} {v : Int} (hp : p < 3) (ht : t < 1000) (hk : k < 8) (hv : -99 ≤ v ∧ v ≤ 99) (hl : wd_n W p < 72) (hF : zFd sc h M W)
    (q : ∀ h1 M1 cap c1 s1, zFd sc h1 M1 (wPut W p cap (8 * wd_n W p + p, (p, true, k, t, v), (0, 0, 0))) → zCs 1 9 M c s M1 c1 s1 → Q (.inl (some (zi (wd_n W p : Int)))) c1 s1 h1) : zX (d + 10) 170 0 [(0, .inr (10, 0)), (1, zi 0), (2, zi (p : Int)), (3, zi (k : Int)), (4, zi (t : Int)), (5, zi v)] [] c s h Q := by
  obtain ⟨N, capv, capj, K, g, hM, hf, hA, hV, hP, hJ, hw, hps, hemp, hsc, hfe, hfv⟩ := id hF
  refine zX.sn 1 (pc2 := 1) (l2 := [(0, .inr (10, 0)), (1, zi 0), (2, zi (p : Int)), (3, zi (k : Int)), (4, zi (t : Int)), (5, zi v)]) (st2 := [zi 0]) rfl ?_
  refine zX.tsw (tgt := 104) ⟨rfl, rfl⟩ (by omega) (by omega) rfl rfl ?_
  refine zX.sn 1 (pc2 := 105) (l2 := [(0, .inr (10, 0)), (1, zi 0), (2, zi (p : Int)), (3, zi (k : Int)), (4, zi (t : Int)), (5, zi v)]) (st2 := [.inr (10, 0)]) rfl ?_
  refine zX.sn 1 (pc2 := 106) (l2 := [(0, .inr (10, 0)), (1, zi 0), (2, zi (p : Int)), (3, zi (k : Int)), (4, zi (t : Int)), (5, zi v)]) (st2 := [zi (p : Int), .inr (10, 0)]) rfl ?_
  refine zX.sn 1 (pc2 := 107) (l2 := [(0, .inr (10, 0)), (1, zi 0), (2, zi (p : Int)), (3, zi (k : Int)), (4, zi (t : Int)), (5, zi v)]) (st2 := [zi (k : Int), zi (p : Int), .inr (10, 0)]) rfl ?_
  refine zX.sn 1 (pc2 := 109) (l2 := [(0, .inr (10, 0)), (1, zi 0), (2, zi (p : Int)), (3, zi (k : Int)), (4, zi (t : Int)), (5, zi v)]) (st2 := [zi (t : Int), zi (k : Int), zi (p : Int), .inr (10, 0)]) rfl ?_
  refine zX.sn 1 (pc2 := 111) (l2 := [(0, .inr (10, 0)), (1, zi 0), (2, zi (p : Int)), (3, zi (k : Int)), (4, zi (t : Int)), (5, zi v)]) (st2 := [zi v, zi (t : Int), zi (k : Int), zi (p : Int), .inr (10, 0)]) rfl ?_
  have hfe2 : h (8, 8 * wd_n W p + p) = none := hfe p _ hp (Nat.le_refl _)
  refine zX.call (mid2 := 100) (as := [.inr (10, 0), zi (p : Int), zi (k : Int), zi (t : Int), zi v]) (rest := []) ⟨rfl, rfl⟩ (fun _ => rfl) (zX.inv rfl hf rfl rfl) ⟨Nat.le_of_ble_eq_true rfl, Nat.le_of_ble_eq_true rfl⟩ ?_
  refine s_putRow (d := d) hp ht hk hv hw hl hfe2 hf hP (fun h1 cap1 c1 s1 a1 a2 a3 => ?_)
  show zX _ 170 114 [(0, .inr (10, 0)), (1, zi 0), (2, zi (p : Int)), (3, zi (k : Int)), (4, zi (t : Int)), (5, zi v)] [zi (wd_n W p : Int)] c1 s1 _ _
  refine zX.ret rfl rfl ?_
  exact q h1 (M + cap1 - (wd_P W p).2.2.2.1) cap1 c1 s1 (hF.put (e := (8 * wd_n W p + p, (p, true, k, t, v), (0, 0, 0))) hp rfl a1 a3.1 a2) (by have := a3.1; have := a3.2.1; have := a3.2.2; have hpc := zPc_ge (P := wd_P W) hp; omega)
set_option maxHeartbeats 1000000 in
theorem k_putMark {p t : Nat} {x3 x4 : Int} (hp : p < 3) (ht : t < 1000)  (hl : wd_n W p < 72) (hF : zFd sc h M W)
    (q : ∀ h1 M1 cap c1 s1, zFd sc h1 M1 (wPut W p cap (8 * wd_n W p + p, (p, false, 0, t, 0), (0, 0, 0))) → zCs 1 9 M c s M1 c1 s1 → Q (.inl (some (zi (wd_n W p : Int)))) c1 s1 h1) : zX (d + 10) 170 0 [(0, .inr (10, 0)), (1, zi 1), (2, zi (p : Int)), (3, zi (t : Int)), (4, zi x3), (5, zi x4)] [] c s h Q := by
  obtain ⟨N, capv, capj, K, g, hM, hf, hA, hV, hP, hJ, hw, hps, hemp, hsc, hfe, hfv⟩ := id hF
  refine zX.sn 1 (pc2 := 1) (l2 := [(0, .inr (10, 0)), (1, zi 1), (2, zi (p : Int)), (3, zi (t : Int)), (4, zi x3), (5, zi x4)]) (st2 := [zi 1]) rfl ?_
  refine zX.tsw (tgt := 115) ⟨rfl, rfl⟩ (by omega) (by omega) rfl rfl ?_
  refine zX.sn 1 (pc2 := 116) (l2 := [(0, .inr (10, 0)), (1, zi 1), (2, zi (p : Int)), (3, zi (t : Int)), (4, zi x3), (5, zi x4)]) (st2 := [.inr (10, 0)]) rfl ?_
  refine zX.sn 1 (pc2 := 117) (l2 := [(0, .inr (10, 0)), (1, zi 1), (2, zi (p : Int)), (3, zi (t : Int)), (4, zi x3), (5, zi x4)]) (st2 := [zi (p : Int), .inr (10, 0)]) rfl ?_
  refine zX.sn 1 (pc2 := 118) (l2 := [(0, .inr (10, 0)), (1, zi 1), (2, zi (p : Int)), (3, zi (t : Int)), (4, zi x3), (5, zi x4)]) (st2 := [zi (t : Int), zi (p : Int), .inr (10, 0)]) rfl ?_
  have hfe2 : h (8, 8 * wd_n W p + p) = none := hfe p _ hp (Nat.le_refl _)
  refine zX.call (mid2 := 101) (as := [.inr (10, 0), zi (p : Int), zi (t : Int)]) (rest := []) ⟨rfl, rfl⟩ (fun _ => rfl) (zX.inv rfl hf rfl rfl) ⟨Nat.le_of_ble_eq_true rfl, Nat.le_of_ble_eq_true rfl⟩ ?_
  refine s_putMark (d := d) hp ht hl hfe2 hf hP (fun h1 cap1 c1 s1 a1 a2 a3 => ?_)
  show zX _ 170 121 [(0, .inr (10, 0)), (1, zi 1), (2, zi (p : Int)), (3, zi (t : Int)), (4, zi x3), (5, zi x4)] [zi (wd_n W p : Int)] c1 s1 _ _
  refine zX.ret rfl rfl ?_
  exact q h1 (M + cap1 - (wd_P W p).2.2.2.1) cap1 c1 s1 (hF.put (e := (8 * wd_n W p + p, (p, false, 0, t, 0), (0, 0, 0))) hp rfl a1 a3.1 a2) (by have := a3.1; have := a3.2.1; have := a3.2.2; have hpc := zPc_ge (P := wd_P W) hp; omega)
theorem zPc_slk {P : Nat → zPT} {p x : Nat} (hp : p < 3) : zPc (zaS P p x) = zPc P := by
  match p, hp with
  | 0, _ => rfl
  | 1, _ => rfl
  | 2, _ => rfl
theorem k_slack {p x : Nat} {x3 x4 : Int} (hp : p < 3) (hx : x ≤ 99) (hl : wd_L W = []) (hF : zFd sc h M W)
    (q : ∀ h1, zFd sc h1 M (wSlk W p x) → Q (.inl (some (zi ((wd_P W p).2.2.1 : Int)))) c s h1) : zX (d + 10) 170 0 [(0, .inr (10, 0)), (1, zi 2), (2, zi (p : Int)), (3, zi (x : Int)), (4, zi x3), (5, zi x4)] [] c s h Q := by
  obtain ⟨N, capv, capj, K, g, hM, hf, hA, hV, hP, hJ, hw, hps, hemp, hsc, hfe, hfv⟩ := id hF
  refine zX.sn 1 (pc2 := 1) (l2 := [(0, .inr (10, 0)), (1, zi 2), (2, zi (p : Int)), (3, zi (x : Int)), (4, zi x3), (5, zi x4)]) (st2 := [zi 2]) rfl ?_
  refine zX.tsw (tgt := 122) ⟨rfl, rfl⟩ (by omega) (by omega) rfl rfl ?_
  refine zX.sn 1 (pc2 := 123) (l2 := [(0, .inr (10, 0)), (1, zi 2), (2, zi (p : Int)), (3, zi (x : Int)), (4, zi x3), (5, zi x4)]) (st2 := [.inr (10, 0)]) rfl ?_
  refine zX.sn 1 (pc2 := 124) (l2 := [(0, .inr (10, 0)), (1, zi 2), (2, zi (p : Int)), (3, zi (x : Int)), (4, zi x3), (5, zi x4)]) (st2 := [zi (p : Int), .inr (10, 0)]) rfl ?_
  refine zX.sn 1 (pc2 := 125) (l2 := [(0, .inr (10, 0)), (1, zi 2), (2, zi (p : Int)), (3, zi (x : Int)), (4, zi x3), (5, zi x4)]) (st2 := [zi (x : Int), zi (p : Int), .inr (10, 0)]) rfl ?_
  have hA0 : zAL h 13 0 capv [] := by have := hA; rw [hl] at this; exact this
  refine zX.call (mid2 := 102) (as := [.inr (10, 0), zi (p : Int), zi (x : Int)]) (rest := []) ⟨rfl, rfl⟩ (fun _ => rfl) (zX.inv rfl hf rfl rfl) ⟨Nat.le_of_ble_eq_true rfl, Nat.le_of_ble_eq_true rfl⟩ ?_
  refine s_setSlack (d := d + 5) hp hx hf hA0 hP (fun h1 a1 a2 => ?_)
  show zX _ 170 128 [(0, .inr (10, 0)), (1, zi 2), (2, zi (p : Int)), (3, zi (x : Int)), (4, zi x3), (5, zi x4)] [zi ((wd_P W p).2.2.1 : Int)] c s _ _
  refine zX.ret rfl rfl ?_
  refine q h1 ⟨N, capv, capj, K, g, ?_, (a2 _ _ (by omega)).trans hf, hA.fr (fun a b z => a2 a b (by omega)), hV.mv (fun a b z => a2 a b (by omega)), a1, hJ.mv9 (fun a b z => a2 a b (by omega)) (fun b o ho => (a2 _ _ (by omega)).trans ho), (a2 _ _ (by omega)).trans hw, (a2 _ _ (by omega)).trans hps, (a2 _ _ (by omega)).trans hemp, (a2 _ _ (by omega)).trans hsc, fun q i hq hi => ?_, fun hr a b z1 z2 z3 => (a2 _ _ (by omega)).trans (hfv hr a b z1 z2 z3)⟩
  · rw [hM]
    exact congrArg _ (zPc_slk hp).symm
  · refine (a2 _ _ (by omega)).trans (hfe q i hq ?_)
    have hn : wd_n (wSlk W p x) q = wd_n W q := by
      show ((if q = p then _ else _ : zPT)).2.2.2.2.length = _
      by_cases h9 : q = p
      · subst h9
        rw [if_pos rfl]
      · rw [if_neg h9]
    rw [hn] at hi
    exact hi
theorem k_cut {x1 x2 x3 x4 : Int} (hu : wd_uw W = false) (hF : zFd sc h M W)
    (q : ∀ h1, zFd sc h1 M (wCut W) → Q (.inl (some (zi (((wd_O W).length : Int) - (wd_pr W : Int))))) c s h1) : zX (d + 10) 170 0 [(0, .inr (10, 0)), (1, zi 13), (2, zi x1), (3, zi x2), (4, zi x3), (5, zi x4)] [] c s h Q := by
  obtain ⟨N, capv, capj, K, g, hM, hf, hA, hV, hP, hJ, hw, hps, hemp, hsc, hfe, hfv⟩ := id hF
  refine zX.sn 1 (pc2 := 1) (l2 := [(0, .inr (10, 0)), (1, zi 13), (2, zi x1), (3, zi x2), (4, zi x3), (5, zi x4)]) (st2 := [zi 13]) rfl ?_
  refine zX.tsw (tgt := 201) ⟨rfl, rfl⟩ (by omega) (by omega) rfl rfl ?_
  refine zX.sn 1 (pc2 := 202) (l2 := [(0, .inr (10, 0)), (1, zi 13), (2, zi x1), (3, zi x2), (4, zi x3), (5, zi x4)]) (st2 := [.inr (10, 0)]) rfl ?_
  have hf2 : h (10, 0) = some (.inl (10, zFn (zFf (wd_rd W) (wd_ct W) false (wd_pr W) (wd_cu W) (wd_pj W) (wd_cj W)))) := by rw [← hu]; exact hf
  refine zX.call (mid2 := 116) (as := [.inr (10, 0)]) (rest := []) ⟨rfl, rfl⟩ (fun _ => rfl) (zX.inv rfl hf rfl rfl) ⟨Nat.le_of_ble_eq_true rfl, Nat.le_of_ble_eq_true rfl⟩ ?_
  refine s_cut (d := d + 8) hV.1 hJ hf2 (fun h1 a1 a2 => ?_)
  show zX _ 170 205 [(0, .inr (10, 0)), (1, zi 13), (2, zi x1), (3, zi x2), (4, zi x3), (5, zi x4)] [zi (((wd_O W).length : Int) - (wd_pr W : Int))] c s _ _
  refine zX.ret rfl rfl ?_
  exact q h1 ⟨N, capv, capj, K, g, hM, a1, hA.fr (fun a b z => a2 a b (by omega)), hV.mv (fun a b z => a2 a b (by omega)), hP.mv (fun a b z => a2 a b (by omega)), hJ.mv9 (fun a b z => a2 a b (by omega)) (fun b o ho => (a2 _ _ (by omega)).trans ho), (a2 _ _ (by omega)).trans hw, (a2 _ _ (by omega)).trans hps, (a2 _ _ (by omega)).trans hemp, (a2 _ _ (by omega)).trans hsc, fun q i hq hi => (a2 _ _ (by omega)).trans (hfe q i hq hi), fun hr a b z1 z2 z3 => (a2 _ _ (by omega)).trans (hfv hr a b z1 z2 z3)⟩
theorem k_complete {x1 x2 x3 x4 : Int} (hu : wd_uw W = true) (him : wd_pr W ≤ wd_cu W) (hm : wd_cu W ≤ (wd_O W).length) (hF : zFd sc h M W)
    (q : ∀ h1, zFd sc h1 M (wCom W) → Q (.inl (some (zi (wd_cu W : Int)))) c s h1) : zX (d + 10) 170 0 [(0, .inr (10, 0)), (1, zi 14), (2, zi x1), (3, zi x2), (4, zi x3), (5, zi x4)] [] c s h Q := by
  obtain ⟨N, capv, capj, K, g, hM, hf, hA, hV, hP, hJ, hw, hps, hemp, hsc, hfe, hfv⟩ := id hF
  refine zX.sn 1 (pc2 := 1) (l2 := [(0, .inr (10, 0)), (1, zi 14), (2, zi x1), (3, zi x2), (4, zi x3), (5, zi x4)]) (st2 := [zi 14]) rfl ?_
  refine zX.tsw (tgt := 206) ⟨rfl, rfl⟩ (by omega) (by omega) rfl rfl ?_
  refine zX.sn 1 (pc2 := 207) (l2 := [(0, .inr (10, 0)), (1, zi 14), (2, zi x1), (3, zi x2), (4, zi x3), (5, zi x4)]) (st2 := [.inr (10, 0)]) rfl ?_
  have hf2 : h (10, 0) = some (.inl (10, zFn (zFf (wd_rd W) (wd_ct W) true (wd_pr W) (wd_cu W) (wd_pj W) (wd_cj W)))) := by rw [← hu]; exact hf
  refine zX.call (mid2 := 117) (as := [.inr (10, 0)]) (rest := []) ⟨rfl, rfl⟩ (fun _ => rfl) (zX.inv rfl hf rfl rfl) ⟨Nat.le_of_ble_eq_true rfl, Nat.le_of_ble_eq_true rfl⟩ ?_
  refine s_complete (d := d + 7) him hm hV.1 hf2 hps (fun h1 a1 a3 a2 => ?_)
  show zX _ 170 210 [(0, .inr (10, 0)), (1, zi 14), (2, zi x1), (3, zi x2), (4, zi x3), (5, zi x4)] [zi (wd_cu W : Int)] c s _ _
  refine zX.ret rfl rfl ?_
  exact q h1 ⟨N, capv, capj, K, g, hM, a1, hA.fr (fun a b z => a2 a b (by omega)), hV.mv (fun a b z => a2 a b (by omega)), hP.mv (fun a b z => a2 a b (by omega)), hJ.mv9 (fun a b z => a2 a b (by omega)) (fun b o ho => (a2 _ _ (by omega)).trans ho), (a2 _ _ (by omega)).trans hw, a3, (a2 _ _ (by omega)).trans hemp, (a2 _ _ (by omega)).trans hsc, fun q i hq hi => (a2 _ _ (by omega)).trans (hfe q i hq hi), fun hr a b z1 z2 z3 => (a2 _ _ (by omega)).trans (hfv hr a b z1 z2 z3)⟩
theorem k_move {k w : Nat} {x3 x4 : Int} (hk : k < 8) (hwl : w < 3) (hF : zFd sc h M W)
    (q : ∀ h1, zFd sc h1 M (wMov W k w) → Q (.inl (some (.inl (.int (zhk k (wd_L W) 0))))) c s h1) : zX (d + 10) 170 0 [(0, .inr (10, 0)), (1, zi 19), (2, zi (k : Int)), (3, zi (w : Int)), (4, zi x3), (5, zi x4)] [] c s h Q := by
  obtain ⟨N, capv, capj, K, g, hM, hf, hA, hV, hP, hJ, hw, hps, hemp, hsc, hfe, hfv⟩ := id hF
  refine zX.sn 1 (pc2 := 1) (l2 := [(0, .inr (10, 0)), (1, zi 19), (2, zi (k : Int)), (3, zi (w : Int)), (4, zi x3), (5, zi x4)]) (st2 := [zi 19]) rfl ?_
  refine zX.tsw (tgt := 236) ⟨rfl, rfl⟩ (by omega) (by omega) rfl rfl ?_
  refine zX.sn 1 (pc2 := 237) (l2 := [(0, .inr (10, 0)), (1, zi 19), (2, zi (k : Int)), (3, zi (w : Int)), (4, zi x3), (5, zi x4)]) (st2 := [.inr (10, 0)]) rfl ?_
  refine zX.sn 1 (pc2 := 238) (l2 := [(0, .inr (10, 0)), (1, zi 19), (2, zi (k : Int)), (3, zi (w : Int)), (4, zi x3), (5, zi x4)]) (st2 := [zi (k : Int), .inr (10, 0)]) rfl ?_
  refine zX.sn 1 (pc2 := 239) (l2 := [(0, .inr (10, 0)), (1, zi 19), (2, zi (k : Int)), (3, zi (w : Int)), (4, zi x3), (5, zi x4)]) (st2 := [zi (w : Int), zi (k : Int), .inr (10, 0)]) rfl ?_
  refine zX.call (mid2 := 123) (as := [.inr (10, 0), zi (k : Int), zi (w : Int)]) (rest := []) ⟨rfl, rfl⟩ (fun _ => rfl) (zX.inv rfl hf rfl rfl) ⟨Nat.le_of_ble_eq_true rfl, Nat.le_of_ble_eq_true rfl⟩ ?_
  refine s_moveKey (d := d + 5) hk hwl hw hf hA hV (fun h1 a1 a2 => ?_)
  show zX _ 170 242 [(0, .inr (10, 0)), (1, zi 19), (2, zi (k : Int)), (3, zi (w : Int)), (4, zi x3), (5, zi x4)] [.inl (.int (zhk k (wd_L W) 0))] c s _ _
  refine zX.ret rfl rfl ?_
  exact q h1 ⟨N, capv, capj, K, g, hM, (a2 _ _ (by omega)).trans hf, hA.fr (fun a b z => a2 a b (by omega)), hV.mv (fun a b z => a2 a b (by omega)), hP.mv (fun a b z => a2 a b (by omega)), hJ.mv9 (fun a b z => a2 a b (by omega)) (fun b o ho => (a2 _ _ (by omega)).trans ho), a1, (a2 _ _ (by omega)).trans hps, (a2 _ _ (by omega)).trans hemp, (a2 _ _ (by omega)).trans hsc, fun q i hq hi => (a2 _ _ (by omega)).trans (hfe q i hq hi), fun hr a b z1 z2 z3 => (a2 _ _ (by omega)).trans (hfv hr a b z1 z2 z3)⟩
/-- apply leaves the logs -/
theorem zcF_pc : ∀ (J : List zE) (X : zcX) (q : Nat), ((zcF J X).1 q).2.2 = (X.1 q).2.2 := by
  intro J
  induction J with
  | nil => intro X q; rfl
  | cons e r ih =>
    intro X q
    show ((zcF r (zcF1 X e)).1 q).2.2 = _
    rw [ih]
    show (zaP X.1 e q).2.2 = _
    show ((if q = zeP e then _ else _ : zPT)).2.2 = _
    by_cases hq : q = zeP e
    · subst hq
      rw [if_pos rfl]
    · rw [if_neg hq]
set_option maxHeartbeats 1000000 in
theorem k_crash {x1 x2 x3 x4 : Int} (hH : ∀ (j : Nat) (C : zCf) (S : zSt), (wd_L W)[j]? = some (C, S) → ∀ t, 8 ≤ t → S.2.1 t = 0) (hpj : wd_pj W ≤ (wd_J W).length) (hrd : wd_J W ≠ [] → wd_rd W = true) (hall : wd_pj W < (wd_J W).length → zcAll ((wd_J W).take (wd_pj W)) (wBeg W)) (hF : zFd sc h M W)
    (q0 : (wd_J W).length ≤ wd_pj W → ∀ h1, zFd sc h1 M (wUnc W) → Q (.inl (some (zi (((wd_O W).length : Int) - (wd_pr W : Int))))) c s h1)
    (q1 : wd_pj W < (wd_J W).length → ∀ h1 M1 c1 s1, zFd sc h1 M1 (wCra W) → zCs 0 0 M c s M1 c1 s1 → Q (.inl (some (zi (((wd_O W).length : Int) - (wd_pr W : Int))))) c1 s1 h1) : zX (d + 10) 170 0 [(0, .inr (10, 0)), (1, zi 15), (2, zi x1), (3, zi x2), (4, zi x3), (5, zi x4)] [] c s h Q := by
  obtain ⟨N, capv, capj, K, g, hM, hf, hA, hV, hP, hJ, hw, hps, hemp, hsc, hfe, hfv⟩ := id hF
  refine zX.sn 1 (pc2 := 1) (l2 := [(0, .inr (10, 0)), (1, zi 15), (2, zi x1), (3, zi x2), (4, zi x3), (5, zi x4)]) (st2 := [zi 15]) rfl ?_
  refine zX.tsw (tgt := 211) ⟨rfl, rfl⟩ (by omega) (by omega) rfl rfl ?_
  refine zX.sn 1 (pc2 := 212) (l2 := [(0, .inr (10, 0)), (1, zi 15), (2, zi x1), (3, zi x2), (4, zi x3), (5, zi x4)]) (st2 := [.inr (10, 0)]) rfl ?_
  refine zX.call (mid2 := 118) (as := [.inr (10, 0)]) (rest := []) ⟨rfl, rfl⟩ (fun _ => rfl) (zX.inv rfl hf rfl rfl) ⟨Nat.le_of_ble_eq_true rfl, Nat.le_of_ble_eq_true rfl⟩ ?_
  refine s_crash (d := d) hH hf hA hV hP hJ hpj hall (fun z h1 a1 a2 => ?_) (fun z h1 N1 K1 c1 s1 a1 a2 a3 a4 a5 a6 a7 a8 => ?_)
  · show zX _ 170 215 [(0, .inr (10, 0)), (1, zi 15), (2, zi x1), (3, zi x2), (4, zi x3), (5, zi x4)] [zi (((wd_O W).length : Int) - (wd_pr W : Int))] c s _ _
    refine zX.ret rfl rfl ?_
    exact q0 z h1 ⟨N, capv, capj, K, g, hM, a1, hA.fr (fun a b z => a2 a b (by omega)), hV.mv (fun a b z => a2 a b (by omega)), hP.mv (fun a b z => a2 a b (by omega)), hJ.mv9 (fun a b z => a2 a b (by omega)) (fun b o ho => (a2 _ _ (by omega)).trans ho), (a2 _ _ (by omega)).trans hw, (a2 _ _ (by omega)).trans hps, (a2 _ _ (by omega)).trans hemp, (a2 _ _ (by omega)).trans hsc, fun q i hq hi => (a2 _ _ (by omega)).trans (hfe q i hq hi), fun hr a b z1 z2 z3 => (a2 _ _ (by omega)).trans (hfv hr a b z1 z2 z3)⟩
  · show zX _ 170 215 [(0, .inr (10, 0)), (1, zi 15), (2, zi x1), (3, zi x2), (4, zi x3), (5, zi x4)] [zi (((wd_O W).length : Int) - (wd_pr W : Int))] c1 s1 _ _
    refine zX.ret rfl rfl ?_
    have hcp := zcF_pc ((wd_J W).take (wd_pj W)) (wBeg W)
    have hpc : zPc (wd_P (wCra W)) = zPc (wd_P W) := by
      show zPc (zcF ((wd_J W).take (wd_pj W)) (wBeg W)).1 = _
      rw [zPc, hcp 0, hcp 1, hcp 2]
      rfl
    refine q1 z h1 (N1 + zKm K1 5 + capv + capj + zPc (wd_P W)) c1 s1 ⟨N1, capv, capj, K1, g, by rw [hpc], a1, a2, a3, a5, a6, (a7 _ _ (by omega)).trans hw, (a7 _ _ (by omega)).trans hps, (a7 _ _ (by omega)).trans hemp, (a7 _ _ (by omega)).trans hsc, fun q i hq hi => (a7 _ _ (by omega)).trans (hfe q i hq ?_), fun hr => ?_⟩ (by have := a8.1; have := a8.2.1; have := a8.2.2; omega)
    · have hn : wd_n (wCra W) q = wd_n W q := by
        show ((zcF ((wd_J W).take (wd_pj W)) (wBeg W)).1 q).2.2.2.2.length = _
        rw [hcp q]
        show (zaR (wd_P W) 3 q).2.2.2.2.length = _
        show ((if q < 3 then _ else _ : zPT)).2.2.2.2.length = _
        rw [if_pos hq]
      rw [hn] at hi
      exact hi
    · exfalso
      have hr2 : wd_rd W = true := hrd (fun z9 => by rw [z9] at z; exact absurd z (Nat.not_lt_zero _))
      rw [show wd_rd (wCra W) = wd_rd W from rfl, hr2] at hr
      cases hr
/-- read leaves the logs' lengths and rooms -/
theorem zrN_len : ∀ (n : Nat) (X : zQd) (p q : Nat), ((zrN p n X).1 q).2.2.2.2.length = (X.1 q).2.2.2.2.length ∧ ((zrN p n X).1 q).2.2.2.1 = (X.1 q).2.2.2.1 := by
  intro n
  induction n with
  | zero => intro X p q; exact ⟨rfl, rfl⟩
  | succ n ih =>
    intro X p q
    have stp : zrN p (n + 1) X = match (X.1 p).2.2.2.2[(X.1 p).1]? with
      | some e => zrN p n (zrS1 p X e)
      | none => X := rfl
    rw [stp]
    split
    next e he =>
      obtain ⟨i1, i2⟩ := ih (zrS1 p X e) p q
      rw [i1, i2]
      have h1 : ((zrS1 p X e).1 q).2.2 = (zrP X.1 p (X.1 p).1 (zrE X.1 X.2.1 p e) q).2.2 := by
        show ((if q = zeP (zrE X.1 X.2.1 p e) then _ else _ : zPT)).2.2 = _
        by_cases hq : q = zeP (zrE X.1 X.2.1 p e)
        · rw [if_pos hq, hq]
        · rw [if_neg hq]
      rw [h1]
      show ((if q = p then _ else _ : zPT)).2.2.2.2.length = _ ∧ ((if q = p then _ else _ : zPT)).2.2.2.1 = _
      by_cases hq : q = p
      · subst hq
        rw [if_pos rfl]
        exact ⟨List.length_set, rfl⟩
      · rw [if_neg hq]
        exact ⟨rfl, rfl⟩
    next => exact ⟨rfl, rfl⟩
theorem s_read {m p N capj capv pr cu pj cj c s : Nat} {rd ct uw : Bool} {K : zKp} {X : zQd} {h : xH} {I : zQd → Prop} (hp : p < 3) (hm : 1 ≤ m ∧ m ≤ 20) (hI : ∀ X e, I X → (X.1 p).2.2.2.2[(X.1 p).1]? = some e → zrOk p X e ∧ I (zrS1 p X e)) (hX : I X) (hf : h (10, 0) = some (.inl (10, zFn (zFf rd ct uw pr cu pj cj)))) (hA : zAL h 13 0 capv (zVn X.2.2.1)) (hV : zVa h N K X.2.2.1 X.2.2.2) (hP : zPs h X.1) (hJ : zJr h capj X.2.1)
    (q : ∀ h1 N1 K1 capj1 rd1 c1 s1, h1 (10, 0) = some (.inl (10, zFn (zFf rd1 ct uw pr cu pj cj))) → zAL h1 13 0 capv (zVn (zrN p m X).2.2.1) → zVa h1 N1 K1 (zrN p m X).2.2.1 (zrN p m X).2.2.2 → (zrN p m X).2.2.1.length = X.2.2.1.length → zPs h1 (zrN p m X).1 → zJr h1 capj1 (zrN p m X).2.1 → I (zrN p m X) → (rd1 = true ∨ rd1 = rd ∧ zrN p m X = X ∧ h1 = h) → (∀ a b : Nat, ¬ ((20 ≤ a ∧ a < 60) ∨ (2 ≤ a ∧ a < 4) ∨ a = 5 ∨ a = 10 ∨ (15 ≤ a ∧ a < 17) ∨ a = 8) → h1 (a, b) = h (a, b)) → (∀ b : Nat, h (8, b) = none → h1 (8, b) = none) → zCo (N + zKm K 5 + capj) c s (N1 + zKm K1 5 + capj1) c1 s1 → Q (.inl (some (zi (zrC p m X : Int)))) c1 s1 h1) : zX (d + 9) 105 0 [(0, .inr (10, 0)), (1, zi (p : Int)), (2, zi (m : Int))] [] c s h Q := by
  refine zX.sn 1 (pc2 := 1) (l2 := [(0, .inr (10, 0)), (1, zi (p : Int)), (2, zi (m : Int))]) (st2 := [.inr (10, 0)]) rfl ?_
  refine zX.sn 1 (pc2 := 2) (l2 := [(0, .inr (10, 0)), (1, zi (p : Int)), (2, zi (m : Int))]) (st2 := [zi (p : Int), .inr (10, 0)]) rfl ?_
  refine zX.call (mid2 := 129) (as := [.inr (10, 0), zi (p : Int)]) (rest := []) ⟨rfl, rfl⟩ (fun _ => rfl) (zX.inv rfl hf rfl rfl) ⟨Nat.le_of_ble_eq_true rfl, Nat.le_of_ble_eq_true rfl⟩ ?_
  refine s_part1 (d := d + 5) hf hP hp ?_
  show zX _ 105 5 [(0, .inr (10, 0)), (1, zi (p : Int)), (2, zi (m : Int))] [.inr (5, p)] c s _ _
  refine zX.sn 1 (pc2 := 6) (l2 := [(3, .inr (5, p)), (0, .inr (10, 0)), (1, zi (p : Int)), (2, zi (m : Int))]) (st2 := []) rfl ?_
  refine zX.sn 1 (pc2 := 7) (l2 := [(3, .inr (5, p)), (0, .inr (10, 0)), (1, zi (p : Int)), (2, zi (m : Int))]) (st2 := [zi (m : Int)]) rfl ?_
  refine zX.sn 1 (pc2 := 8) (l2 := [(3, .inr (5, p)), (0, .inr (10, 0)), (1, zi (p : Int)), (2, zi (m : Int))]) (st2 := [zi 1, zi (m : Int)]) rfl ?_
  refine zX.icmp (tgt := 17) ⟨rfl, rfl⟩ rfl (by omega) (by omega) (fun (zz : (m : Int) < 1) => absurd zz (by omega)) (fun _ => ?_)
  refine zX.sn 1 (pc2 := 12) (l2 := [(3, .inr (5, p)), (0, .inr (10, 0)), (1, zi (p : Int)), (2, zi (m : Int))]) (st2 := [zi (m : Int)]) rfl ?_
  refine zX.sn 1 (pc2 := 14) (l2 := [(3, .inr (5, p)), (0, .inr (10, 0)), (1, zi (p : Int)), (2, zi (m : Int))]) (st2 := [zi 20, zi (m : Int)]) rfl ?_
  refine zX.icmp (tgt := 27) ⟨rfl, rfl⟩ rfl (by omega) (by omega) (fun _ => ?_) (fun (zz : 20 < (m : Int)) => absurd zz (by omega))
  refine zX.sn 1 (pc2 := 28) (l2 := [(3, .inr (5, p)), (0, .inr (10, 0)), (1, zi (p : Int)), (2, zi (m : Int))]) (st2 := [zi 0]) rfl ?_
  refine zX.sn 1 (pc2 := 30) (l2 := [(4, zi 0), (3, .inr (5, p)), (0, .inr (10, 0)), (1, zi (p : Int)), (2, zi (m : Int))]) (st2 := []) rfl ?_
  refine zX.re [(0, .inr (10, 0)), (1, zi (p : Int)), (2, zi (m : Int)), (3, .inr (5, p)), (4, zi 0)] [2, 3, 4, 1, 0] [4, 3, 0, 1, 2] rfl rfl (by decide) ?_
  refine l_read (d := d) hp hm.2 hI m 0 X rd h N capj K c s (by omega) hX hf hA hV hP hJ (fun h1 N1 K1 capj1 rd1 c1 s1 a1 a2 a3 a4 a5 a6 a7 a8 a9 a10 a11 => ?_)
  rw [Nat.zero_add]
  exact q h1 N1 K1 capj1 rd1 c1 s1 a1 a2 a3 a4 a5 a6 a7 a8 a9 a10 a11
set_option maxHeartbeats 1000000 in
theorem k_read {p m : Nat} {x3 x4 : Int} {I : zQd → Prop} (hp : p < 3) (hm : 1 ≤ m ∧ m ≤ 20) (hI : ∀ X e, I X → (X.1 p).2.2.2.2[(X.1 p).1]? = some e → zrOk p X e ∧ I (zrS1 p X e)) (hX : I W.1) (hF : zFd sc h M W)
    (q : ∀ h1 M1 rd1 c1 s1, zFd sc h1 M1 (wRea W p m rd1) → I (zrN p m W.1) → (rd1 = true ∨ rd1 = wd_rd W ∧ zrN p m W.1 = W.1) → zCs 0 0 M c s M1 c1 s1 → Q (.inl (some (zi (zrC p m W.1 : Int)))) c1 s1 h1) : zX (d + 10) 170 0 [(0, .inr (10, 0)), (1, zi 4), (2, zi (p : Int)), (3, zi (m : Int)), (4, zi x3), (5, zi x4)] [] c s h Q := by
  obtain ⟨N, capv, capj, K, g, hM, hf, hA, hV, hP, hJ, hw, hps, hemp, hsc, hfe, hfv⟩ := id hF
  refine zX.sn 1 (pc2 := 1) (l2 := [(0, .inr (10, 0)), (1, zi 4), (2, zi (p : Int)), (3, zi (m : Int)), (4, zi x3), (5, zi x4)]) (st2 := [zi 4]) rfl ?_
  refine zX.tsw (tgt := 135) ⟨rfl, rfl⟩ (by omega) (by omega) rfl rfl ?_
  refine zX.sn 1 (pc2 := 136) (l2 := [(0, .inr (10, 0)), (1, zi 4), (2, zi (p : Int)), (3, zi (m : Int)), (4, zi x3), (5, zi x4)]) (st2 := [.inr (10, 0)]) rfl ?_
  refine zX.sn 1 (pc2 := 137) (l2 := [(0, .inr (10, 0)), (1, zi 4), (2, zi (p : Int)), (3, zi (m : Int)), (4, zi x3), (5, zi x4)]) (st2 := [zi (p : Int), .inr (10, 0)]) rfl ?_
  refine zX.sn 1 (pc2 := 138) (l2 := [(0, .inr (10, 0)), (1, zi 4), (2, zi (p : Int)), (3, zi (m : Int)), (4, zi x3), (5, zi x4)]) (st2 := [zi (m : Int), zi (p : Int), .inr (10, 0)]) rfl ?_
  refine zX.call (mid2 := 105) (as := [.inr (10, 0), zi (p : Int), zi (m : Int)]) (rest := []) ⟨rfl, rfl⟩ (fun _ => rfl) (zX.inv rfl hf rfl rfl) ⟨Nat.le_of_ble_eq_true rfl, Nat.le_of_ble_eq_true rfl⟩ ?_
  refine s_read (d := d) (X := W.1) hp hm hI hX hf hA hV hP hJ (fun h1 N1 K1 capj1 rd1 c1 s1 a1 a2 a3 a4 a5 a6 a7 a8 a9 a10 a11 => ?_)
  show zX _ 170 141 [(0, .inr (10, 0)), (1, zi 4), (2, zi (p : Int)), (3, zi (m : Int)), (4, zi x3), (5, zi x4)] [zi (zrC p m W.1 : Int)] c1 s1 _ _
  refine zX.ret rfl rfl ?_
  have hln := fun q => zrN_len m W.1 p q
  have hpc : zPc (wd_P (wRea W p m rd1)) = zPc (wd_P W) := by
    show zPc (zrN p m W.1).1 = _
    rw [zPc, (hln 0).2, (hln 1).2, (hln 2).2]
  refine q h1 (N1 + zKm K1 5 + capv + capj1 + zPc (wd_P W)) rd1 c1 s1 ⟨N1, capv, capj1, K1, g, by rw [hpc], a1, a2, a3, a5, a6, (a9 _ _ (by omega)).trans hw, (a9 _ _ (by omega)).trans hps, (a9 _ _ (by omega)).trans hemp, (a9 _ _ (by omega)).trans hsc, fun q i hq hi => a10 _ (hfe q i hq ?_), fun hr a b z1 z2 z3 => ?_⟩ a7 (by rcases a8 with z | z; exact Or.inl z; exact Or.inr ⟨z.1, z.2.1⟩) (by have := a11.1; have := a11.2.1; have := a11.2.2; omega)
  · have hn : wd_n (wRea W p m rd1) q = wd_n W q := (hln q).1
    rw [hn] at hi
    exact hi
  · rcases a8 with z | ⟨z, zz, z9⟩
    · rw [show wd_rd (wRea W p m rd1) = rd1 from rfl, z] at hr
      cases hr
    · have z3 : (zrN p m W.1).2.2.1.length ≤ b % 8 := z3
      rw [zz] at z3
      rw [z9]
      exact hfv (by rw [← z]; exact hr) a b z1 z2 z3
end YA1
