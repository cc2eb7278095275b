set_option maxRecDepth 100000
section ZR54
theorem zro_nz {a b f t : Int} {y : Int32} : ¬ zro a b f t y = 0 := fun z => by
  have h := congrArg (fun w : Int64 => w.toBitVec.getLsbD 59) z
  unfold zro at h
  simp only [Int64.toBitVec_or, BitVec.getLsbD_or] at h
  rw [show (Int64.ofNat 576460752303423488).toBitVec.getLsbD 59 = true from by decide] at h
  simp at h
/-- the first window whose end is behind a time -/
def zfe (sz sp : Nat) (t : Int) : Nat := if t < (sz : Int) then 0 else ((t - (sz : Int)) / (sp : Int)).toNat + 1
set_option maxHeartbeats 4000000 in
theorem r_winto {d c s : Nat} {h : xH} {Q : xR → Nat → Nat → xH → Prop} {v sz gr sp wi L : Nat} {fi me : Int} {dr : Int32} {N : Nat} {fa : Nat → Int64} {fn fs fg hd : Nat → Int32} {out : List Int64} {w : Nat} {re pt ky tm od : Nat} {ir il va ah bd : Int} (hvr : zVr v fi sz gr) (hv : v < 5) (hsz : 1 ≤ sz ∧ sz ≤ 200) (hgr : gr ≤ 200) (hsp : 1 ≤ sp ∧ sp ≤ 200) (hL : L = wi * 8) (hwi : wi ≤ 1000) (hme : me = 99 ∨ me = 115 ∨ me = 109) (hky : ky < 8) (htm : tm < 1000) (hva : -99 ≤ va ∧ va ≤ 99) (hah : -1 ≤ ah ∧ ah < 1000) (hir : 0 ≤ ir ∧ ir ≤ 1) (hil : 0 ≤ il ∧ il ≤ 1) (hpt : pt < 3) (hod : od < 240) (hw : w < wi) (hp : w * sp ≤ 1000) (ho : out.length + 2 < 200000) (H_20_v : h (20, v) = some (.inl (9, [zi (v : Int), zi 0, zi fi, zi (sz : Int), zi (gr : Int), .inr (2, 0), .inr (21, v), .inr (23, v), .inr (25, v), .inl (.int dr), zi me, zi (sp : Int), zi (wi : Int), .inr (26, v), .inr (30, v)]))) (H_8_re : h (8, re) = some (.inl (1, [zi (pt : Int), zi ir, zi il, zi (ky : Int), zi (tm : Int), zi va, zi (od : Int), zi ah, zi bd]))) (H_25_v : h (25, v) = some (.inr (0, 8, zI hd))) (P_told : zRes h 21 v L fa) (P_rows : zTal h 26 v L fn fs fg) (P_out : zOut h N out)
    (k1 : (¬ 0 < fn ((w * 8) + ky)) → (ah < (((w : Int) * (sp : Int)) + (sz : Int))) → ∀ h' : xH, h' (25, v) = some (.inr (0, 8, zI (zfi hd ky (hd ky + Int32.ofInt 1)))) → zTal h' 26 v L (zfi fn ((w * 8) + ky) (fn ((w * 8) + ky) + 1)) (zfi fs ((w * 8) + ky) (fs ((w * 8) + ky) + Int32.ofInt va)) (zfi fg ((w * 8) + ky) (zgr (fg ((w * 8) + ky)) (Int32.ofInt va) (fn ((w * 8) + ky)))) → (∀ za zb : Nat, ¬ ((za = 25 ∧ zb = v) ∨ (26 ≤ za ∧ za < 26 + 4 ∧ zb = v)) → h' (za, zb) = h (za, zb)) → Q (.inl none) c s h')
    (k2 : (¬ 0 < fn ((w * 8) + ky)) → ((((w : Int) * (sp : Int)) + (sz : Int)) ≤ ah) → ∀ N5 : Nat, ∀ c5 : Nat, ∀ s5 : Nat, (zCo N c s N5 c5 s5) → ∀ h' : xH, h' (25, v) = some (.inr (0, 8, zI (zfi hd ky (hd ky + Int32.ofInt 1)))) → zTal h' 26 v L (zfi fn ((w * 8) + ky) (fn ((w * 8) + ky) + 1)) (zfi fs ((w * 8) + ky) (fs ((w * 8) + ky) + Int32.ofInt va)) (zfi fg ((w * 8) + ky) (zgr (fg ((w * 8) + ky)) (Int32.ofInt va) (fn ((w * 8) + ky)))) → zRes h' 21 v L (zanF fa ((w * 8) + ky) ((w * 8) + ky) (zro (v : Int) (ky : Int) ((w : Int) * (sp : Int)) (((w : Int) * (sp : Int)) + (sz : Int)) (zme me ((zfi fn ((w * 8) + ky) (fn ((w * 8) + ky) + 1)) ((w * 8) + ky)) ((zfi fs ((w * 8) + ky) (fs ((w * 8) + ky) + Int32.ofInt va)) ((w * 8) + ky))))) → zOut h' N5 (out ++ zanL fa ((w * 8) + ky) (zro (v : Int) (ky : Int) ((w : Int) * (sp : Int)) (((w : Int) * (sp : Int)) + (sz : Int)) (zme me ((zfi fn ((w * 8) + ky) (fn ((w * 8) + ky) + 1)) ((w * 8) + ky)) ((zfi fs ((w * 8) + ky) (fs ((w * 8) + ky) + Int32.ofInt va)) ((w * 8) + ky))))) → (∀ za zb : Nat, ¬ ((za = 25 ∧ zb = v) ∨ (26 ≤ za ∧ za < 26 + 4 ∧ zb = v) ∨ (21 ≤ za ∧ za < 21 + 2 ∧ zb = v) ∨ (2 ≤ za ∧ za < 4)) → h' (za, zb) = h (za, zb)) → Q (.inl none) c5 s5 h')
    (k3 : (0 < fn ((w * 8) + ky)) → (ah < (((w : Int) * (sp : Int)) + (sz : Int))) → ∀ h' : xH, zTal h' 26 v L (zfi fn ((w * 8) + ky) (fn ((w * 8) + ky) + 1)) (zfi fs ((w * 8) + ky) (fs ((w * 8) + ky) + Int32.ofInt va)) (zfi fg ((w * 8) + ky) (zgr (fg ((w * 8) + ky)) (Int32.ofInt va) (fn ((w * 8) + ky)))) → (∀ za zb : Nat, ¬ ((26 ≤ za ∧ za < 26 + 4 ∧ zb = v)) → h' (za, zb) = h (za, zb)) → Q (.inl none) c s h')
    (k4 : (0 < fn ((w * 8) + ky)) → ((((w : Int) * (sp : Int)) + (sz : Int)) ≤ ah) → ∀ N9 : Nat, ∀ c9 : Nat, ∀ s9 : Nat, (zCo N c s N9 c9 s9) → ∀ h' : xH, zTal h' 26 v L (zfi fn ((w * 8) + ky) (fn ((w * 8) + ky) + 1)) (zfi fs ((w * 8) + ky) (fs ((w * 8) + ky) + Int32.ofInt va)) (zfi fg ((w * 8) + ky) (zgr (fg ((w * 8) + ky)) (Int32.ofInt va) (fn ((w * 8) + ky)))) → zRes h' 21 v L (zanF fa ((w * 8) + ky) ((w * 8) + ky) (zro (v : Int) (ky : Int) ((w : Int) * (sp : Int)) (((w : Int) * (sp : Int)) + (sz : Int)) (zme me ((zfi fn ((w * 8) + ky) (fn ((w * 8) + ky) + 1)) ((w * 8) + ky)) ((zfi fs ((w * 8) + ky) (fs ((w * 8) + ky) + Int32.ofInt va)) ((w * 8) + ky))))) → zOut h' N9 (out ++ zanL fa ((w * 8) + ky) (zro (v : Int) (ky : Int) ((w : Int) * (sp : Int)) (((w : Int) * (sp : Int)) + (sz : Int)) (zme me ((zfi fn ((w * 8) + ky) (fn ((w * 8) + ky) + 1)) ((w * 8) + ky)) ((zfi fs ((w * 8) + ky) (fs ((w * 8) + ky) + Int32.ofInt va)) ((w * 8) + ky))))) → (∀ za zb : Nat, ¬ ((26 ≤ za ∧ za < 26 + 4 ∧ zb = v) ∨ (21 ≤ za ∧ za < 21 + 2 ∧ zb = v) ∨ (2 ≤ za ∧ za < 4)) → h' (za, zb) = h (za, zb)) → Q (.inl none) c9 s9 h') :
    zX (d + 4) 93 0 [(0, .inr (20, v)), (1, zi (w : Int)), (2, .inr (8, re))] [] c s h Q := by
  refine zX.sn 1 (pc2 := 1) (l2 := [(0, .inr (20, v)), (1, zi (w : Int)), (2, .inr (8, re))]) (st2 := [zi (w : Int)]) rfl ?_
  refine zX.sn 1 (pc2 := 3) (l2 := [(0, .inr (20, v)), (1, zi (w : Int)), (2, .inr (8, re))]) (st2 := [zi 8, zi (w : Int)]) rfl ?_
  refine zX.imul ⟨rfl, rfl⟩ ?_
  refine zX.sn 1 (pc2 := 5) (l2 := [(0, .inr (20, v)), (1, zi (w : Int)), (2, .inr (8, re))]) (st2 := [.inr (8, re), zi ((w : Int) * 8)]) rfl ?_
  refine zX.getf ⟨rfl, rfl⟩ H_8_re rfl rfl ?_
  refine zX.iadd ⟨rfl, rfl⟩ ?_
  refine zX.sn 1 (pc2 := 10) (l2 := [(3, zi (((w : Int) * 8) + (ky : Int))), (0, .inr (20, v)), (1, zi (w : Int)), (2, .inr (8, re))]) (st2 := []) rfl ?_
  refine zX.sn 1 (pc2 := 11) (l2 := [(3, zi (((w : Int) * 8) + (ky : Int))), (0, .inr (20, v)), (1, zi (w : Int)), (2, .inr (8, re))]) (st2 := [.inr (20, v)]) rfl ?_
  refine zX.getf ⟨rfl, rfl⟩ H_20_v rfl rfl ?_
  refine zX.sn 1 (pc2 := 15) (l2 := [(3, zi (((w : Int) * 8) + (ky : Int))), (0, .inr (20, v)), (1, zi (w : Int)), (2, .inr (8, re))]) (st2 := [zi (((w : Int) * 8) + (ky : Int)), .inr (26, v)]) rfl ?_
  refine zX.call (mid2 := 53) (as := [.inr (26, v), zi (((w : Int) * 8) + (ky : Int))]) (rest := []) ⟨rfl, rfl⟩ (fun _ => rfl) (zX.inv rfl (P_rows.1) rfl rfl) ⟨Nat.le_of_ble_eq_true rfl, Nat.le_of_ble_eq_true rfl⟩ ?_
  refine s_has (k := ((w * 8) + ky)) (by omega) (by omega) (by omega) (by omega) P_rows (fun (e1 : ¬ 0 < fn ((w * 8) + ky)) => ?_) (fun (e1 : 0 < fn ((w * 8) + ky)) => ?_)
  · show zX _ 93 18 [(3, zi (((w : Int) * 8) + (ky : Int))), (0, .inr (20, v)), (1, zi (w : Int)), (2, .inr (8, re))] [zi 0] c s _ _
    refine zX.icmp0 (tgt := 30) ⟨rfl, rfl⟩ rfl (by omega) (fun (zz : ¬ 0 = 0) => absurd zz (by omega)) (fun (e2 : 0 = 0) => ?_)
    refine zX.sn 1 (pc2 := 22) (l2 := [(3, zi (((w : Int) * 8) + (ky : Int))), (0, .inr (20, v)), (1, zi (w : Int)), (2, .inr (8, re))]) (st2 := [.inr (20, v)]) rfl ?_
    refine zX.sn 1 (pc2 := 23) (l2 := [(3, zi (((w : Int) * 8) + (ky : Int))), (0, .inr (20, v)), (1, zi (w : Int)), (2, .inr (8, re))]) (st2 := [.inr (8, re), .inr (20, v)]) rfl ?_
    refine zX.getf ⟨rfl, rfl⟩ H_8_re rfl rfl ?_
    refine zX.sn 1 (pc2 := 27) (l2 := [(3, zi (((w : Int) * 8) + (ky : Int))), (0, .inr (20, v)), (1, zi (w : Int)), (2, .inr (8, re))]) (st2 := [zi 1, zi (ky : Int), .inr (20, v)]) rfl ?_
    refine zX.call (mid2 := 81) (as := [.inr (20, v), zi (ky : Int), zi 1]) (rest := []) ⟨rfl, rfl⟩ (fun _ => rfl) (zX.inv rfl H_20_v rfl rfl) ⟨Nat.le_of_ble_eq_true rfl, Nat.le_of_ble_eq_true rfl⟩ ?_
    refine s_hold (ci := 9) (k := ky) rfl (by omega) hvr (by omega) (show zVo _ 9 v false fi sz gr _ _ from H_20_v) H_25_v (fun h1 hv1 hF1 => ?_)
    show zX _ 93 30 [(3, zi (((w : Int) * 8) + (ky : Int))), (0, .inr (20, v)), (1, zi (w : Int)), (2, .inr (8, re))] [] c s _ _
    refine zX.sn 1 (pc2 := 31) (l2 := [(3, zi (((w : Int) * 8) + (ky : Int))), (0, .inr (20, v)), (1, zi (w : Int)), (2, .inr (8, re))]) (st2 := [.inr (20, v)]) rfl ?_
    refine zX.getf ⟨rfl, rfl⟩ ((hF1 20 v (by omega)).trans H_20_v) rfl rfl ?_
    refine zX.sn 1 (pc2 := 35) (l2 := [(3, zi (((w : Int) * 8) + (ky : Int))), (0, .inr (20, v)), (1, zi (w : Int)), (2, .inr (8, re))]) (st2 := [zi (((w : Int) * 8) + (ky : Int)), .inr (26, v)]) rfl ?_
    refine zX.sn 1 (pc2 := 36) (l2 := [(3, zi (((w : Int) * 8) + (ky : Int))), (0, .inr (20, v)), (1, zi (w : Int)), (2, .inr (8, re))]) (st2 := [.inr (8, re), zi (((w : Int) * 8) + (ky : Int)), .inr (26, v)]) rfl ?_
    refine zX.getf ⟨rfl, rfl⟩ ((hF1 8 re (by omega)).trans H_8_re) rfl rfl ?_
    refine zX.call (mid2 := 54) (as := [.inr (26, v), zi (((w : Int) * 8) + (ky : Int)), zi va]) (rest := []) ⟨rfl, rfl⟩ (fun _ => rfl) (zX.inv rfl ((zTal.fr P_rows (fun za zb hi => ((hF1 za zb (by omega)).trans rfl))).1) rfl rfl) ⟨Nat.le_of_ble_eq_true rfl, Nat.le_of_ble_eq_true rfl⟩ ?_
    refine s_tadd (k := ((w * 8) + ky)) (by omega) (by omega) (by omega) (by omega) (zTal.fr P_rows (fun za zb hi => ((hF1 za zb (by omega)).trans rfl))) (fun h2 hv2 hF2 => ?_)
    show zX _ 93 42 [(3, zi (((w : Int) * 8) + (ky : Int))), (0, .inr (20, v)), (1, zi (w : Int)), (2, .inr (8, re))] [] c s _ _
    refine zX.sn 1 (pc2 := 43) (l2 := [(3, zi (((w : Int) * 8) + (ky : Int))), (0, .inr (20, v)), (1, zi (w : Int)), (2, .inr (8, re))]) (st2 := [.inr (8, re)]) rfl ?_
    refine zX.getf ⟨rfl, rfl⟩ ((hF2 8 re (by omega)).trans ((hF1 8 re (by omega)).trans H_8_re)) rfl rfl ?_
    refine zX.sn 1 (pc2 := 47) (l2 := [(3, zi (((w : Int) * 8) + (ky : Int))), (0, .inr (20, v)), (1, zi (w : Int)), (2, .inr (8, re))]) (st2 := [.inr (20, v), zi ah]) rfl ?_
    refine zX.sn 1 (pc2 := 48) (l2 := [(3, zi (((w : Int) * 8) + (ky : Int))), (0, .inr (20, v)), (1, zi (w : Int)), (2, .inr (8, re))]) (st2 := [zi (w : Int), .inr (20, v), zi ah]) rfl ?_
    refine zX.call (mid2 := 87) (as := [.inr (20, v), zi (w : Int)]) (rest := [zi ah]) ⟨rfl, rfl⟩ (fun _ => rfl) (zX.inv rfl ((hF2 20 v (by omega)).trans ((hF1 20 v (by omega)).trans H_20_v)) rfl rfl) ⟨Nat.le_of_ble_eq_true rfl, Nat.le_of_ble_eq_true rfl⟩ ?_
    show zX _ 87 0 [(0, .inr (20, v)), (1, zi (w : Int))] [] c s _ _
    refine zX.sn 1 (pc2 := 1) (l2 := [(0, .inr (20, v)), (1, zi (w : Int))]) (st2 := [zi (w : Int)]) rfl ?_
    refine zX.sn 1 (pc2 := 2) (l2 := [(0, .inr (20, v)), (1, zi (w : Int))]) (st2 := [.inr (20, v), zi (w : Int)]) rfl ?_
    refine zX.getf ⟨rfl, rfl⟩ ((hF2 20 v (by omega)).trans ((hF1 20 v (by omega)).trans H_20_v)) rfl rfl ?_
    refine zX.imul ⟨rfl, rfl⟩ ?_
    refine zX.sn 1 (pc2 := 7) (l2 := [(0, .inr (20, v)), (1, zi (w : Int))]) (st2 := [.inr (20, v), zi ((w : Int) * (sp : Int))]) rfl ?_
    refine zX.getf ⟨rfl, rfl⟩ ((hF2 20 v (by omega)).trans ((hF1 20 v (by omega)).trans H_20_v)) rfl rfl ?_
    refine zX.iadd ⟨rfl, rfl⟩ ?_
    refine zX.ret rfl rfl ?_
    show zX _ 93 51 [(3, zi (((w : Int) * 8) + (ky : Int))), (0, .inr (20, v)), (1, zi (w : Int)), (2, .inr (8, re))] [zi (((w : Int) * (sp : Int)) + (sz : Int)), zi ah] c s _ _
    refine zX.icmp (tgt := 73) ⟨rfl, rfl⟩ rfl (by omega) (by omega) (fun (e3 : ah < (((w : Int) * (sp : Int)) + (sz : Int))) => ?_) (fun (e3 : (((w : Int) * (sp : Int)) + (sz : Int)) ≤ ah) => ?_)
    · refine zX.ret rfl rfl ?_
      exact k1 e1 e3 _ ((hF2 25 v (by omega)).trans hv1) hv2 (fun za zb hn => ((hF2 za zb (by omega)).trans ((hF1 za zb (by omega)).trans rfl)))
    · refine zX.sn 1 (pc2 := 55) (l2 := [(3, zi (((w : Int) * 8) + (ky : Int))), (0, .inr (20, v)), (1, zi (w : Int)), (2, .inr (8, re))]) (st2 := [.inr (20, v)]) rfl ?_
      refine zX.sn 1 (pc2 := 56) (l2 := [(3, zi (((w : Int) * 8) + (ky : Int))), (0, .inr (20, v)), (1, zi (w : Int)), (2, .inr (8, re))]) (st2 := [zi (((w : Int) * 8) + (ky : Int)), .inr (20, v)]) rfl ?_
      refine zX.sn 1 (pc2 := 57) (l2 := [(3, zi (((w : Int) * 8) + (ky : Int))), (0, .inr (20, v)), (1, zi (w : Int)), (2, .inr (8, re))]) (st2 := [zi (((w : Int) * 8) + (ky : Int)), zi (((w : Int) * 8) + (ky : Int)), .inr (20, v)]) rfl ?_
      refine zX.sn 1 (pc2 := 58) (l2 := [(3, zi (((w : Int) * 8) + (ky : Int))), (0, .inr (20, v)), (1, zi (w : Int)), (2, .inr (8, re))]) (st2 := [.inr (20, v), zi (((w : Int) * 8) + (ky : Int)), zi (((w : Int) * 8) + (ky : Int)), .inr (20, v)]) rfl ?_
      refine zX.sn 1 (pc2 := 59) (l2 := [(3, zi (((w : Int) * 8) + (ky : Int))), (0, .inr (20, v)), (1, zi (w : Int)), (2, .inr (8, re))]) (st2 := [zi (w : Int), .inr (20, v), zi (((w : Int) * 8) + (ky : Int)), zi (((w : Int) * 8) + (ky : Int)), .inr (20, v)]) rfl ?_
      refine zX.sn 1 (pc2 := 60) (l2 := [(3, zi (((w : Int) * 8) + (ky : Int))), (0, .inr (20, v)), (1, zi (w : Int)), (2, .inr (8, re))]) (st2 := [.inr (8, re), zi (w : Int), .inr (20, v), zi (((w : Int) * 8) + (ky : Int)), zi (((w : Int) * 8) + (ky : Int)), .inr (20, v)]) rfl ?_
      refine zX.getf ⟨rfl, rfl⟩ ((hF2 8 re (by omega)).trans ((hF1 8 re (by omega)).trans H_8_re)) rfl rfl ?_
      refine zX.sn 1 (pc2 := 64) (l2 := [(3, zi (((w : Int) * 8) + (ky : Int))), (0, .inr (20, v)), (1, zi (w : Int)), (2, .inr (8, re))]) (st2 := [.inr (20, v), zi (ky : Int), zi (w : Int), .inr (20, v), zi (((w : Int) * 8) + (ky : Int)), zi (((w : Int) * 8) + (ky : Int)), .inr (20, v)]) rfl ?_
      refine zX.getf ⟨rfl, rfl⟩ ((hF2 20 v (by omega)).trans ((hF1 20 v (by omega)).trans H_20_v)) rfl rfl ?_
      refine zX.call (mid2 := 91) (as := [.inr (20, v), zi (w : Int), zi (ky : Int), .inr (26, v)]) (rest := [zi (((w : Int) * 8) + (ky : Int)), zi (((w : Int) * 8) + (ky : Int)), .inr (20, v)]) ⟨rfl, rfl⟩ (fun _ => rfl) (zX.inv rfl ((hF2 20 v (by omega)).trans ((hF1 20 v (by omega)).trans H_20_v)) rfl rfl) ⟨Nat.le_of_ble_eq_true rfl, Nat.le_of_ble_eq_true rfl⟩ ?_
      show zX _ 91 0 [(0, .inr (20, v)), (1, zi (w : Int)), (2, zi (ky : Int)), (3, .inr (26, v))] [] c s _ _
      refine zX.sn 1 (pc2 := 1) (l2 := [(0, .inr (20, v)), (1, zi (w : Int)), (2, zi (ky : Int)), (3, .inr (26, v))]) (st2 := [.inr (26, v)]) rfl ?_
      refine zX.sn 1 (pc2 := 2) (l2 := [(0, .inr (20, v)), (1, zi (w : Int)), (2, zi (ky : Int)), (3, .inr (26, v))]) (st2 := [zi (w : Int), .inr (26, v)]) rfl ?_
      refine zX.sn 1 (pc2 := 4) (l2 := [(0, .inr (20, v)), (1, zi (w : Int)), (2, zi (ky : Int)), (3, .inr (26, v))]) (st2 := [zi 8, zi (w : Int), .inr (26, v)]) rfl ?_
      refine zX.imul ⟨rfl, rfl⟩ ?_
      refine zX.sn 1 (pc2 := 6) (l2 := [(0, .inr (20, v)), (1, zi (w : Int)), (2, zi (ky : Int)), (3, .inr (26, v))]) (st2 := [zi (ky : Int), zi ((w : Int) * 8), .inr (26, v)]) rfl ?_
      refine zX.iadd ⟨rfl, rfl⟩ ?_
      refine zX.sn 1 (pc2 := 8) (l2 := [(0, .inr (20, v)), (1, zi (w : Int)), (2, zi (ky : Int)), (3, .inr (26, v))]) (st2 := [.inr (20, v), zi (((w : Int) * 8) + (ky : Int)), .inr (26, v)]) rfl ?_
      refine zX.getf ⟨rfl, rfl⟩ ((hF2 20 v (by omega)).trans ((hF1 20 v (by omega)).trans H_20_v)) rfl rfl ?_
      refine zX.call (mid2 := 58) (as := [.inr (26, v), zi (((w : Int) * 8) + (ky : Int)), zi me]) (rest := []) ⟨rfl, rfl⟩ (fun _ => rfl) (zX.inv rfl (hv2.1) rfl rfl) ⟨Nat.le_of_ble_eq_true rfl, Nat.le_of_ble_eq_true rfl⟩ ?_
      refine s_meas (k := ((w * 8) + ky)) (by omega) (by omega) (by omega) (by omega) hme hv2 ?_
      show zX _ 91 14 [(0, .inr (20, v)), (1, zi (w : Int)), (2, zi (ky : Int)), (3, .inr (26, v))] [.inl (.int (zme me ((zfi fn ((w * 8) + ky) (fn ((w * 8) + ky) + 1)) ((w * 8) + ky)) ((zfi fs ((w * 8) + ky) (fs ((w * 8) + ky) + Int32.ofInt va)) ((w * 8) + ky))))] c s _ _
      refine zX.sn 1 (pc2 := 16) (l2 := [(4, .inl (.int (zme me ((zfi fn ((w * 8) + ky) (fn ((w * 8) + ky) + 1)) ((w * 8) + ky)) ((zfi fs ((w * 8) + ky) (fs ((w * 8) + ky) + Int32.ofInt va)) ((w * 8) + ky))))), (0, .inr (20, v)), (1, zi (w : Int)), (2, zi (ky : Int)), (3, .inr (26, v))]) (st2 := []) rfl ?_
      refine zX.sn 1 (pc2 := 17) (l2 := [(4, .inl (.int (zme me ((zfi fn ((w * 8) + ky) (fn ((w * 8) + ky) + 1)) ((w * 8) + ky)) ((zfi fs ((w * 8) + ky) (fs ((w * 8) + ky) + Int32.ofInt va)) ((w * 8) + ky))))), (0, .inr (20, v)), (1, zi (w : Int)), (2, zi (ky : Int)), (3, .inr (26, v))]) (st2 := [.inr (20, v)]) rfl ?_
      refine zX.getf ⟨rfl, rfl⟩ ((hF2 20 v (by omega)).trans ((hF1 20 v (by omega)).trans H_20_v)) rfl rfl ?_
      refine zX.sn 1 (pc2 := 21) (l2 := [(4, .inl (.int (zme me ((zfi fn ((w * 8) + ky) (fn ((w * 8) + ky) + 1)) ((w * 8) + ky)) ((zfi fs ((w * 8) + ky) (fs ((w * 8) + ky) + Int32.ofInt va)) ((w * 8) + ky))))), (0, .inr (20, v)), (1, zi (w : Int)), (2, zi (ky : Int)), (3, .inr (26, v))]) (st2 := [zi (ky : Int), zi (v : Int)]) rfl ?_
      refine zX.sn 1 (pc2 := 22) (l2 := [(4, .inl (.int (zme me ((zfi fn ((w * 8) + ky) (fn ((w * 8) + ky) + 1)) ((w * 8) + ky)) ((zfi fs ((w * 8) + ky) (fs ((w * 8) + ky) + Int32.ofInt va)) ((w * 8) + ky))))), (0, .inr (20, v)), (1, zi (w : Int)), (2, zi (ky : Int)), (3, .inr (26, v))]) (st2 := [zi (w : Int), zi (ky : Int), zi (v : Int)]) rfl ?_
      refine zX.sn 1 (pc2 := 23) (l2 := [(4, .inl (.int (zme me ((zfi fn ((w * 8) + ky) (fn ((w * 8) + ky) + 1)) ((w * 8) + ky)) ((zfi fs ((w * 8) + ky) (fs ((w * 8) + ky) + Int32.ofInt va)) ((w * 8) + ky))))), (0, .inr (20, v)), (1, zi (w : Int)), (2, zi (ky : Int)), (3, .inr (26, v))]) (st2 := [.inr (20, v), zi (w : Int), zi (ky : Int), zi (v : Int)]) rfl ?_
      refine zX.getf ⟨rfl, rfl⟩ ((hF2 20 v (by omega)).trans ((hF1 20 v (by omega)).trans H_20_v)) rfl rfl ?_
      refine zX.imul ⟨rfl, rfl⟩ ?_
      refine zX.sn 1 (pc2 := 28) (l2 := [(4, .inl (.int (zme me ((zfi fn ((w * 8) + ky) (fn ((w * 8) + ky) + 1)) ((w * 8) + ky)) ((zfi fs ((w * 8) + ky) (fs ((w * 8) + ky) + Int32.ofInt va)) ((w * 8) + ky))))), (0, .inr (20, v)), (1, zi (w : Int)), (2, zi (ky : Int)), (3, .inr (26, v))]) (st2 := [.inr (20, v), zi ((w : Int) * (sp : Int)), zi (ky : Int), zi (v : Int)]) rfl ?_
      refine zX.sn 1 (pc2 := 29) (l2 := [(4, .inl (.int (zme me ((zfi fn ((w * 8) + ky) (fn ((w * 8) + ky) + 1)) ((w * 8) + ky)) ((zfi fs ((w * 8) + ky) (fs ((w * 8) + ky) + Int32.ofInt va)) ((w * 8) + ky))))), (0, .inr (20, v)), (1, zi (w : Int)), (2, zi (ky : Int)), (3, .inr (26, v))]) (st2 := [zi (w : Int), .inr (20, v), zi ((w : Int) * (sp : Int)), zi (ky : Int), zi (v : Int)]) rfl ?_
      refine zX.call (mid2 := 87) (as := [.inr (20, v), zi (w : Int)]) (rest := [zi ((w : Int) * (sp : Int)), zi (ky : Int), zi (v : Int)]) ⟨rfl, rfl⟩ (fun _ => rfl) (zX.inv rfl ((hF2 20 v (by omega)).trans ((hF1 20 v (by omega)).trans H_20_v)) rfl rfl) ⟨Nat.le_of_ble_eq_true rfl, Nat.le_of_ble_eq_true rfl⟩ ?_
      show zX _ 87 0 [(0, .inr (20, v)), (1, zi (w : Int))] [] c s _ _
      refine zX.sn 1 (pc2 := 1) (l2 := [(0, .inr (20, v)), (1, zi (w : Int))]) (st2 := [zi (w : Int)]) rfl ?_
      refine zX.sn 1 (pc2 := 2) (l2 := [(0, .inr (20, v)), (1, zi (w : Int))]) (st2 := [.inr (20, v), zi (w : Int)]) rfl ?_
      refine zX.getf ⟨rfl, rfl⟩ ((hF2 20 v (by omega)).trans ((hF1 20 v (by omega)).trans H_20_v)) rfl rfl ?_
      refine zX.imul ⟨rfl, rfl⟩ ?_
      refine zX.sn 1 (pc2 := 7) (l2 := [(0, .inr (20, v)), (1, zi (w : Int))]) (st2 := [.inr (20, v), zi ((w : Int) * (sp : Int))]) rfl ?_
      refine zX.getf ⟨rfl, rfl⟩ ((hF2 20 v (by omega)).trans ((hF1 20 v (by omega)).trans H_20_v)) rfl rfl ?_
      refine zX.iadd ⟨rfl, rfl⟩ ?_
      refine zX.ret rfl rfl ?_
      show zX _ 91 32 [(4, .inl (.int (zme me ((zfi fn ((w * 8) + ky) (fn ((w * 8) + ky) + 1)) ((w * 8) + ky)) ((zfi fs ((w * 8) + ky) (fs ((w * 8) + ky) + Int32.ofInt va)) ((w * 8) + ky))))), (0, .inr (20, v)), (1, zi (w : Int)), (2, zi (ky : Int)), (3, .inr (26, v))] [zi (((w : Int) * (sp : Int)) + (sz : Int)), zi ((w : Int) * (sp : Int)), zi (ky : Int), zi (v : Int)] c s _ _
      refine zX.sn 1 (pc2 := 34) (l2 := [(4, .inl (.int (zme me ((zfi fn ((w * 8) + ky) (fn ((w * 8) + ky) + 1)) ((w * 8) + ky)) ((zfi fs ((w * 8) + ky) (fs ((w * 8) + ky) + Int32.ofInt va)) ((w * 8) + ky))))), (0, .inr (20, v)), (1, zi (w : Int)), (2, zi (ky : Int)), (3, .inr (26, v))]) (st2 := [.inl (.int (zme me ((zfi fn ((w * 8) + ky) (fn ((w * 8) + ky) + 1)) ((w * 8) + ky)) ((zfi fs ((w * 8) + ky) (fs ((w * 8) + ky) + Int32.ofInt va)) ((w * 8) + ky)))), zi (((w : Int) * (sp : Int)) + (sz : Int)), zi ((w : Int) * (sp : Int)), zi (ky : Int), zi (v : Int)]) rfl ?_
      refine zX.call (mid2 := 14) (as := [zi (v : Int), zi (ky : Int), zi ((w : Int) * (sp : Int)), zi (((w : Int) * (sp : Int)) + (sz : Int)), .inl (.int (zme me ((zfi fn ((w * 8) + ky) (fn ((w * 8) + ky) + 1)) ((w * 8) + ky)) ((zfi fs ((w * 8) + ky) (fs ((w * 8) + ky) + Int32.ofInt va)) ((w * 8) + ky))))]) (rest := []) ⟨rfl, rfl⟩ (fun _ => rfl) rfl ⟨Nat.le_of_ble_eq_true rfl, Nat.le_of_ble_eq_true rfl⟩ ?_
      refine s_of  ?_
      show zX _ 91 37 [(4, .inl (.int (zme me ((zfi fn ((w * 8) + ky) (fn ((w * 8) + ky) + 1)) ((w * 8) + ky)) ((zfi fs ((w * 8) + ky) (fs ((w * 8) + ky) + Int32.ofInt va)) ((w * 8) + ky))))), (0, .inr (20, v)), (1, zi (w : Int)), (2, zi (ky : Int)), (3, .inr (26, v))] [.inl (.long (zro (v : Int) (ky : Int) ((w : Int) * (sp : Int)) (((w : Int) * (sp : Int)) + (sz : Int)) (zme me ((zfi fn ((w * 8) + ky) (fn ((w * 8) + ky) + 1)) ((w * 8) + ky)) ((zfi fs ((w * 8) + ky) (fs ((w * 8) + ky) + Int32.ofInt va)) ((w * 8) + ky)))))] c s _ _
      refine zX.ret rfl rfl ?_
      show zX _ 93 70 [(3, zi (((w : Int) * 8) + (ky : Int))), (0, .inr (20, v)), (1, zi (w : Int)), (2, .inr (8, re))] [.inl (.long (zro (v : Int) (ky : Int) ((w : Int) * (sp : Int)) (((w : Int) * (sp : Int)) + (sz : Int)) (zme me ((zfi fn ((w * 8) + ky) (fn ((w * 8) + ky) + 1)) ((w * 8) + ky)) ((zfi fs ((w * 8) + ky) (fs ((w * 8) + ky) + Int32.ofInt va)) ((w * 8) + ky))))), zi (((w : Int) * 8) + (ky : Int)), zi (((w : Int) * 8) + (ky : Int)), .inr (20, v)] c s _ _
      refine zX.call (mid2 := 80) (as := [.inr (20, v), zi (((w : Int) * 8) + (ky : Int)), zi (((w : Int) * 8) + (ky : Int)), .inl (.long (zro (v : Int) (ky : Int) ((w : Int) * (sp : Int)) (((w : Int) * (sp : Int)) + (sz : Int)) (zme me ((zfi fn ((w * 8) + ky) (fn ((w * 8) + ky) + 1)) ((w * 8) + ky)) ((zfi fs ((w * 8) + ky) (fs ((w * 8) + ky) + Int32.ofInt va)) ((w * 8) + ky)))))]) (rest := []) ⟨rfl, rfl⟩ (fun _ => rfl) (zX.inv rfl ((hF2 20 v (by omega)).trans ((hF1 20 v (by omega)).trans H_20_v)) rfl rfl) ⟨Nat.le_of_ble_eq_true rfl, Nat.le_of_ble_eq_true rfl⟩ ?_
      refine s_tanew (ci := 9) (k := ((w * 8) + ky)) (j := ((w * 8) + ky)) (by omega) (by omega) (by omega) (by omega) zro_nz hvr (by omega) (by omega) (by first | omega | (simp only [List.length_append, List.length_cons, List.length_nil]; omega)) (show zVo _ 9 v false fi sz gr _ _ from ((hF2 20 v (by omega)).trans ((hF1 20 v (by omega)).trans H_20_v))) (zRes.fr P_told (fun za zb hi => ((hF2 za zb (by omega)).trans ((hF1 za zb (by omega)).trans rfl)))) (zOut.fr P_out (fun za zb hi => ((hF2 za zb (by omega)).trans ((hF1 za zb (by omega)).trans rfl))))  (fun h5 N5 c5 s5 hv5 ho5 hF5 hb5 => ?_)
      show zX _ 93 73 [(3, zi (((w : Int) * 8) + (ky : Int))), (0, .inr (20, v)), (1, zi (w : Int)), (2, .inr (8, re))] [] c5 s5 _ _
      refine zX.ret rfl rfl ?_
      exact k2 e1 e3 N5 c5 s5 hb5 _ ((hF5 25 v (by omega)).trans ((hF2 25 v (by omega)).trans hv1)) (zTal.fr hv2 (fun za zb hi => ((hF5 za zb (by omega)).trans rfl))) hv5 ho5 (fun za zb hn => ((hF5 za zb (by omega)).trans ((hF2 za zb (by omega)).trans ((hF1 za zb (by omega)).trans rfl))))
  · show zX _ 93 18 [(3, zi (((w : Int) * 8) + (ky : Int))), (0, .inr (20, v)), (1, zi (w : Int)), (2, .inr (8, re))] [zi 1] c s _ _
    refine zX.icmp0 (tgt := 30) ⟨rfl, rfl⟩ rfl (by omega) (fun (e4 : ¬ 1 = 0) => ?_) (fun (zz : 1 = 0) => absurd zz (by omega))
    refine zX.sn 1 (pc2 := 31) (l2 := [(3, zi (((w : Int) * 8) + (ky : Int))), (0, .inr (20, v)), (1, zi (w : Int)), (2, .inr (8, re))]) (st2 := [.inr (20, v)]) rfl ?_
    refine zX.getf ⟨rfl, rfl⟩ H_20_v rfl rfl ?_
    refine zX.sn 1 (pc2 := 35) (l2 := [(3, zi (((w : Int) * 8) + (ky : Int))), (0, .inr (20, v)), (1, zi (w : Int)), (2, .inr (8, re))]) (st2 := [zi (((w : Int) * 8) + (ky : Int)), .inr (26, v)]) rfl ?_
    refine zX.sn 1 (pc2 := 36) (l2 := [(3, zi (((w : Int) * 8) + (ky : Int))), (0, .inr (20, v)), (1, zi (w : Int)), (2, .inr (8, re))]) (st2 := [.inr (8, re), zi (((w : Int) * 8) + (ky : Int)), .inr (26, v)]) rfl ?_
    refine zX.getf ⟨rfl, rfl⟩ H_8_re rfl rfl ?_
    refine zX.call (mid2 := 54) (as := [.inr (26, v), zi (((w : Int) * 8) + (ky : Int)), zi va]) (rest := []) ⟨rfl, rfl⟩ (fun _ => rfl) (zX.inv rfl (P_rows.1) rfl rfl) ⟨Nat.le_of_ble_eq_true rfl, Nat.le_of_ble_eq_true rfl⟩ ?_
    refine s_tadd (k := ((w * 8) + ky)) (by omega) (by omega) (by omega) (by omega) P_rows (fun h6 hv6 hF6 => ?_)
    show zX _ 93 42 [(3, zi (((w : Int) * 8) + (ky : Int))), (0, .inr (20, v)), (1, zi (w : Int)), (2, .inr (8, re))] [] c s _ _
    refine zX.sn 1 (pc2 := 43) (l2 := [(3, zi (((w : Int) * 8) + (ky : Int))), (0, .inr (20, v)), (1, zi (w : Int)), (2, .inr (8, re))]) (st2 := [.inr (8, re)]) rfl ?_
    refine zX.getf ⟨rfl, rfl⟩ ((hF6 8 re (by omega)).trans H_8_re) rfl rfl ?_
    refine zX.sn 1 (pc2 := 47) (l2 := [(3, zi (((w : Int) * 8) + (ky : Int))), (0, .inr (20, v)), (1, zi (w : Int)), (2, .inr (8, re))]) (st2 := [.inr (20, v), zi ah]) rfl ?_
    refine zX.sn 1 (pc2 := 48) (l2 := [(3, zi (((w : Int) * 8) + (ky : Int))), (0, .inr (20, v)), (1, zi (w : Int)), (2, .inr (8, re))]) (st2 := [zi (w : Int), .inr (20, v), zi ah]) rfl ?_
    refine zX.call (mid2 := 87) (as := [.inr (20, v), zi (w : Int)]) (rest := [zi ah]) ⟨rfl, rfl⟩ (fun _ => rfl) (zX.inv rfl ((hF6 20 v (by omega)).trans H_20_v) rfl rfl) ⟨Nat.le_of_ble_eq_true rfl, Nat.le_of_ble_eq_true rfl⟩ ?_
    show zX _ 87 0 [(0, .inr (20, v)), (1, zi (w : Int))] [] c s _ _
    refine zX.sn 1 (pc2 := 1) (l2 := [(0, .inr (20, v)), (1, zi (w : Int))]) (st2 := [zi (w : Int)]) rfl ?_
    refine zX.sn 1 (pc2 := 2) (l2 := [(0, .inr (20, v)), (1, zi (w : Int))]) (st2 := [.inr (20, v), zi (w : Int)]) rfl ?_
    refine zX.getf ⟨rfl, rfl⟩ ((hF6 20 v (by omega)).trans H_20_v) rfl rfl ?_
    refine zX.imul ⟨rfl, rfl⟩ ?_
    refine zX.sn 1 (pc2 := 7) (l2 := [(0, .inr (20, v)), (1, zi (w : Int))]) (st2 := [.inr (20, v), zi ((w : Int) * (sp : Int))]) rfl ?_
    refine zX.getf ⟨rfl, rfl⟩ ((hF6 20 v (by omega)).trans H_20_v) rfl rfl ?_
    refine zX.iadd ⟨rfl, rfl⟩ ?_
    refine zX.ret rfl rfl ?_
    show zX _ 93 51 [(3, zi (((w : Int) * 8) + (ky : Int))), (0, .inr (20, v)), (1, zi (w : Int)), (2, .inr (8, re))] [zi (((w : Int) * (sp : Int)) + (sz : Int)), zi ah] c s _ _
    refine zX.icmp (tgt := 73) ⟨rfl, rfl⟩ rfl (by omega) (by omega) (fun (e5 : ah < (((w : Int) * (sp : Int)) + (sz : Int))) => ?_) (fun (e5 : (((w : Int) * (sp : Int)) + (sz : Int)) ≤ ah) => ?_)
    · refine zX.ret rfl rfl ?_
      exact k3 e1 e5 _ hv6 (fun za zb hn => ((hF6 za zb (by omega)).trans rfl))
    · refine zX.sn 1 (pc2 := 55) (l2 := [(3, zi (((w : Int) * 8) + (ky : Int))), (0, .inr (20, v)), (1, zi (w : Int)), (2, .inr (8, re))]) (st2 := [.inr (20, v)]) rfl ?_
      refine zX.sn 1 (pc2 := 56) (l2 := [(3, zi (((w : Int) * 8) + (ky : Int))), (0, .inr (20, v)), (1, zi (w : Int)), (2, .inr (8, re))]) (st2 := [zi (((w : Int) * 8) + (ky : Int)), .inr (20, v)]) rfl ?_
      refine zX.sn 1 (pc2 := 57) (l2 := [(3, zi (((w : Int) * 8) + (ky : Int))), (0, .inr (20, v)), (1, zi (w : Int)), (2, .inr (8, re))]) (st2 := [zi (((w : Int) * 8) + (ky : Int)), zi (((w : Int) * 8) + (ky : Int)), .inr (20, v)]) rfl ?_
      refine zX.sn 1 (pc2 := 58) (l2 := [(3, zi (((w : Int) * 8) + (ky : Int))), (0, .inr (20, v)), (1, zi (w : Int)), (2, .inr (8, re))]) (st2 := [.inr (20, v), zi (((w : Int) * 8) + (ky : Int)), zi (((w : Int) * 8) + (ky : Int)), .inr (20, v)]) rfl ?_
      refine zX.sn 1 (pc2 := 59) (l2 := [(3, zi (((w : Int) * 8) + (ky : Int))), (0, .inr (20, v)), (1, zi (w : Int)), (2, .inr (8, re))]) (st2 := [zi (w : Int), .inr (20, v), zi (((w : Int) * 8) + (ky : Int)), zi (((w : Int) * 8) + (ky : Int)), .inr (20, v)]) rfl ?_
      refine zX.sn 1 (pc2 := 60) (l2 := [(3, zi (((w : Int) * 8) + (ky : Int))), (0, .inr (20, v)), (1, zi (w : Int)), (2, .inr (8, re))]) (st2 := [.inr (8, re), zi (w : Int), .inr (20, v), zi (((w : Int) * 8) + (ky : Int)), zi (((w : Int) * 8) + (ky : Int)), .inr (20, v)]) rfl ?_
      refine zX.getf ⟨rfl, rfl⟩ ((hF6 8 re (by omega)).trans H_8_re) rfl rfl ?_
      refine zX.sn 1 (pc2 := 64) (l2 := [(3, zi (((w : Int) * 8) + (ky : Int))), (0, .inr (20, v)), (1, zi (w : Int)), (2, .inr (8, re))]) (st2 := [.inr (20, v), zi (ky : Int), zi (w : Int), .inr (20, v), zi (((w : Int) * 8) + (ky : Int)), zi (((w : Int) * 8) + (ky : Int)), .inr (20, v)]) rfl ?_
      refine zX.getf ⟨rfl, rfl⟩ ((hF6 20 v (by omega)).trans H_20_v) rfl rfl ?_
      refine zX.call (mid2 := 91) (as := [.inr (20, v), zi (w : Int), zi (ky : Int), .inr (26, v)]) (rest := [zi (((w : Int) * 8) + (ky : Int)), zi (((w : Int) * 8) + (ky : Int)), .inr (20, v)]) ⟨rfl, rfl⟩ (fun _ => rfl) (zX.inv rfl ((hF6 20 v (by omega)).trans H_20_v) rfl rfl) ⟨Nat.le_of_ble_eq_true rfl, Nat.le_of_ble_eq_true rfl⟩ ?_
      show zX _ 91 0 [(0, .inr (20, v)), (1, zi (w : Int)), (2, zi (ky : Int)), (3, .inr (26, v))] [] c s _ _
      refine zX.sn 1 (pc2 := 1) (l2 := [(0, .inr (20, v)), (1, zi (w : Int)), (2, zi (ky : Int)), (3, .inr (26, v))]) (st2 := [.inr (26, v)]) rfl ?_
      refine zX.sn 1 (pc2 := 2) (l2 := [(0, .inr (20, v)), (1, zi (w : Int)), (2, zi (ky : Int)), (3, .inr (26, v))]) (st2 := [zi (w : Int), .inr (26, v)]) rfl ?_
      refine zX.sn 1 (pc2 := 4) (l2 := [(0, .inr (20, v)), (1, zi (w : Int)), (2, zi (ky : Int)), (3, .inr (26, v))]) (st2 := [zi 8, zi (w : Int), .inr (26, v)]) rfl ?_
      refine zX.imul ⟨rfl, rfl⟩ ?_
      refine zX.sn 1 (pc2 := 6) (l2 := [(0, .inr (20, v)), (1, zi (w : Int)), (2, zi (ky : Int)), (3, .inr (26, v))]) (st2 := [zi (ky : Int), zi ((w : Int) * 8), .inr (26, v)]) rfl ?_
      refine zX.iadd ⟨rfl, rfl⟩ ?_
      refine zX.sn 1 (pc2 := 8) (l2 := [(0, .inr (20, v)), (1, zi (w : Int)), (2, zi (ky : Int)), (3, .inr (26, v))]) (st2 := [.inr (20, v), zi (((w : Int) * 8) + (ky : Int)), .inr (26, v)]) rfl ?_
      refine zX.getf ⟨rfl, rfl⟩ ((hF6 20 v (by omega)).trans H_20_v) rfl rfl ?_
      refine zX.call (mid2 := 58) (as := [.inr (26, v), zi (((w : Int) * 8) + (ky : Int)), zi me]) (rest := []) ⟨rfl, rfl⟩ (fun _ => rfl) (zX.inv rfl (hv6.1) rfl rfl) ⟨Nat.le_of_ble_eq_true rfl, Nat.le_of_ble_eq_true rfl⟩ ?_
      refine s_meas (k := ((w * 8) + ky)) (by omega) (by omega) (by omega) (by omega) hme hv6 ?_
      show zX _ 91 14 [(0, .inr (20, v)), (1, zi (w : Int)), (2, zi (ky : Int)), (3, .inr (26, v))] [.inl (.int (zme me ((zfi fn ((w * 8) + ky) (fn ((w * 8) + ky) + 1)) ((w * 8) + ky)) ((zfi fs ((w * 8) + ky) (fs ((w * 8) + ky) + Int32.ofInt va)) ((w * 8) + ky))))] c s _ _
      refine zX.sn 1 (pc2 := 16) (l2 := [(4, .inl (.int (zme me ((zfi fn ((w * 8) + ky) (fn ((w * 8) + ky) + 1)) ((w * 8) + ky)) ((zfi fs ((w * 8) + ky) (fs ((w * 8) + ky) + Int32.ofInt va)) ((w * 8) + ky))))), (0, .inr (20, v)), (1, zi (w : Int)), (2, zi (ky : Int)), (3, .inr (26, v))]) (st2 := []) rfl ?_
      refine zX.sn 1 (pc2 := 17) (l2 := [(4, .inl (.int (zme me ((zfi fn ((w * 8) + ky) (fn ((w * 8) + ky) + 1)) ((w * 8) + ky)) ((zfi fs ((w * 8) + ky) (fs ((w * 8) + ky) + Int32.ofInt va)) ((w * 8) + ky))))), (0, .inr (20, v)), (1, zi (w : Int)), (2, zi (ky : Int)), (3, .inr (26, v))]) (st2 := [.inr (20, v)]) rfl ?_
      refine zX.getf ⟨rfl, rfl⟩ ((hF6 20 v (by omega)).trans H_20_v) rfl rfl ?_
      refine zX.sn 1 (pc2 := 21) (l2 := [(4, .inl (.int (zme me ((zfi fn ((w * 8) + ky) (fn ((w * 8) + ky) + 1)) ((w * 8) + ky)) ((zfi fs ((w * 8) + ky) (fs ((w * 8) + ky) + Int32.ofInt va)) ((w * 8) + ky))))), (0, .inr (20, v)), (1, zi (w : Int)), (2, zi (ky : Int)), (3, .inr (26, v))]) (st2 := [zi (ky : Int), zi (v : Int)]) rfl ?_
      refine zX.sn 1 (pc2 := 22) (l2 := [(4, .inl (.int (zme me ((zfi fn ((w * 8) + ky) (fn ((w * 8) + ky) + 1)) ((w * 8) + ky)) ((zfi fs ((w * 8) + ky) (fs ((w * 8) + ky) + Int32.ofInt va)) ((w * 8) + ky))))), (0, .inr (20, v)), (1, zi (w : Int)), (2, zi (ky : Int)), (3, .inr (26, v))]) (st2 := [zi (w : Int), zi (ky : Int), zi (v : Int)]) rfl ?_
      refine zX.sn 1 (pc2 := 23) (l2 := [(4, .inl (.int (zme me ((zfi fn ((w * 8) + ky) (fn ((w * 8) + ky) + 1)) ((w * 8) + ky)) ((zfi fs ((w * 8) + ky) (fs ((w * 8) + ky) + Int32.ofInt va)) ((w * 8) + ky))))), (0, .inr (20, v)), (1, zi (w : Int)), (2, zi (ky : Int)), (3, .inr (26, v))]) (st2 := [.inr (20, v), zi (w : Int), zi (ky : Int), zi (v : Int)]) rfl ?_
      refine zX.getf ⟨rfl, rfl⟩ ((hF6 20 v (by omega)).trans H_20_v) rfl rfl ?_
      refine zX.imul ⟨rfl, rfl⟩ ?_
      refine zX.sn 1 (pc2 := 28) (l2 := [(4, .inl (.int (zme me ((zfi fn ((w * 8) + ky) (fn ((w * 8) + ky) + 1)) ((w * 8) + ky)) ((zfi fs ((w * 8) + ky) (fs ((w * 8) + ky) + Int32.ofInt va)) ((w * 8) + ky))))), (0, .inr (20, v)), (1, zi (w : Int)), (2, zi (ky : Int)), (3, .inr (26, v))]) (st2 := [.inr (20, v), zi ((w : Int) * (sp : Int)), zi (ky : Int), zi (v : Int)]) rfl ?_
      refine zX.sn 1 (pc2 := 29) (l2 := [(4, .inl (.int (zme me ((zfi fn ((w * 8) + ky) (fn ((w * 8) + ky) + 1)) ((w * 8) + ky)) ((zfi fs ((w * 8) + ky) (fs ((w * 8) + ky) + Int32.ofInt va)) ((w * 8) + ky))))), (0, .inr (20, v)), (1, zi (w : Int)), (2, zi (ky : Int)), (3, .inr (26, v))]) (st2 := [zi (w : Int), .inr (20, v), zi ((w : Int) * (sp : Int)), zi (ky : Int), zi (v : Int)]) rfl ?_
      refine zX.call (mid2 := 87) (as := [.inr (20, v), zi (w : Int)]) (rest := [zi ((w : Int) * (sp : Int)), zi (ky : Int), zi (v : Int)]) ⟨rfl, rfl⟩ (fun _ => rfl) (zX.inv rfl ((hF6 20 v (by omega)).trans H_20_v) rfl rfl) ⟨Nat.le_of_ble_eq_true rfl, Nat.le_of_ble_eq_true rfl⟩ ?_
      show zX _ 87 0 [(0, .inr (20, v)), (1, zi (w : Int))] [] c s _ _
      refine zX.sn 1 (pc2 := 1) (l2 := [(0, .inr (20, v)), (1, zi (w : Int))]) (st2 := [zi (w : Int)]) rfl ?_
      refine zX.sn 1 (pc2 := 2) (l2 := [(0, .inr (20, v)), (1, zi (w : Int))]) (st2 := [.inr (20, v), zi (w : Int)]) rfl ?_
      refine zX.getf ⟨rfl, rfl⟩ ((hF6 20 v (by omega)).trans H_20_v) rfl rfl ?_
      refine zX.imul ⟨rfl, rfl⟩ ?_
      refine zX.sn 1 (pc2 := 7) (l2 := [(0, .inr (20, v)), (1, zi (w : Int))]) (st2 := [.inr (20, v), zi ((w : Int) * (sp : Int))]) rfl ?_
      refine zX.getf ⟨rfl, rfl⟩ ((hF6 20 v (by omega)).trans H_20_v) rfl rfl ?_
      refine zX.iadd ⟨rfl, rfl⟩ ?_
      refine zX.ret rfl rfl ?_
      show zX _ 91 32 [(4, .inl (.int (zme me ((zfi fn ((w * 8) + ky) (fn ((w * 8) + ky) + 1)) ((w * 8) + ky)) ((zfi fs ((w * 8) + ky) (fs ((w * 8) + ky) + Int32.ofInt va)) ((w * 8) + ky))))), (0, .inr (20, v)), (1, zi (w : Int)), (2, zi (ky : Int)), (3, .inr (26, v))] [zi (((w : Int) * (sp : Int)) + (sz : Int)), zi ((w : Int) * (sp : Int)), zi (ky : Int), zi (v : Int)] c s _ _
      refine zX.sn 1 (pc2 := 34) (l2 := [(4, .inl (.int (zme me ((zfi fn ((w * 8) + ky) (fn ((w * 8) + ky) + 1)) ((w * 8) + ky)) ((zfi fs ((w * 8) + ky) (fs ((w * 8) + ky) + Int32.ofInt va)) ((w * 8) + ky))))), (0, .inr (20, v)), (1, zi (w : Int)), (2, zi (ky : Int)), (3, .inr (26, v))]) (st2 := [.inl (.int (zme me ((zfi fn ((w * 8) + ky) (fn ((w * 8) + ky) + 1)) ((w * 8) + ky)) ((zfi fs ((w * 8) + ky) (fs ((w * 8) + ky) + Int32.ofInt va)) ((w * 8) + ky)))), zi (((w : Int) * (sp : Int)) + (sz : Int)), zi ((w : Int) * (sp : Int)), zi (ky : Int), zi (v : Int)]) rfl ?_
      refine zX.call (mid2 := 14) (as := [zi (v : Int), zi (ky : Int), zi ((w : Int) * (sp : Int)), zi (((w : Int) * (sp : Int)) + (sz : Int)), .inl (.int (zme me ((zfi fn ((w * 8) + ky) (fn ((w * 8) + ky) + 1)) ((w * 8) + ky)) ((zfi fs ((w * 8) + ky) (fs ((w * 8) + ky) + Int32.ofInt va)) ((w * 8) + ky))))]) (rest := []) ⟨rfl, rfl⟩ (fun _ => rfl) rfl ⟨Nat.le_of_ble_eq_true rfl, Nat.le_of_ble_eq_true rfl⟩ ?_
      refine s_of  ?_
      show zX _ 91 37 [(4, .inl (.int (zme me ((zfi fn ((w * 8) + ky) (fn ((w * 8) + ky) + 1)) ((w * 8) + ky)) ((zfi fs ((w * 8) + ky) (fs ((w * 8) + ky) + Int32.ofInt va)) ((w * 8) + ky))))), (0, .inr (20, v)), (1, zi (w : Int)), (2, zi (ky : Int)), (3, .inr (26, v))] [.inl (.long (zro (v : Int) (ky : Int) ((w : Int) * (sp : Int)) (((w : Int) * (sp : Int)) + (sz : Int)) (zme me ((zfi fn ((w * 8) + ky) (fn ((w * 8) + ky) + 1)) ((w * 8) + ky)) ((zfi fs ((w * 8) + ky) (fs ((w * 8) + ky) + Int32.ofInt va)) ((w * 8) + ky)))))] c s _ _
      refine zX.ret rfl rfl ?_
      show zX _ 93 70 [(3, zi (((w : Int) * 8) + (ky : Int))), (0, .inr (20, v)), (1, zi (w : Int)), (2, .inr (8, re))] [.inl (.long (zro (v : Int) (ky : Int) ((w : Int) * (sp : Int)) (((w : Int) * (sp : Int)) + (sz : Int)) (zme me ((zfi fn ((w * 8) + ky) (fn ((w * 8) + ky) + 1)) ((w * 8) + ky)) ((zfi fs ((w * 8) + ky) (fs ((w * 8) + ky) + Int32.ofInt va)) ((w * 8) + ky))))), zi (((w : Int) * 8) + (ky : Int)), zi (((w : Int) * 8) + (ky : Int)), .inr (20, v)] c s _ _
      refine zX.call (mid2 := 80) (as := [.inr (20, v), zi (((w : Int) * 8) + (ky : Int)), zi (((w : Int) * 8) + (ky : Int)), .inl (.long (zro (v : Int) (ky : Int) ((w : Int) * (sp : Int)) (((w : Int) * (sp : Int)) + (sz : Int)) (zme me ((zfi fn ((w * 8) + ky) (fn ((w * 8) + ky) + 1)) ((w * 8) + ky)) ((zfi fs ((w * 8) + ky) (fs ((w * 8) + ky) + Int32.ofInt va)) ((w * 8) + ky)))))]) (rest := []) ⟨rfl, rfl⟩ (fun _ => rfl) (zX.inv rfl ((hF6 20 v (by omega)).trans H_20_v) rfl rfl) ⟨Nat.le_of_ble_eq_true rfl, Nat.le_of_ble_eq_true rfl⟩ ?_
      refine s_tanew (ci := 9) (k := ((w * 8) + ky)) (j := ((w * 8) + ky)) (by omega) (by omega) (by omega) (by omega) zro_nz hvr (by omega) (by omega) (by first | omega | (simp only [List.length_append, List.length_cons, List.length_nil]; omega)) (show zVo _ 9 v false fi sz gr _ _ from ((hF6 20 v (by omega)).trans H_20_v)) (zRes.fr P_told (fun za zb hi => ((hF6 za zb (by omega)).trans rfl))) (zOut.fr P_out (fun za zb hi => ((hF6 za zb (by omega)).trans rfl)))  (fun h9 N9 c9 s9 hv9 ho9 hF9 hb9 => ?_)
      show zX _ 93 73 [(3, zi (((w : Int) * 8) + (ky : Int))), (0, .inr (20, v)), (1, zi (w : Int)), (2, .inr (8, re))] [] c9 s9 _ _
      refine zX.ret rfl rfl ?_
      exact k4 e1 e5 N9 c9 s9 hb9 _ (zTal.fr hv6 (fun za zb hi => ((hF9 za zb (by omega)).trans rfl))) hv9 ho9 (fun za zb hn => ((hF9 za zb (by omega)).trans ((hF6 za zb (by omega)).trans rfl)))

end ZR54
