set_option maxRecDepth 100000
section ZR69
set_option maxHeartbeats 4000000 in
theorem r_part {d c s : Nat} {h : xH} {Q : xR → Nat → Nat → xH → Prop} {sz : Nat} {e o : zE} (hsz : 1 ≤ sz ∧ sz ≤ 200) (hEe : zEr e) (hkye : zeK e < 8) (htme : zeT e < 1000) (hvae : -99 ≤ zeV e ∧ zeV e ≤ 99) (hahe : -1 ≤ zeA e ∧ zeA e < 1000) (hode : zeO e < 240) (hire : 0 ≤ zbi (zeR e) ∧ zbi (zeR e) ≤ 1) (hile : 0 ≤ zbi (zeL e) ∧ zbi (zeL e) ≤ 1) (hEo : zEr o) (hkyo : zeK o < 8) (htmo : zeT o < 1000) (hvao : -99 ≤ zeV o ∧ zeV o ≤ 99) (haho : -1 ≤ zeA o ∧ zeA o < 1000) (hodo : zeO o < 240) (hiro : 0 ≤ zbi (zeR o) ∧ zbi (zeR o) ≤ 1) (hilo : 0 ≤ zbi (zeL o) ∧ zbi (zeL o) ≤ 1) (H_8_zeN_e : h (8, zeN e) = some (.inl (1, [zi (zeP e : Int), zi (zbi (zeR e)), zi (zbi (zeL e)), zi (zeK e : Int), zi (zeT e : Int), zi (zeV e), zi (zeO e : Int), zi (zeA e), zi (zeB e)]))) (H_8_zeN_o : h (8, zeN o) = some (.inl (1, [zi (zeP o : Int), zi (zbi (zeR o)), zi (zbi (zeL o)), zi (zeK o : Int), zi (zeT o : Int), zi (zeV o), zi (zeO o : Int), zi (zeA o), zi (zeB o)])))
    (k1 : (zbi (zeL e) = zbi (zeL o)) → Q (.inl (some (zi 0))) c s h)
    (k2 : (¬ zbi (zeL e) = zbi (zeL o)) → (¬ (zeK e : Int) = (zeK o : Int)) → Q (.inl (some (zi 0))) c s h)
    (k3 : (¬ zbi (zeL e) = zbi (zeL o)) → ((zeK e : Int) = (zeK o : Int)) → ((sz : Int) < (if 0 ≤ ((zeT e : Int) - (zeT o : Int)) then ((zeT e : Int) - (zeT o : Int)) else 0 - ((zeT e : Int) - (zeT o : Int)))) → Q (.inl (some (zi 0))) c s h)
    (k4 : (¬ zbi (zeL e) = zbi (zeL o)) → ((zeK e : Int) = (zeK o : Int)) → ((if 0 ≤ ((zeT e : Int) - (zeT o : Int)) then ((zeT e : Int) - (zeT o : Int)) else 0 - ((zeT e : Int) - (zeT o : Int))) ≤ (sz : Int)) → Q (.inl (some (zi 1))) c s h) :
    zX d 1 0 [(0, .inr (8, zeN e)), (1, .inr (8, zeN o)), (2, zi (sz : Int))] [] c s h Q := by
  refine zX.sn 1 (pc2 := 1) (l2 := [(0, .inr (8, zeN e)), (1, .inr (8, zeN o)), (2, zi (sz : Int))]) (st2 := [.inr (8, zeN e)]) rfl ?_
  refine zX.getf ⟨rfl, rfl⟩ H_8_zeN_e rfl rfl ?_
  refine zX.sn 1 (pc2 := 5) (l2 := [(0, .inr (8, zeN e)), (1, .inr (8, zeN o)), (2, zi (sz : Int))]) (st2 := [.inr (8, zeN o), zi (zbi (zeL e))]) rfl ?_
  refine zX.getf ⟨rfl, rfl⟩ H_8_zeN_o rfl rfl ?_
  refine zX.icmp (tgt := 42) ⟨rfl, rfl⟩ rfl (by omega) (by omega) (fun (e1 : zbi (zeL e) = zbi (zeL o)) => ?_) (fun (e1 : ¬ zbi (zeL e) = zbi (zeL o)) => ?_)
  · refine zX.sn 1 (pc2 := 43) (l2 := [(0, .inr (8, zeN e)), (1, .inr (8, zeN o)), (2, zi (sz : Int))]) (st2 := [zi 0]) rfl ?_
    refine zX.ret rfl (zret_z rfl (by decide)) ?_
    exact k1 e1
  · refine zX.sn 1 (pc2 := 12) (l2 := [(0, .inr (8, zeN e)), (1, .inr (8, zeN o)), (2, zi (sz : Int))]) (st2 := [.inr (8, zeN e)]) rfl ?_
    refine zX.getf ⟨rfl, rfl⟩ H_8_zeN_e rfl rfl ?_
    refine zX.sn 1 (pc2 := 16) (l2 := [(0, .inr (8, zeN e)), (1, .inr (8, zeN o)), (2, zi (sz : Int))]) (st2 := [.inr (8, zeN o), zi (zeK e : Int)]) rfl ?_
    refine zX.getf ⟨rfl, rfl⟩ H_8_zeN_o rfl rfl ?_
    refine zX.icmp (tgt := 42) ⟨rfl, rfl⟩ rfl (by omega) (by omega) (fun (e2 : ¬ (zeK e : Int) = (zeK o : Int)) => ?_) (fun (e2 : (zeK e : Int) = (zeK o : Int)) => ?_)
    · refine zX.sn 1 (pc2 := 43) (l2 := [(0, .inr (8, zeN e)), (1, .inr (8, zeN o)), (2, zi (sz : Int))]) (st2 := [zi 0]) rfl ?_
      refine zX.ret rfl (zret_z rfl (by decide)) ?_
      exact k2 e1 e2
    · refine zX.sn 1 (pc2 := 23) (l2 := [(0, .inr (8, zeN e)), (1, .inr (8, zeN o)), (2, zi (sz : Int))]) (st2 := [.inr (8, zeN e)]) rfl ?_
      refine zX.getf ⟨rfl, rfl⟩ H_8_zeN_e rfl rfl ?_
      refine zX.sn 1 (pc2 := 27) (l2 := [(0, .inr (8, zeN e)), (1, .inr (8, zeN o)), (2, zi (sz : Int))]) (st2 := [.inr (8, zeN o), zi (zeT e : Int)]) rfl ?_
      refine zX.getf ⟨rfl, rfl⟩ H_8_zeN_o rfl rfl ?_
      refine zX.isub ⟨rfl, rfl⟩ ?_
      refine zX.absi ⟨rfl, rfl⟩ (by omega) (Nat.le_of_ble_eq_true rfl) ?_
      refine zX.sn 1 (pc2 := 35) (l2 := [(0, .inr (8, zeN e)), (1, .inr (8, zeN o)), (2, zi (sz : Int))]) (st2 := [zi (sz : Int), zi (if 0 ≤ ((zeT e : Int) - (zeT o : Int)) then ((zeT e : Int) - (zeT o : Int)) else 0 - ((zeT e : Int) - (zeT o : Int)))]) rfl ?_
      refine zX.icmp (tgt := 42) ⟨rfl, rfl⟩ rfl (by omega) (by omega) (fun (e3 : (sz : Int) < (if 0 ≤ ((zeT e : Int) - (zeT o : Int)) then ((zeT e : Int) - (zeT o : Int)) else 0 - ((zeT e : Int) - (zeT o : Int)))) => ?_) (fun (e3 : (if 0 ≤ ((zeT e : Int) - (zeT o : Int)) then ((zeT e : Int) - (zeT o : Int)) else 0 - ((zeT e : Int) - (zeT o : Int))) ≤ (sz : Int)) => ?_)
      · refine zX.sn 1 (pc2 := 43) (l2 := [(0, .inr (8, zeN e)), (1, .inr (8, zeN o)), (2, zi (sz : Int))]) (st2 := [zi 0]) rfl ?_
        refine zX.ret rfl (zret_z rfl (by decide)) ?_
        exact k3 e1 e2 e3
      · refine zX.sn 1 (pc2 := 39) (l2 := [(0, .inr (8, zeN e)), (1, .inr (8, zeN o)), (2, zi (sz : Int))]) (st2 := [zi 1]) rfl ?_
        refine zX.sn 1 (pc2 := 43) (l2 := [(0, .inr (8, zeN e)), (1, .inr (8, zeN o)), (2, zi (sz : Int))]) (st2 := [zi 1]) rfl ?_
        refine zX.ret rfl (zret_z rfl (by decide)) ?_
        exact k4 e1 e2 e3

set_option maxHeartbeats 4000000 in
theorem r_jres {d c s : Nat} {h : xH} {Q : xR → Nat → Nat → xH → Prop} {v sz gr : Nat} {fi : Int} {dr : Int32} {e o : zE} (hvr : zVr v fi sz gr) (hv : v < 5) (hsz : 1 ≤ sz ∧ sz ≤ 200) (hgr : gr ≤ 200) (hEe : zEr e) (hkye : zeK e < 8) (htme : zeT e < 1000) (hvae : -99 ≤ zeV e ∧ zeV e ≤ 99) (hahe : -1 ≤ zeA e ∧ zeA e < 1000) (hode : zeO e < 240) (hire : 0 ≤ zbi (zeR e) ∧ zbi (zeR e) ≤ 1) (hile : 0 ≤ zbi (zeL e) ∧ zbi (zeL e) ≤ 1) (hEo : zEr o) (hkyo : zeK o < 8) (htmo : zeT o < 1000) (hvao : -99 ≤ zeV o ∧ zeV o ≤ 99) (haho : -1 ≤ zeA o ∧ zeA o < 1000) (hodo : zeO o < 240) (hiro : 0 ≤ zbi (zeR o) ∧ zbi (zeR o) ≤ 1) (hilo : 0 ≤ zbi (zeL o) ∧ zbi (zeL o) ≤ 1) (H_20_v : h (20, v) = some (.inl (2, [zi (v : Int), zi (zbi true), zi fi, zi (sz : Int), zi (gr : Int), .inr (2, 0), .inr (21, v), .inr (23, v), .inr (25, v), .inl (.int dr), .inr (36, v)]))) (H_8_zeN_e : h (8, zeN e) = some (.inl (1, [zi (zeP e : Int), zi (zbi (zeR e)), zi (zbi (zeL e)), zi (zeK e : Int), zi (zeT e : Int), zi (zeV e), zi (zeO e : Int), zi (zeA e), zi (zeB e)]))) (H_8_zeN_o : h (8, zeN o) = some (.inl (1, [zi (zeP o : Int), zi (zbi (zeR o)), zi (zbi (zeL o)), zi (zeK o : Int), zi (zeT o : Int), zi (zeV o), zi (zeO o : Int), zi (zeA o), zi (zeB o)])))
    (k1 : (zbi (zeL e) = 0) → Q (.inl (some (.inl (.long (zro (v : Int) (zeK e : Int) (zeT o : Int) (zeT e : Int) (Int32.ofInt (zeV o + zeV e))))))) c s h)
    (k2 : (¬ zbi (zeL e) = 0) → Q (.inl (some (.inl (.long (zro (v : Int) (zeK e : Int) (zeT e : Int) (zeT o : Int) (Int32.ofInt (zeV e + zeV o))))))) c s h) :
    zX (d + 1) 3 0 [(0, .inr (20, v)), (1, .inr (8, zeN e)), (2, .inr (8, zeN o))] [] c s h Q := by
  refine zX.sn 1 (pc2 := 1) (l2 := [(0, .inr (20, v)), (1, .inr (8, zeN e)), (2, .inr (8, zeN o))]) (st2 := [.inr (8, zeN e)]) rfl ?_
  refine zX.getf ⟨rfl, rfl⟩ H_8_zeN_e rfl rfl ?_
  refine zX.icmp0 (tgt := 11) ⟨rfl, rfl⟩ rfl (by omega) (fun (e1 : zbi (zeL e) = 0) => ?_) (fun (e1 : ¬ zbi (zeL e) = 0) => ?_)
  · refine zX.sn 1 (pc2 := 12) (l2 := [(0, .inr (20, v)), (1, .inr (8, zeN e)), (2, .inr (8, zeN o))]) (st2 := [.inr (8, zeN o)]) rfl ?_
    refine zX.sn 1 (pc2 := 13) (l2 := [(3, .inr (8, zeN o)), (0, .inr (20, v)), (1, .inr (8, zeN e)), (2, .inr (8, zeN o))]) (st2 := []) rfl ?_
    refine zX.sn 1 (pc2 := 14) (l2 := [(3, .inr (8, zeN o)), (0, .inr (20, v)), (1, .inr (8, zeN e)), (2, .inr (8, zeN o))]) (st2 := [.inr (8, zeN e)]) rfl ?_
    refine zX.getf ⟨rfl, rfl⟩ H_8_zeN_e rfl rfl ?_
    refine zX.icmp0 (tgt := 24) ⟨rfl, rfl⟩ rfl (by omega) (fun (e2 : zbi (zeL e) = 0) => ?_) (fun (zz : ¬ zbi (zeL e) = 0) => absurd zz (by omega))
    refine zX.sn 1 (pc2 := 25) (l2 := [(3, .inr (8, zeN o)), (0, .inr (20, v)), (1, .inr (8, zeN e)), (2, .inr (8, zeN o))]) (st2 := [.inr (8, zeN e)]) rfl ?_
    refine zX.sn 1 (pc2 := 27) (l2 := [(4, .inr (8, zeN e)), (3, .inr (8, zeN o)), (0, .inr (20, v)), (1, .inr (8, zeN e)), (2, .inr (8, zeN o))]) (st2 := []) rfl ?_
    refine zX.sn 1 (pc2 := 28) (l2 := [(4, .inr (8, zeN e)), (3, .inr (8, zeN o)), (0, .inr (20, v)), (1, .inr (8, zeN e)), (2, .inr (8, zeN o))]) (st2 := [.inr (20, v)]) rfl ?_
    refine zX.getf ⟨rfl, rfl⟩ H_20_v rfl rfl ?_
    refine zX.sn 1 (pc2 := 32) (l2 := [(4, .inr (8, zeN e)), (3, .inr (8, zeN o)), (0, .inr (20, v)), (1, .inr (8, zeN e)), (2, .inr (8, zeN o))]) (st2 := [.inr (8, zeN e), zi (v : Int)]) rfl ?_
    refine zX.getf ⟨rfl, rfl⟩ H_8_zeN_e rfl rfl ?_
    refine zX.sn 1 (pc2 := 36) (l2 := [(4, .inr (8, zeN e)), (3, .inr (8, zeN o)), (0, .inr (20, v)), (1, .inr (8, zeN e)), (2, .inr (8, zeN o))]) (st2 := [.inr (8, zeN o), zi (zeK e : Int), zi (v : Int)]) rfl ?_
    refine zX.getf ⟨rfl, rfl⟩ H_8_zeN_o rfl rfl ?_
    refine zX.sn 1 (pc2 := 41) (l2 := [(4, .inr (8, zeN e)), (3, .inr (8, zeN o)), (0, .inr (20, v)), (1, .inr (8, zeN e)), (2, .inr (8, zeN o))]) (st2 := [.inr (8, zeN e), zi (zeT o : Int), zi (zeK e : Int), zi (v : Int)]) rfl ?_
    refine zX.getf ⟨rfl, rfl⟩ H_8_zeN_e rfl rfl ?_
    refine zX.sn 1 (pc2 := 45) (l2 := [(4, .inr (8, zeN e)), (3, .inr (8, zeN o)), (0, .inr (20, v)), (1, .inr (8, zeN e)), (2, .inr (8, zeN o))]) (st2 := [.inr (8, zeN o), zi (zeT e : Int), zi (zeT o : Int), zi (zeK e : Int), zi (v : Int)]) rfl ?_
    refine zX.getf ⟨rfl, rfl⟩ H_8_zeN_o rfl rfl ?_
    refine zX.sn 1 (pc2 := 50) (l2 := [(4, .inr (8, zeN e)), (3, .inr (8, zeN o)), (0, .inr (20, v)), (1, .inr (8, zeN e)), (2, .inr (8, zeN o))]) (st2 := [.inr (8, zeN e), zi (zeV o), zi (zeT e : Int), zi (zeT o : Int), zi (zeK e : Int), zi (v : Int)]) rfl ?_
    refine zX.getf ⟨rfl, rfl⟩ H_8_zeN_e rfl rfl ?_
    refine zX.iadd ⟨rfl, rfl⟩ ?_
    refine zX.call (mid2 := 14) (as := [zi (v : Int), zi (zeK e : Int), zi (zeT o : Int), zi (zeT e : Int), zi (zeV o + zeV e)]) (rest := []) ⟨rfl, rfl⟩ (fun _ => rfl) rfl ⟨Nat.le_of_ble_eq_true rfl, Nat.le_of_ble_eq_true rfl⟩ ?_
    refine s_of  ?_
    show zX _ 3 57 [(4, .inr (8, zeN e)), (3, .inr (8, zeN o)), (0, .inr (20, v)), (1, .inr (8, zeN e)), (2, .inr (8, zeN o))] [.inl (.long (zro (v : Int) (zeK e : Int) (zeT o : Int) (zeT e : Int) (Int32.ofInt (zeV o + zeV e))))] c s _ _
    refine zX.ret rfl rfl ?_
    exact k1 e1
  · refine zX.sn 1 (pc2 := 8) (l2 := [(0, .inr (20, v)), (1, .inr (8, zeN e)), (2, .inr (8, zeN o))]) (st2 := [.inr (8, zeN e)]) rfl ?_
    refine zX.sn 1 (pc2 := 12) (l2 := [(0, .inr (20, v)), (1, .inr (8, zeN e)), (2, .inr (8, zeN o))]) (st2 := [.inr (8, zeN e)]) rfl ?_
    refine zX.sn 1 (pc2 := 13) (l2 := [(3, .inr (8, zeN e)), (0, .inr (20, v)), (1, .inr (8, zeN e)), (2, .inr (8, zeN o))]) (st2 := []) rfl ?_
    refine zX.sn 1 (pc2 := 14) (l2 := [(3, .inr (8, zeN e)), (0, .inr (20, v)), (1, .inr (8, zeN e)), (2, .inr (8, zeN o))]) (st2 := [.inr (8, zeN e)]) rfl ?_
    refine zX.getf ⟨rfl, rfl⟩ H_8_zeN_e rfl rfl ?_
    refine zX.icmp0 (tgt := 24) ⟨rfl, rfl⟩ rfl (by omega) (fun (zz : zbi (zeL e) = 0) => absurd zz (by omega)) (fun (e3 : ¬ zbi (zeL e) = 0) => ?_)
    refine zX.sn 1 (pc2 := 21) (l2 := [(3, .inr (8, zeN e)), (0, .inr (20, v)), (1, .inr (8, zeN e)), (2, .inr (8, zeN o))]) (st2 := [.inr (8, zeN o)]) rfl ?_
    refine zX.sn 1 (pc2 := 25) (l2 := [(3, .inr (8, zeN e)), (0, .inr (20, v)), (1, .inr (8, zeN e)), (2, .inr (8, zeN o))]) (st2 := [.inr (8, zeN o)]) rfl ?_
    refine zX.sn 1 (pc2 := 27) (l2 := [(4, .inr (8, zeN o)), (3, .inr (8, zeN e)), (0, .inr (20, v)), (1, .inr (8, zeN e)), (2, .inr (8, zeN o))]) (st2 := []) rfl ?_
    refine zX.sn 1 (pc2 := 28) (l2 := [(4, .inr (8, zeN o)), (3, .inr (8, zeN e)), (0, .inr (20, v)), (1, .inr (8, zeN e)), (2, .inr (8, zeN o))]) (st2 := [.inr (20, v)]) rfl ?_
    refine zX.getf ⟨rfl, rfl⟩ H_20_v rfl rfl ?_
    refine zX.sn 1 (pc2 := 32) (l2 := [(4, .inr (8, zeN o)), (3, .inr (8, zeN e)), (0, .inr (20, v)), (1, .inr (8, zeN e)), (2, .inr (8, zeN o))]) (st2 := [.inr (8, zeN e), zi (v : Int)]) rfl ?_
    refine zX.getf ⟨rfl, rfl⟩ H_8_zeN_e rfl rfl ?_
    refine zX.sn 1 (pc2 := 36) (l2 := [(4, .inr (8, zeN o)), (3, .inr (8, zeN e)), (0, .inr (20, v)), (1, .inr (8, zeN e)), (2, .inr (8, zeN o))]) (st2 := [.inr (8, zeN e), zi (zeK e : Int), zi (v : Int)]) rfl ?_
    refine zX.getf ⟨rfl, rfl⟩ H_8_zeN_e rfl rfl ?_
    refine zX.sn 1 (pc2 := 41) (l2 := [(4, .inr (8, zeN o)), (3, .inr (8, zeN e)), (0, .inr (20, v)), (1, .inr (8, zeN e)), (2, .inr (8, zeN o))]) (st2 := [.inr (8, zeN o), zi (zeT e : Int), zi (zeK e : Int), zi (v : Int)]) rfl ?_
    refine zX.getf ⟨rfl, rfl⟩ H_8_zeN_o rfl rfl ?_
    refine zX.sn 1 (pc2 := 45) (l2 := [(4, .inr (8, zeN o)), (3, .inr (8, zeN e)), (0, .inr (20, v)), (1, .inr (8, zeN e)), (2, .inr (8, zeN o))]) (st2 := [.inr (8, zeN e), zi (zeT o : Int), zi (zeT e : Int), zi (zeK e : Int), zi (v : Int)]) rfl ?_
    refine zX.getf ⟨rfl, rfl⟩ H_8_zeN_e rfl rfl ?_
    refine zX.sn 1 (pc2 := 50) (l2 := [(4, .inr (8, zeN o)), (3, .inr (8, zeN e)), (0, .inr (20, v)), (1, .inr (8, zeN e)), (2, .inr (8, zeN o))]) (st2 := [.inr (8, zeN o), zi (zeV e), zi (zeT o : Int), zi (zeT e : Int), zi (zeK e : Int), zi (v : Int)]) rfl ?_
    refine zX.getf ⟨rfl, rfl⟩ H_8_zeN_o rfl rfl ?_
    refine zX.iadd ⟨rfl, rfl⟩ ?_
    refine zX.call (mid2 := 14) (as := [zi (v : Int), zi (zeK e : Int), zi (zeT e : Int), zi (zeT o : Int), zi (zeV e + zeV o)]) (rest := []) ⟨rfl, rfl⟩ (fun _ => rfl) rfl ⟨Nat.le_of_ble_eq_true rfl, Nat.le_of_ble_eq_true rfl⟩ ?_
    refine s_of  ?_
    show zX _ 3 57 [(4, .inr (8, zeN o)), (3, .inr (8, zeN e)), (0, .inr (20, v)), (1, .inr (8, zeN e)), (2, .inr (8, zeN o))] [.inl (.long (zro (v : Int) (zeK e : Int) (zeT e : Int) (zeT o : Int) (Int32.ofInt (zeV e + zeV o))))] c s _ _
    refine zX.ret rfl rfl ?_
    exact k2 e1

theorem zbi_inj {a b : Bool} : zbi a = zbi b ↔ a = b := by cases a <;> cases b <;> decide
/-- rows of the two sides that belong together -/
abbrev zPa (sz : Nat) (e o : zE) : Prop := ¬ zeL e = zeL o ∧ zeK e = zeK o ∧ (zeT e : Int) - (zeT o : Int) ≤ (sz : Int) ∧ (zeT o : Int) - (zeT e : Int) ≤ (sz : Int)
theorem s_part {d c s sz : Nat} {h : xH} {Q : xR → Nat → Nat → xH → Prop} {e o : zE} (hs : 1 ≤ sz ∧ sz ≤ 200) (hE : zEr e) (hO : zEr o) (he : zEn h e) (ho : zEn h o) (q0 : ¬ zPa sz e o → Q (.inl (some (zi 0))) c s h) (q1 : zPa sz e o → Q (.inl (some (zi 1))) c s h) : zX d 1 0 [(0, .inr (8, zeN e)), (1, .inr (8, zeN o)), (2, zi (sz : Int))] [] c s h Q := by
  obtain ⟨e1, e2, e3, e4, e5, e6⟩ := id hE
  obtain ⟨o1, o2, o3, o4, o5, o6⟩ := id hO
  refine r_part hs hE e2 e3 e4 e6 e5 (zbi_r _) (zbi_r _) hO o2 o3 o4 o6 o5 (zbi_r _) (zbi_r _) he ho ?_ ?_ ?_ ?_
  all_goals intros
  all_goals first
    | (rename_i a b z; refine q1 ⟨fun y => a (zbi_inj.mpr y), by omega, ?_, ?_⟩ <;> (split at z <;> omega))
    | (rename_i a b z; refine q0 (fun y => ?_); obtain ⟨y1, y2, y3, y4⟩ := y; split at z <;> omega)
    | (rename_i a b; refine q0 (fun y => ?_); obtain ⟨y1, y2, y3, y4⟩ := y; omega)
    | (rename_i a; exact q0 (fun y => y.1 (zbi_inj.mp a)))
/-- a join's result -/
def zjRes (v : Nat) (e o : zE) : Int64 := if zeL e = true then zro (v : Int) (zeK e : Int) (zeT e : Int) (zeT o : Int) (Int32.ofInt (zeV e + zeV o)) else zro (v : Int) (zeK e : Int) (zeT o : Int) (zeT e : Int) (Int32.ofInt (zeV o + zeV e))
theorem zjRes_nz {v : Nat} {e o : zE} : ¬ zjRes v e o = 0 := by
  unfold zjRes
  split
  · exact zro_nz
  · exact zro_nz
theorem s_jres {d c s v sz gr : Nat} {fi : Int} {dr : Int32} {h : xH} {Q : xR → Nat → Nat → xH → Prop} {e o : zE} (hr : zVr v fi sz gr) (hE : zEr e) (hO : zEr o) (hV : zVo h 2 v true fi sz gr dr [.inr (36, v)]) (he : zEn h e) (ho : zEn h o) (q : Q (.inl (some (.inl (.long (zjRes v e o))))) c s h) : zX (d + 1) 3 0 [(0, .inr (20, v)), (1, .inr (8, zeN e)), (2, .inr (8, zeN o))] [] c s h Q := by
  obtain ⟨r1, r2, r3, r4⟩ := id hr
  obtain ⟨e1, e2, e3, e4, e5, e6⟩ := id hE
  obtain ⟨o1, o2, o3, o4, o5, o6⟩ := id hO
  unfold zjRes at q
  refine r_jres hr r1 r3 r4 hE e2 e3 e4 e6 e5 (zbi_r _) (zbi_r _) hO o2 o3 o4 o6 o5 (zbi_r _) (zbi_r _) hV he ho (fun z => ?_) (fun z => ?_)
  · rw [if_neg (by rw [zbi_0.mp z]; decide)] at q
    exact q
  · rw [if_pos (zbi_1.mp z)] at q
    exact q
set_option maxHeartbeats 4000000 in
theorem r_jt0 {d c s : Nat} {h : xH} {Q : xR → Nat → Nat → xH → Prop} {v sz gr : Nat} {fi : Int} {dr : Int32} {e : zE} (hvr : zVr v fi sz gr) (hv : v < 5) (hsz : 1 ≤ sz ∧ sz ≤ 200) (hgr : gr ≤ 200) (hEe : zEr e) (hkye : zeK e < 8) (htme : zeT e < 1000) (hvae : -99 ≤ zeV e ∧ zeV e ≤ 99) (hahe : -1 ≤ zeA e ∧ zeA e < 1000) (hode : zeO e < 240) (hire : 0 ≤ zbi (zeR e) ∧ zbi (zeR e) ≤ 1) (hile : 0 ≤ zbi (zeL e) ∧ zbi (zeL e) ≤ 1) (H_20_v : h (20, v) = some (.inl (2, [zi (v : Int), zi (zbi true), zi fi, zi (sz : Int), zi (gr : Int), .inr (2, 0), .inr (21, v), .inr (23, v), .inr (25, v), .inl (.int dr), .inr (36, v)]))) (H_8_zeN_e : h (8, zeN e) = some (.inl (1, [zi (zeP e : Int), zi (zbi (zeR e)), zi (zbi (zeL e)), zi (zeK e : Int), zi (zeT e : Int), zi (zeV e), zi (zeO e : Int), zi (zeA e), zi (zeB e)])))
    (k1 : (¬ zLate sz gr e) → zX (d + 1) 4 21 [(0, .inr (20, v)), (1, .inr (8, zeN e)), (2, zi 0)] [] c s h Q)
    (k2 : (zLate sz gr e) → ∀ h' : xH, h' (20, v) = some (.inl (2, [zi (v : Int), zi (zbi true), zi fi, zi (sz : Int), zi (gr : Int), .inr (2, 0), .inr (21, v), .inr (23, v), .inr (25, v), .inl (.int (dr + (Int32.ofInt 1))), .inr (36, v)])) → (∀ za zb : Nat, ¬ ((za = 20 ∧ zb = v)) → h' (za, zb) = h (za, zb)) → Q (.inl none) c s h') :
    zX (d + 1) 4 0 [(0, .inr (20, v)), (1, .inr (8, zeN e))] [] c s h Q := by
  refine zX.sn 1 (pc2 := 1) (l2 := [(0, .inr (20, v)), (1, .inr (8, zeN e))]) (st2 := [.inr (20, v)]) rfl ?_
  refine zX.sn 1 (pc2 := 2) (l2 := [(0, .inr (20, v)), (1, .inr (8, zeN e))]) (st2 := [.inr (8, zeN e), .inr (20, v)]) rfl ?_
  refine zX.call (mid2 := 84) (as := [.inr (20, v), .inr (8, zeN e)]) (rest := []) ⟨rfl, rfl⟩ (fun _ => rfl) (zX.inv rfl H_20_v rfl rfl) ⟨Nat.le_of_ble_eq_true rfl, Nat.le_of_ble_eq_true rfl⟩ ?_
  refine s_late (ci := 2) (bs := true) hvr (by omega) hEe (show zVo _ 2 v true fi sz gr _ _ from H_20_v) (show zEn _ e from H_8_zeN_e)  (fun (e1 : ¬ zLate sz gr e) => ?_) (fun (e1 : zLate sz gr e) => ?_)
  · show zX _ 4 5 [(0, .inr (20, v)), (1, .inr (8, zeN e))] [zi 0] c s _ _
    refine zX.icmp0 (tgt := 19) ⟨rfl, rfl⟩ rfl (by omega) (fun (e2 : 0 = 0) => ?_) (fun (zz : ¬ 0 = 0) => absurd zz (by omega))
    refine zX.sn 1 (pc2 := 20) (l2 := [(0, .inr (20, v)), (1, .inr (8, zeN e))]) (st2 := [zi 0]) rfl ?_
    refine zX.sn 1 (pc2 := 21) (l2 := [(2, zi 0), (0, .inr (20, v)), (1, .inr (8, zeN e))]) (st2 := []) rfl ?_
    refine zX.re [(0, .inr (20, v)), (1, .inr (8, zeN e)), (2, zi 0)] [1, 2, 0] [2, 0, 1] rfl rfl (by decide) ?_
    exact k1 e1
  · show zX _ 4 5 [(0, .inr (20, v)), (1, .inr (8, zeN e))] [zi 1] c s _ _
    refine zX.icmp0 (tgt := 19) ⟨rfl, rfl⟩ rfl (by omega) (fun (zz : 1 = 0) => absurd zz (by omega)) (fun (e3 : ¬ 1 = 0) => ?_)
    refine zX.sn 1 (pc2 := 9) (l2 := [(0, .inr (20, v)), (1, .inr (8, zeN e))]) (st2 := [.inr (20, v)]) rfl ?_
    refine zX.sn 1 (pc2 := 10) (l2 := [(0, .inr (20, v)), (1, .inr (8, zeN e))]) (st2 := [.inr (20, v), .inr (20, v)]) rfl ?_
    refine zX.getf ⟨rfl, rfl⟩ H_20_v rfl rfl ?_
    refine zX.sn 1 (pc2 := 14) (l2 := [(0, .inr (20, v)), (1, .inr (8, zeN e))]) (st2 := [zi 1, .inl (.int dr), .inr (20, v)]) rfl ?_
    refine zX.sn 1 (pc2 := 15) (l2 := [(0, .inr (20, v)), (1, .inr (8, zeN e))]) (st2 := [.inl (.int (dr + (Int32.ofInt 1))), .inr (20, v)]) rfl ?_
    refine zX.putf ⟨rfl, rfl⟩ H_20_v rfl (by omega) rfl ?_
    show zX _ 4 18 [(0, .inr (20, v)), (1, .inr (8, zeN e))] [] c s (xup h (20, v) (.inl (2, [zi (v : Int), zi (zbi true), zi fi, zi (sz : Int), zi (gr : Int), .inr (2, 0), .inr (21, v), .inr (23, v), .inr (25, v), .inl (.int (dr + (Int32.ofInt 1))), .inr (36, v)]))) _
    refine zX.ret rfl rfl ?_
    exact k2 e1 _ zup_s (fun za zb hn => (zup_n (zn (by omega)) rfl))

set_option maxHeartbeats 4000000 in
theorem r_jt1 {d c s : Nat} {h : xH} {Q : xR → Nat → Nat → xH → Prop} {v sz gr : Nat} {fi : Int} {dr : Int32} {e o : zE} {cap : Nat} {ks : List (Nat × Nat)} {j N : Nat} {fa : Nat → Int64} {out : List Int64} (hvr : zVr v fi sz gr) (hv : v < 5) (hsz : 1 ≤ sz ∧ sz ≤ 200) (hgr : gr ≤ 200) (hEe : zEr e) (hkye : zeK e < 8) (htme : zeT e < 1000) (hvae : -99 ≤ zeV e ∧ zeV e ≤ 99) (hahe : -1 ≤ zeA e ∧ zeA e < 1000) (hode : zeO e < 240) (hire : 0 ≤ zbi (zeR e) ∧ zbi (zeR e) ≤ 1) (hile : 0 ≤ zbi (zeL e) ∧ zbi (zeL e) ≤ 1) (hEo : zEr o) (hkyo : zeK o < 8) (htmo : zeT o < 1000) (hvao : -99 ≤ zeV o ∧ zeV o ≤ 99) (haho : -1 ≤ zeA o ∧ zeA o < 1000) (hodo : zeO o < 240) (hiro : 0 ≤ zbi (zeR o) ∧ zbi (zeR o) ≤ 1) (hilo : 0 ≤ zbi (zeL o) ∧ zbi (zeL o) ≤ 1) (hj : j < ks.length) (hkl : ks.length ≤ 72) (hx : ks[j]? = some (8, zeN o)) (hz : zcnt fa 12800 < 12800) (ho : out.length + 2 < 200000) (H_20_v : h (20, v) = some (.inl (2, [zi (v : Int), zi (zbi true), zi fi, zi (sz : Int), zi (gr : Int), .inr (2, 0), .inr (21, v), .inr (23, v), .inr (25, v), .inl (.int dr), .inr (36, v)]))) (H_8_zeN_e : h (8, zeN e) = some (.inl (1, [zi (zeP e : Int), zi (zbi (zeR e)), zi (zbi (zeL e)), zi (zeK e : Int), zi (zeT e : Int), zi (zeV e), zi (zeO e : Int), zi (zeA e), zi (zeB e)]))) (H_8_zeN_o : h (8, zeN o) = some (.inl (1, [zi (zeP o : Int), zi (zbi (zeR o)), zi (zbi (zeL o)), zi (zeK o : Int), zi (zeT o : Int), zi (zeV o), zi (zeO o : Int), zi (zeA o), zi (zeB o)]))) (P_kept : zAL h 36 v cap ks) (P_told : zRes h 21 v 12800 fa) (P_out : zOut h N out)
    (k1 : (¬ zPa sz e o) → zX (d + 3) 4 21 [(0, .inr (20, v)), (1, .inr (8, zeN e)), (2, zi ((j : Int) + 1))] [] c s h Q)
    (k2 : (zPa sz e o) → ∀ N4 : Nat, ∀ c4 : Nat, ∀ s4 : Nat, (zCo N c s N4 c4 s4) → ∀ h' : xH, zRes h' 21 v 12800 (zfi fa (zcnt fa 12800) (zjRes v e o)) → zOut h' N4 (out ++ [(zjRes v e o)]) → (∀ za zb : Nat, ¬ ((21 ≤ za ∧ za < 21 + 2 ∧ zb = v) ∨ (2 ≤ za ∧ za < 4)) → h' (za, zb) = h (za, zb)) → zX (d + 3) 4 21 [(0, .inr (20, v)), (1, .inr (8, zeN e)), (2, zi ((j : Int) + 1))] [] c4 s4 h' Q) :
    zX (d + 3) 4 21 [(0, .inr (20, v)), (1, .inr (8, zeN e)), (2, zi (j : Int))] [] c s h Q := by
  refine zX.sn 1 (pc2 := 22) (l2 := [(0, .inr (20, v)), (1, .inr (8, zeN e)), (2, zi (j : Int))]) (st2 := [zi (j : Int)]) rfl ?_
  refine zX.sn 1 (pc2 := 23) (l2 := [(0, .inr (20, v)), (1, .inr (8, zeN e)), (2, zi (j : Int))]) (st2 := [.inr (20, v), zi (j : Int)]) rfl ?_
  refine zX.getf ⟨rfl, rfl⟩ H_20_v rfl rfl ?_
  refine zX.call (mid2 := 150) (as := [.inr (36, v)]) (rest := [zi (j : Int)]) ⟨rfl, rfl⟩ (fun _ => rfl) (zX.invA rfl P_kept rfl rfl) ⟨Nat.le_of_ble_eq_true rfl, Nat.le_of_ble_eq_true rfl⟩ ?_
  refine s_size P_kept ?_
  show zX _ 4 29 [(0, .inr (20, v)), (1, .inr (8, zeN e)), (2, zi (j : Int))] [zi (ks.length : Int), zi (j : Int)] c s _ _
  refine zX.icmp (tgt := 79) ⟨rfl, rfl⟩ rfl (by omega) (by omega) (fun (zz : (ks.length : Int) ≤ (j : Int)) => absurd zz (by omega)) (fun (e1 : (j : Int) < (ks.length : Int)) => ?_)
  refine zX.sn 1 (pc2 := 33) (l2 := [(0, .inr (20, v)), (1, .inr (8, zeN e)), (2, zi (j : Int))]) (st2 := [.inr (20, v)]) rfl ?_
  refine zX.getf ⟨rfl, rfl⟩ H_20_v rfl rfl ?_
  refine zX.sn 1 (pc2 := 37) (l2 := [(0, .inr (20, v)), (1, .inr (8, zeN e)), (2, zi (j : Int))]) (st2 := [zi (j : Int), .inr (36, v)]) rfl ?_
  refine zX.call (mid2 := 153) (as := [.inr (36, v), zi (j : Int)]) (rest := []) ⟨rfl, rfl⟩ (fun _ => rfl) (zX.invA rfl P_kept rfl rfl) ⟨Nat.le_of_ble_eq_true rfl, Nat.le_of_ble_eq_true rfl⟩ ?_
  refine s_get (j := j) (x := (8, zeN o)) rfl (by omega) P_kept hx ?_
  show zX _ 4 40 [(0, .inr (20, v)), (1, .inr (8, zeN e)), (2, zi (j : Int))] [.inr (8, zeN o)] c s _ _
  refine zX.cast ⟨rfl, rfl⟩ H_8_zeN_o rfl ?_
  refine zX.sn 1 (pc2 := 44) (l2 := [(3, .inr (8, zeN o)), (0, .inr (20, v)), (1, .inr (8, zeN e)), (2, zi (j : Int))]) (st2 := []) rfl ?_
  refine zX.sn 1 (pc2 := 45) (l2 := [(3, .inr (8, zeN o)), (0, .inr (20, v)), (1, .inr (8, zeN e)), (2, zi (j : Int))]) (st2 := [.inr (8, zeN e)]) rfl ?_
  refine zX.sn 1 (pc2 := 46) (l2 := [(3, .inr (8, zeN o)), (0, .inr (20, v)), (1, .inr (8, zeN e)), (2, zi (j : Int))]) (st2 := [.inr (8, zeN o), .inr (8, zeN e)]) rfl ?_
  refine zX.sn 1 (pc2 := 47) (l2 := [(3, .inr (8, zeN o)), (0, .inr (20, v)), (1, .inr (8, zeN e)), (2, zi (j : Int))]) (st2 := [.inr (20, v), .inr (8, zeN o), .inr (8, zeN e)]) rfl ?_
  refine zX.getf ⟨rfl, rfl⟩ H_20_v rfl rfl ?_
  refine zX.call (mid2 := 1) (as := [.inr (8, zeN e), .inr (8, zeN o), zi (sz : Int)]) (rest := []) ⟨rfl, rfl⟩ (fun _ => rfl) (zX.inv rfl H_8_zeN_e rfl rfl) ⟨Nat.le_of_ble_eq_true rfl, Nat.le_of_ble_eq_true rfl⟩ ?_
  refine s_part hsz hEe hEo (show zEn _ e from H_8_zeN_e) (show zEn _ o from H_8_zeN_o)  (fun (e2 : ¬ zPa sz e o) => ?_) (fun (e2 : zPa sz e o) => ?_)
  · show zX _ 4 53 [(3, .inr (8, zeN o)), (0, .inr (20, v)), (1, .inr (8, zeN e)), (2, zi (j : Int))] [zi 0] c s _ _
    refine zX.icmp0 (tgt := 73) ⟨rfl, rfl⟩ rfl (by omega) (fun (e3 : 0 = 0) => ?_) (fun (zz : ¬ 0 = 0) => absurd zz (by omega))
    refine zX.s1 (pc2 := 76) (l2 := [(2, zi ((j : Int) + 1)), (3, .inr (8, zeN o)), (0, .inr (20, v)), (1, .inr (8, zeN e))]) (st2 := []) ⟨rfl, rfl⟩ (by rw [show (zi ((j : Int) + 1) : xV) = .inl (.int (Int32.ofInt (j : Int) + 1)) from congrArg (fun z => (.inl (.int z) : xV)) (Int32.ofInt_add _ _)]; rfl) ?_
    refine zX.sn 1 (pc2 := 21) (l2 := [(2, zi ((j : Int) + 1)), (3, .inr (8, zeN o)), (0, .inr (20, v)), (1, .inr (8, zeN e))]) (st2 := []) rfl ?_
    refine zX.re [(0, .inr (20, v)), (1, .inr (8, zeN e)), (2, zi ((j : Int) + 1))] [2, 3, 0] [2, 3, 0, 1] rfl rfl (by decide) ?_
    exact k1 e2
  · show zX _ 4 53 [(3, .inr (8, zeN o)), (0, .inr (20, v)), (1, .inr (8, zeN e)), (2, zi (j : Int))] [zi 1] c s _ _
    refine zX.icmp0 (tgt := 73) ⟨rfl, rfl⟩ rfl (by omega) (fun (zz : 1 = 0) => absurd zz (by omega)) (fun (e4 : ¬ 1 = 0) => ?_)
    refine zX.sn 1 (pc2 := 57) (l2 := [(3, .inr (8, zeN o)), (0, .inr (20, v)), (1, .inr (8, zeN e)), (2, zi (j : Int))]) (st2 := [.inr (20, v)]) rfl ?_
    refine zX.sn 1 (pc2 := 58) (l2 := [(3, .inr (8, zeN o)), (0, .inr (20, v)), (1, .inr (8, zeN e)), (2, zi (j : Int))]) (st2 := [.inr (20, v), .inr (20, v)]) rfl ?_
    refine zX.getf ⟨rfl, rfl⟩ H_20_v rfl rfl ?_
    refine zX.getf ⟨rfl, rfl⟩ (P_told.1) rfl rfl ?_
    refine zX.sn 1 (pc2 := 65) (l2 := [(3, .inr (8, zeN o)), (0, .inr (20, v)), (1, .inr (8, zeN e)), (2, zi (j : Int))]) (st2 := [.inr (20, v), zi (zcnt fa 12800 : Int), .inr (20, v)]) rfl ?_
    refine zX.sn 1 (pc2 := 66) (l2 := [(3, .inr (8, zeN o)), (0, .inr (20, v)), (1, .inr (8, zeN e)), (2, zi (j : Int))]) (st2 := [.inr (8, zeN e), .inr (20, v), zi (zcnt fa 12800 : Int), .inr (20, v)]) rfl ?_
    refine zX.sn 1 (pc2 := 67) (l2 := [(3, .inr (8, zeN o)), (0, .inr (20, v)), (1, .inr (8, zeN e)), (2, zi (j : Int))]) (st2 := [.inr (8, zeN o), .inr (8, zeN e), .inr (20, v), zi (zcnt fa 12800 : Int), .inr (20, v)]) rfl ?_
    refine zX.call (mid2 := 3) (as := [.inr (20, v), .inr (8, zeN e), .inr (8, zeN o)]) (rest := [zi (zcnt fa 12800 : Int), .inr (20, v)]) ⟨rfl, rfl⟩ (fun _ => rfl) (zX.inv rfl H_20_v rfl rfl) ⟨Nat.le_of_ble_eq_true rfl, Nat.le_of_ble_eq_true rfl⟩ ?_
    refine s_jres hvr hEe hEo (show zVo _ 2 v true fi sz gr _ [.inr (36, v)] from H_20_v) (show zEn _ e from H_8_zeN_e) (show zEn _ o from H_8_zeN_o)  ?_
    show zX _ 4 70 [(3, .inr (8, zeN o)), (0, .inr (20, v)), (1, .inr (8, zeN e)), (2, zi (j : Int))] [.inl (.long (zjRes v e o)), zi (zcnt fa 12800 : Int), .inr (20, v)] c s _ _
    refine zX.call (mid2 := 78) (as := [.inr (20, v), zi (zcnt fa 12800 : Int), .inl (.long (zjRes v e o))]) (rest := []) ⟨rfl, rfl⟩ (fun _ => rfl) (zX.inv rfl H_20_v rfl rfl) ⟨Nat.le_of_ble_eq_true rfl, Nat.le_of_ble_eq_true rfl⟩ ?_
    refine s_tell2 (ci := 2) (k := zcnt fa 12800) rfl (by omega) zjRes_nz hvr (by omega) (by omega) (by first | omega | (simp only [List.length_append, List.length_cons, List.length_nil]; omega)) (show zVo _ 2 v true fi sz gr _ _ from H_20_v) P_told P_out  (fun h4 N4 c4 s4 hv4 ho4 hF4 hb4 => ?_)
    show zX _ 4 73 [(3, .inr (8, zeN o)), (0, .inr (20, v)), (1, .inr (8, zeN e)), (2, zi (j : Int))] [] c4 s4 _ _
    refine zX.s1 (pc2 := 76) (l2 := [(2, zi ((j : Int) + 1)), (3, .inr (8, zeN o)), (0, .inr (20, v)), (1, .inr (8, zeN e))]) (st2 := []) ⟨rfl, rfl⟩ (by rw [show (zi ((j : Int) + 1) : xV) = .inl (.int (Int32.ofInt (j : Int) + 1)) from congrArg (fun z => (.inl (.int z) : xV)) (Int32.ofInt_add _ _)]; rfl) ?_
    refine zX.sn 1 (pc2 := 21) (l2 := [(2, zi ((j : Int) + 1)), (3, .inr (8, zeN o)), (0, .inr (20, v)), (1, .inr (8, zeN e))]) (st2 := []) rfl ?_
    refine zX.re [(0, .inr (20, v)), (1, .inr (8, zeN e)), (2, zi ((j : Int) + 1))] [2, 3, 0] [2, 3, 0, 1] rfl rfl (by decide) ?_
    exact k2 e2 N4 c4 s4 hb4 _ hv4 ho4 (fun za zb hn => ((hF4 za zb (by omega)).trans rfl))

set_option maxHeartbeats 4000000 in
theorem r_jt2 {d c s : Nat} {h : xH} {Q : xR → Nat → Nat → xH → Prop} {v sz gr : Nat} {fi : Int} {dr : Int32} {e : zE} {cap : Nat} {ks : List (Nat × Nat)} {j : Nat} {hd : Nat → Int32} (hvr : zVr v fi sz gr) (hv : v < 5) (hsz : 1 ≤ sz ∧ sz ≤ 200) (hgr : gr ≤ 200) (hEe : zEr e) (hkye : zeK e < 8) (htme : zeT e < 1000) (hvae : -99 ≤ zeV e ∧ zeV e ≤ 99) (hahe : -1 ≤ zeA e ∧ zeA e < 1000) (hode : zeO e < 240) (hire : 0 ≤ zbi (zeR e) ∧ zbi (zeR e) ≤ 1) (hile : 0 ≤ zbi (zeL e) ∧ zbi (zeL e) ≤ 1) (hj : j = ks.length) (hkl : ks.length ≤ 72) (hEl : zEl h 36 ks) (H_20_v : h (20, v) = some (.inl (2, [zi (v : Int), zi (zbi true), zi fi, zi (sz : Int), zi (gr : Int), .inr (2, 0), .inr (21, v), .inr (23, v), .inr (25, v), .inl (.int dr), .inr (36, v)]))) (H_8_zeN_e : h (8, zeN e) = some (.inl (1, [zi (zeP e : Int), zi (zbi (zeR e)), zi (zbi (zeL e)), zi (zeK e : Int), zi (zeT e : Int), zi (zeV e), zi (zeO e : Int), zi (zeA e), zi (zeB e)]))) (H_25_v : h (25, v) = some (.inr (0, 8, zI hd))) (P_kept : zAL h 36 v cap ks)
    (k1 : ∀ cq2 : Nat, ∀ c2 : Nat, ∀ s2 : Nat, (cap ≤ cq2 ∧ c2 + cap ≤ c + cq2 ∧ s2 + 4 * cap ≤ s + 4 * cq2) → ∀ h' : xH, h' (25, v) = some (.inr (0, 8, zI (zfi hd (zeK e) (hd (zeK e) + Int32.ofInt 1)))) → zAL h' 36 v cq2 (ks ++ [(8, zeN e)]) → (∀ za zb : Nat, ¬ ((za = 25 ∧ zb = v) ∨ (36 ≤ za ∧ za < 36 + 2 ∧ zb % 8 = v % 8)) → h' (za, zb) = h (za, zb)) → Q (.inl none) c2 s2 h') :
    zX (d + 7) 4 21 [(0, .inr (20, v)), (1, .inr (8, zeN e)), (2, zi (j : Int))] [] c s h Q := by
  refine zX.sn 1 (pc2 := 22) (l2 := [(0, .inr (20, v)), (1, .inr (8, zeN e)), (2, zi (j : Int))]) (st2 := [zi (j : Int)]) rfl ?_
  refine zX.sn 1 (pc2 := 23) (l2 := [(0, .inr (20, v)), (1, .inr (8, zeN e)), (2, zi (j : Int))]) (st2 := [.inr (20, v), zi (j : Int)]) rfl ?_
  refine zX.getf ⟨rfl, rfl⟩ H_20_v rfl rfl ?_
  refine zX.call (mid2 := 150) (as := [.inr (36, v)]) (rest := [zi (j : Int)]) ⟨rfl, rfl⟩ (fun _ => rfl) (zX.invA rfl P_kept rfl rfl) ⟨Nat.le_of_ble_eq_true rfl, Nat.le_of_ble_eq_true rfl⟩ ?_
  refine s_size P_kept ?_
  show zX _ 4 29 [(0, .inr (20, v)), (1, .inr (8, zeN e)), (2, zi (j : Int))] [zi (ks.length : Int), zi (j : Int)] c s _ _
  refine zX.icmp (tgt := 79) ⟨rfl, rfl⟩ rfl (by omega) (by omega) (fun (e1 : (ks.length : Int) ≤ (j : Int)) => ?_) (fun (zz : (j : Int) < (ks.length : Int)) => absurd zz (by omega))
  refine zX.sn 1 (pc2 := 80) (l2 := [(0, .inr (20, v)), (1, .inr (8, zeN e)), (2, zi (j : Int))]) (st2 := [.inr (20, v)]) rfl ?_
  refine zX.getf ⟨rfl, rfl⟩ H_20_v rfl rfl ?_
  refine zX.sn 1 (pc2 := 84) (l2 := [(0, .inr (20, v)), (1, .inr (8, zeN e)), (2, zi (j : Int))]) (st2 := [.inr (8, zeN e), .inr (36, v)]) rfl ?_
  refine zX.call (mid2 := 155) (as := [.inr (36, v), .inr (8, zeN e)]) (rest := []) ⟨rfl, rfl⟩ (fun _ => rfl) (zX.invA rfl P_kept rfl rfl) ⟨Nat.le_of_ble_eq_true rfl, Nat.le_of_ble_eq_true rfl⟩ ?_
  refine s_add (x := (8, zeN e)) (by omega) (by omega) P_kept (by first | assumption | omega) hEl (by first | omega | (dsimp only; omega)) H_8_zeN_e rfl  (fun h2 cq2 c2 s2 hv2 hF2 hb2 => ?_)
  show zX _ 4 87 [(0, .inr (20, v)), (1, .inr (8, zeN e)), (2, zi (j : Int))] [zi 1] c2 s2 _ _
  refine zX.sn 1 (pc2 := 88) (l2 := [(0, .inr (20, v)), (1, .inr (8, zeN e)), (2, zi (j : Int))]) (st2 := []) rfl ?_
  refine zX.sn 1 (pc2 := 89) (l2 := [(0, .inr (20, v)), (1, .inr (8, zeN e)), (2, zi (j : Int))]) (st2 := [.inr (20, v)]) rfl ?_
  refine zX.sn 1 (pc2 := 90) (l2 := [(0, .inr (20, v)), (1, .inr (8, zeN e)), (2, zi (j : Int))]) (st2 := [.inr (8, zeN e), .inr (20, v)]) rfl ?_
  refine zX.getf ⟨rfl, rfl⟩ ((hF2 8 (zeN e) (by omega)).trans H_8_zeN_e) rfl rfl ?_
  refine zX.sn 1 (pc2 := 94) (l2 := [(0, .inr (20, v)), (1, .inr (8, zeN e)), (2, zi (j : Int))]) (st2 := [zi 1, zi (zeK e : Int), .inr (20, v)]) rfl ?_
  refine zX.call (mid2 := 81) (as := [.inr (20, v), zi (zeK e : Int), zi 1]) (rest := []) ⟨rfl, rfl⟩ (fun _ => rfl) (zX.inv rfl ((hF2 20 v (by omega)).trans H_20_v) rfl rfl) ⟨Nat.le_of_ble_eq_true rfl, Nat.le_of_ble_eq_true rfl⟩ ?_
  refine s_hold (ci := 2) (k := zeK e) rfl (by omega) hvr (by omega) (show zVo _ 2 v true fi sz gr _ _ from ((hF2 20 v (by omega)).trans H_20_v)) ((hF2 25 v (by omega)).trans H_25_v) (fun h3 hv3 hF3 => ?_)
  show zX _ 4 97 [(0, .inr (20, v)), (1, .inr (8, zeN e)), (2, zi (j : Int))] [] c2 s2 _ _
  refine zX.ret rfl rfl ?_
  exact k1 cq2 c2 s2 hb2 _ hv3 (zAL.fr hv2 (fun za zb hi => ((hF3 za zb (by omega)).trans rfl))) (fun za zb hn => ((hF3 za zb (by omega)).trans ((hF2 za zb (by omega)).trans rfl)))

set_option maxHeartbeats 4000000 in
theorem r_jg0 {d c s : Nat} {h : xH} {Q : xR → Nat → Nat → xH → Prop} {v sz gr : Nat} {fi : Int} {dr : Int32} {cap : Nat} {ks : List (Nat × Nat)} {b m : Int} (hvr : zVr v fi sz gr) (hv : v < 5) (hsz : 1 ≤ sz ∧ sz ≤ 200) (hgr : gr ≤ 200) (hkl : ks.length ≤ 72) (H_20_v : h (20, v) = some (.inl (2, [zi (v : Int), zi (zbi true), zi fi, zi (sz : Int), zi (gr : Int), .inr (2, 0), .inr (21, v), .inr (23, v), .inr (25, v), .inl (.int dr), .inr (36, v)]))) (P_kept : zAL h 36 v cap ks)
    (k1 : zX (d + 1) 6 10 [(0, .inr (20, v)), (2, zi m), (3, zi ((ks.length : Int) - 1))] [] c s h Q) :
    zX (d + 1) 6 0 [(0, .inr (20, v)), (1, zi b), (2, zi m)] [] c s h Q := by
  refine zX.sn 1 (pc2 := 1) (l2 := [(0, .inr (20, v)), (1, zi b), (2, zi m)]) (st2 := [.inr (20, v)]) rfl ?_
  refine zX.getf ⟨rfl, rfl⟩ H_20_v rfl rfl ?_
  refine zX.call (mid2 := 150) (as := [.inr (36, v)]) (rest := []) ⟨rfl, rfl⟩ (fun _ => rfl) (zX.invA rfl P_kept rfl rfl) ⟨Nat.le_of_ble_eq_true rfl, Nat.le_of_ble_eq_true rfl⟩ ?_
  refine s_size P_kept ?_
  show zX _ 6 7 [(0, .inr (20, v)), (1, zi b), (2, zi m)] [zi (ks.length : Int)] c s _ _
  refine zX.sn 1 (pc2 := 8) (l2 := [(0, .inr (20, v)), (1, zi b), (2, zi m)]) (st2 := [zi 1, zi (ks.length : Int)]) rfl ?_
  refine zX.isub ⟨rfl, rfl⟩ ?_
  refine zX.sn 1 (pc2 := 10) (l2 := [(3, zi ((ks.length : Int) - 1)), (0, .inr (20, v)), (1, zi b), (2, zi m)]) (st2 := []) rfl ?_
  refine zX.re [(0, .inr (20, v)), (2, zi m), (3, zi ((ks.length : Int) - 1))] [1, 3, 0] [3, 0, 1, 2] rfl rfl (by decide) ?_
  exact k1

set_option maxHeartbeats 4000000 in
theorem r_jg2 {d c s : Nat} {h : xH} {Q : xR → Nat → Nat → xH → Prop} {v sz gr : Nat} {fi : Int} {dr : Int32} {m : Int} (hvr : zVr v fi sz gr) (hv : v < 5) (hsz : 1 ≤ sz ∧ sz ≤ 200) (hgr : gr ≤ 200) (H_20_v : h (20, v) = some (.inl (2, [zi (v : Int), zi (zbi true), zi fi, zi (sz : Int), zi (gr : Int), .inr (2, 0), .inr (21, v), .inr (23, v), .inr (25, v), .inl (.int dr), .inr (36, v)])))
    (k1 : Q (.inl none) c s h) :
    zX d 6 10 [(0, .inr (20, v)), (2, zi m), (3, zi (-1))] [] c s h Q := by
  refine zX.sn 1 (pc2 := 11) (l2 := [(0, .inr (20, v)), (2, zi m), (3, zi (-1))]) (st2 := [zi (-1)]) rfl ?_
  refine zX.icmp0 (tgt := 73) ⟨rfl, rfl⟩ rfl (by omega) (fun (e1 : (-1) < 0) => ?_) (fun (zz : 0 ≤ (-1)) => absurd zz (by omega))
  refine zX.ret rfl rfl ?_
  exact k1

set_option maxHeartbeats 4000000 in
theorem r_jg1 {d c s : Nat} {h : xH} {Q : xR → Nat → Nat → xH → Prop} {v sz gr : Nat} {fi : Int} {dr : Int32} {e : zE} {cap : Nat} {ks : List (Nat × Nat)} {m : Int} {j : Nat} {hd : Nat → Int32} (hvr : zVr v fi sz gr) (hv : v < 5) (hsz : 1 ≤ sz ∧ sz ≤ 200) (hgr : gr ≤ 200) (hEe : zEr e) (hkye : zeK e < 8) (htme : zeT e < 1000) (hvae : -99 ≤ zeV e ∧ zeV e ≤ 99) (hahe : -1 ≤ zeA e ∧ zeA e < 1000) (hode : zeO e < 240) (hire : 0 ≤ zbi (zeR e) ∧ zbi (zeR e) ≤ 1) (hile : 0 ≤ zbi (zeL e) ∧ zbi (zeL e) ≤ 1) (hm : -1 ≤ m ∧ m < 1000) (hj : j < ks.length) (hkl : ks.length ≤ 72) (hEl : zEl h 36 ks) (hx : ks[j]? = some (8, zeN e)) (H_20_v : h (20, v) = some (.inl (2, [zi (v : Int), zi (zbi true), zi fi, zi (sz : Int), zi (gr : Int), .inr (2, 0), .inr (21, v), .inr (23, v), .inr (25, v), .inl (.int dr), .inr (36, v)]))) (H_8_zeN_e : h (8, zeN e) = some (.inl (1, [zi (zeP e : Int), zi (zbi (zeR e)), zi (zbi (zeL e)), zi (zeK e : Int), zi (zeT e : Int), zi (zeV e), zi (zeO e : Int), zi (zeA e), zi (zeB e)]))) (H_25_v : h (25, v) = some (.inr (0, 8, zI hd))) (P_kept : zAL h 36 v cap ks)
    (k1 : (m ≤ (((zeT e : Int) + (2 * (sz : Int))) + (gr : Int))) → zX (d + 3) 6 10 [(0, .inr (20, v)), (2, zi m), (3, zi ((j : Int) + (-1)))] [] c s h Q)
    (k2 : ((((zeT e : Int) + (2 * (sz : Int))) + (gr : Int)) < m) → ∀ h' : xH, h' (25, v) = some (.inr (0, 8, zI (zfi hd (zeK e) (hd (zeK e) + Int32.ofInt (-1))))) → zAL h' 36 v cap (ks.eraseIdx j) → (∀ za zb : Nat, ¬ ((za = 25 ∧ zb = v) ∨ (36 ≤ za ∧ za < 36 + 2 ∧ zb % 8 = v % 8)) → h' (za, zb) = h (za, zb)) → zX (d + 3) 6 10 [(0, .inr (20, v)), (2, zi m), (3, zi ((j : Int) + (-1)))] [] c s h' Q) :
    zX (d + 3) 6 10 [(0, .inr (20, v)), (2, zi m), (3, zi (j : Int))] [] c s h Q := by
  refine zX.sn 1 (pc2 := 11) (l2 := [(0, .inr (20, v)), (2, zi m), (3, zi (j : Int))]) (st2 := [zi (j : Int)]) rfl ?_
  refine zX.icmp0 (tgt := 73) ⟨rfl, rfl⟩ rfl (by omega) (fun (zz : (j : Int) < 0) => absurd zz (by omega)) (fun (e1 : 0 ≤ (j : Int)) => ?_)
  refine zX.sn 1 (pc2 := 15) (l2 := [(0, .inr (20, v)), (2, zi m), (3, zi (j : Int))]) (st2 := [.inr (20, v)]) rfl ?_
  refine zX.getf ⟨rfl, rfl⟩ H_20_v rfl rfl ?_
  refine zX.sn 1 (pc2 := 19) (l2 := [(0, .inr (20, v)), (2, zi m), (3, zi (j : Int))]) (st2 := [zi (j : Int), .inr (36, v)]) rfl ?_
  refine zX.call (mid2 := 153) (as := [.inr (36, v), zi (j : Int)]) (rest := []) ⟨rfl, rfl⟩ (fun _ => rfl) (zX.invA rfl P_kept rfl rfl) ⟨Nat.le_of_ble_eq_true rfl, Nat.le_of_ble_eq_true rfl⟩ ?_
  refine s_get (j := j) (x := (8, zeN e)) rfl (by omega) P_kept hx ?_
  show zX _ 6 22 [(0, .inr (20, v)), (2, zi m), (3, zi (j : Int))] [.inr (8, zeN e)] c s _ _
  refine zX.cast ⟨rfl, rfl⟩ H_8_zeN_e rfl ?_
  refine zX.sn 1 (pc2 := 27) (l2 := [(4, .inr (8, zeN e)), (0, .inr (20, v)), (2, zi m), (3, zi (j : Int))]) (st2 := []) rfl ?_
  refine zX.sn 1 (pc2 := 28) (l2 := [(4, .inr (8, zeN e)), (0, .inr (20, v)), (2, zi m), (3, zi (j : Int))]) (st2 := [zi m]) rfl ?_
  refine zX.sn 1 (pc2 := 30) (l2 := [(4, .inr (8, zeN e)), (0, .inr (20, v)), (2, zi m), (3, zi (j : Int))]) (st2 := [.inr (8, zeN e), zi m]) rfl ?_
  refine zX.getf ⟨rfl, rfl⟩ H_8_zeN_e rfl rfl ?_
  refine zX.sn 1 (pc2 := 34) (l2 := [(4, .inr (8, zeN e)), (0, .inr (20, v)), (2, zi m), (3, zi (j : Int))]) (st2 := [zi 2, zi (zeT e : Int), zi m]) rfl ?_
  refine zX.sn 1 (pc2 := 35) (l2 := [(4, .inr (8, zeN e)), (0, .inr (20, v)), (2, zi m), (3, zi (j : Int))]) (st2 := [.inr (20, v), zi 2, zi (zeT e : Int), zi m]) rfl ?_
  refine zX.getf ⟨rfl, rfl⟩ H_20_v rfl rfl ?_
  refine zX.imul ⟨rfl, rfl⟩ ?_
  refine zX.iadd ⟨rfl, rfl⟩ ?_
  refine zX.sn 1 (pc2 := 41) (l2 := [(4, .inr (8, zeN e)), (0, .inr (20, v)), (2, zi m), (3, zi (j : Int))]) (st2 := [.inr (20, v), zi ((zeT e : Int) + (2 * (sz : Int))), zi m]) rfl ?_
  refine zX.getf ⟨rfl, rfl⟩ H_20_v rfl rfl ?_
  refine zX.iadd ⟨rfl, rfl⟩ ?_
  refine zX.icmp (tgt := 67) ⟨rfl, rfl⟩ rfl (by omega) (by omega) (fun (e2 : m ≤ (((zeT e : Int) + (2 * (sz : Int))) + (gr : Int))) => ?_) (fun (e2 : (((zeT e : Int) + (2 * (sz : Int))) + (gr : Int)) < m) => ?_)
  · refine zX.s1 (pc2 := 70) (l2 := [(3, zi ((j : Int) + (-1))), (4, .inr (8, zeN e)), (0, .inr (20, v)), (2, zi m)]) (st2 := []) ⟨rfl, rfl⟩ (by rw [show (zi ((j : Int) + (-1)) : xV) = .inl (.int (Int32.ofInt (j : Int) + (-1))) from congrArg (fun z => (.inl (.int z) : xV)) (Int32.ofInt_add _ _)]; rfl) ?_
    refine zX.sn 1 (pc2 := 10) (l2 := [(3, zi ((j : Int) + (-1))), (4, .inr (8, zeN e)), (0, .inr (20, v)), (2, zi m)]) (st2 := []) rfl ?_
    refine zX.re [(0, .inr (20, v)), (2, zi m), (3, zi ((j : Int) + (-1)))] [2, 3, 0] [3, 4, 0, 2] rfl rfl (by decide) ?_
    exact k1 e2
  · refine zX.sn 1 (pc2 := 49) (l2 := [(4, .inr (8, zeN e)), (0, .inr (20, v)), (2, zi m), (3, zi (j : Int))]) (st2 := [.inr (20, v)]) rfl ?_
    refine zX.getf ⟨rfl, rfl⟩ H_20_v rfl rfl ?_
    refine zX.sn 1 (pc2 := 53) (l2 := [(4, .inr (8, zeN e)), (0, .inr (20, v)), (2, zi m), (3, zi (j : Int))]) (st2 := [zi (j : Int), .inr (36, v)]) rfl ?_
    refine zX.call (mid2 := 156) (as := [.inr (36, v), zi (j : Int)]) (rest := []) ⟨rfl, rfl⟩ (fun _ => rfl) (zX.invA rfl P_kept rfl rfl) ⟨Nat.le_of_ble_eq_true rfl, Nat.le_of_ble_eq_true rfl⟩ ?_
    refine s_rem (j := j) (x := (8, zeN e)) rfl (by omega) (by omega) P_kept hEl hx  (fun h2 hv2 hF2 => ?_)
    show zX _ 6 56 [(4, .inr (8, zeN e)), (0, .inr (20, v)), (2, zi m), (3, zi (j : Int))] [.inr (8, zeN e)] c s _ _
    refine zX.sn 1 (pc2 := 57) (l2 := [(4, .inr (8, zeN e)), (0, .inr (20, v)), (2, zi m), (3, zi (j : Int))]) (st2 := []) rfl ?_
    refine zX.sn 1 (pc2 := 58) (l2 := [(4, .inr (8, zeN e)), (0, .inr (20, v)), (2, zi m), (3, zi (j : Int))]) (st2 := [.inr (20, v)]) rfl ?_
    refine zX.sn 1 (pc2 := 60) (l2 := [(4, .inr (8, zeN e)), (0, .inr (20, v)), (2, zi m), (3, zi (j : Int))]) (st2 := [.inr (8, zeN e), .inr (20, v)]) rfl ?_
    refine zX.getf ⟨rfl, rfl⟩ ((hF2 8 (zeN e) (by omega)).trans H_8_zeN_e) rfl rfl ?_
    refine zX.sn 1 (pc2 := 64) (l2 := [(4, .inr (8, zeN e)), (0, .inr (20, v)), (2, zi m), (3, zi (j : Int))]) (st2 := [zi (-1), zi (zeK e : Int), .inr (20, v)]) rfl ?_
    refine zX.call (mid2 := 81) (as := [.inr (20, v), zi (zeK e : Int), zi (-1)]) (rest := []) ⟨rfl, rfl⟩ (fun _ => rfl) (zX.inv rfl ((hF2 20 v (by omega)).trans H_20_v) rfl rfl) ⟨Nat.le_of_ble_eq_true rfl, Nat.le_of_ble_eq_true rfl⟩ ?_
    refine s_hold (ci := 2) (k := zeK e) rfl (by omega) hvr (by omega) (show zVo _ 2 v true fi sz gr _ _ from ((hF2 20 v (by omega)).trans H_20_v)) ((hF2 25 v (by omega)).trans H_25_v) (fun h3 hv3 hF3 => ?_)
    show zX _ 6 67 [(4, .inr (8, zeN e)), (0, .inr (20, v)), (2, zi m), (3, zi (j : Int))] [] c s _ _
    refine zX.s1 (pc2 := 70) (l2 := [(3, zi ((j : Int) + (-1))), (4, .inr (8, zeN e)), (0, .inr (20, v)), (2, zi m)]) (st2 := []) ⟨rfl, rfl⟩ (by rw [show (zi ((j : Int) + (-1)) : xV) = .inl (.int (Int32.ofInt (j : Int) + (-1))) from congrArg (fun z => (.inl (.int z) : xV)) (Int32.ofInt_add _ _)]; rfl) ?_
    refine zX.sn 1 (pc2 := 10) (l2 := [(3, zi ((j : Int) + (-1))), (4, .inr (8, zeN e)), (0, .inr (20, v)), (2, zi m)]) (st2 := []) rfl ?_
    refine zX.re [(0, .inr (20, v)), (2, zi m), (3, zi ((j : Int) + (-1)))] [2, 3, 0] [3, 4, 0, 2] rfl rfl (by decide) ?_
    exact k2 e2 _ hv3 (zAL.fr hv2 (fun za zb hi => ((hF3 za zb (by omega)).trans rfl))) (fun za zb hn => ((hF3 za zb (by omega)).trans ((hF2 za zb (by omega)).trans rfl)))

set_option maxHeartbeats 4000000 in
theorem r_ja0 {d c s : Nat} {h : xH} {Q : xR → Nat → Nat → xH → Prop} {v sz gr : Nat} {fi : Int} {dr : Int32} {e : zE} {cap : Nat} {xs : List (Nat × Nat)} {b : Nat} (hvr : zVr v fi sz gr) (hv : v < 5) (hsz : 1 ≤ sz ∧ sz ≤ 200) (hgr : gr ≤ 200) (H_20_v : h (20, v) = some (.inl (2, [zi (v : Int), zi (zbi true), zi fi, zi (sz : Int), zi (gr : Int), .inr (2, 0), .inr (21, v), .inr (23, v), .inr (25, v), .inl (.int dr), .inr (36, v)])))
    (k1 : zX d 8 3 [(0, .inr (20, v)), (1, .inr (15, 0)), (2, zi (b : Int)), (3, .inr (8, zeN e)), (4, zi 0)] [] c s h Q) :
    zX d 8 0 [(0, .inr (20, v)), (1, .inr (15, 0)), (2, zi (b : Int)), (3, .inr (8, zeN e))] [] c s h Q := by
  refine zX.sn 1 (pc2 := 1) (l2 := [(0, .inr (20, v)), (1, .inr (15, 0)), (2, zi (b : Int)), (3, .inr (8, zeN e))]) (st2 := [zi 0]) rfl ?_
  refine zX.sn 1 (pc2 := 3) (l2 := [(4, zi 0), (0, .inr (20, v)), (1, .inr (15, 0)), (2, zi (b : Int)), (3, .inr (8, zeN e))]) (st2 := []) rfl ?_
  refine zX.re [(0, .inr (20, v)), (1, .inr (15, 0)), (2, zi (b : Int)), (3, .inr (8, zeN e)), (4, zi 0)] [1, 2, 3, 4, 0] [4, 0, 1, 2, 3] rfl rfl (by decide) ?_
  exact k1

set_option maxHeartbeats 4000000 in
theorem r_ja2 {d c s : Nat} {h : xH} {Q : xR → Nat → Nat → xH → Prop} {v sz gr : Nat} {fi : Int} {dr : Int32} {e : zE} {b j : Nat} (hvr : zVr v fi sz gr) (hv : v < 5) (hsz : 1 ≤ sz ∧ sz ≤ 200) (hgr : gr ≤ 200) (hj : j = b) (hb : b ≤ 240) (H_20_v : h (20, v) = some (.inl (2, [zi (v : Int), zi (zbi true), zi fi, zi (sz : Int), zi (gr : Int), .inr (2, 0), .inr (21, v), .inr (23, v), .inr (25, v), .inl (.int dr), .inr (36, v)])))
    (k1 : Q (.inl none) c s h) :
    zX d 8 3 [(0, .inr (20, v)), (1, .inr (15, 0)), (2, zi (b : Int)), (3, .inr (8, zeN e)), (4, zi (j : Int))] [] c s h Q := by
  refine zX.sn 1 (pc2 := 5) (l2 := [(0, .inr (20, v)), (1, .inr (15, 0)), (2, zi (b : Int)), (3, .inr (8, zeN e)), (4, zi (j : Int))]) (st2 := [zi (j : Int)]) rfl ?_
  refine zX.sn 1 (pc2 := 6) (l2 := [(0, .inr (20, v)), (1, .inr (15, 0)), (2, zi (b : Int)), (3, .inr (8, zeN e)), (4, zi (j : Int))]) (st2 := [zi (b : Int), zi (j : Int)]) rfl ?_
  refine zX.icmp (tgt := 87) ⟨rfl, rfl⟩ rfl (by omega) (by omega) (fun (e1 : (b : Int) ≤ (j : Int)) => ?_) (fun (zz : (j : Int) < (b : Int)) => absurd zz (by omega))
  refine zX.ret rfl rfl ?_
  exact k1

set_option maxHeartbeats 4000000 in
theorem r_ja1 {d c s : Nat} {h : xH} {Q : xR → Nat → Nat → xH → Prop} {v sz gr : Nat} {fi : Int} {dr : Int32} {e o : zE} {cap : Nat} {xs : List (Nat × Nat)} {b j : Nat} {fb : Nat → Int64} (hvr : zVr v fi sz gr) (hv : v < 5) (hsz : 1 ≤ sz ∧ sz ≤ 200) (hgr : gr ≤ 200) (hEe : zEr e) (hkye : zeK e < 8) (htme : zeT e < 1000) (hvae : -99 ≤ zeV e ∧ zeV e ≤ 99) (hahe : -1 ≤ zeA e ∧ zeA e < 1000) (hode : zeO e < 240) (hire : 0 ≤ zbi (zeR e) ∧ zbi (zeR e) ≤ 1) (hile : 0 ≤ zbi (zeL e) ∧ zbi (zeL e) ≤ 1) (hEo : zEr o) (hkyo : zeK o < 8) (htmo : zeT o < 1000) (hvao : -99 ≤ zeV o ∧ zeV o ≤ 99) (haho : -1 ≤ zeA o ∧ zeA o < 1000) (hodo : zeO o < 240) (hiro : 0 ≤ zbi (zeR o) ∧ zbi (zeR o) ≤ 1) (hilo : 0 ≤ zbi (zeL o) ∧ zbi (zeL o) ≤ 1) (hj : j < b) (hb : b < xs.length) (hxl : xs.length ≤ 240) (hx : xs[j]? = some (8, zeN o)) (hz : zcnt fb 12800 < 12800) (H_20_v : h (20, v) = some (.inl (2, [zi (v : Int), zi (zbi true), zi fi, zi (sz : Int), zi (gr : Int), .inr (2, 0), .inr (21, v), .inr (23, v), .inr (25, v), .inl (.int dr), .inr (36, v)]))) (H_8_zeN_e : h (8, zeN e) = some (.inl (1, [zi (zeP e : Int), zi (zbi (zeR e)), zi (zbi (zeL e)), zi (zeK e : Int), zi (zeT e : Int), zi (zeV e), zi (zeO e : Int), zi (zeA e), zi (zeB e)]))) (H_8_zeN_o : h (8, zeN o) = some (.inl (1, [zi (zeP o : Int), zi (zbi (zeR o)), zi (zbi (zeL o)), zi (zeK o : Int), zi (zeT o : Int), zi (zeV o), zi (zeO o : Int), zi (zeA o), zi (zeB o)]))) (P_jr : zAL h 15 0 cap xs) (P_found : zRes h 23 v 12800 fb)
    (k1 : (¬ zPa sz e o) → zX (d + 3) 8 3 [(0, .inr (20, v)), (1, .inr (15, 0)), (2, zi (b : Int)), (3, .inr (8, zeN e)), (4, zi ((j : Int) + 1))] [] c s h Q)
    (k2 : (zPa sz e o) → (zLet true fi o = false) → zX (d + 3) 8 3 [(0, .inr (20, v)), (1, .inr (15, 0)), (2, zi (b : Int)), (3, .inr (8, zeN e)), (4, zi ((j : Int) + 1))] [] c s h Q)
    (k3 : (zPa sz e o) → (zLet true fi o = true) → (¬ zLate sz gr o) → ∀ h' : xH, zRes h' 23 v 12800 (zfi fb (zcnt fb 12800) (zjRes v e o)) → (∀ za zb : Nat, ¬ ((23 ≤ za ∧ za < 23 + 2 ∧ zb = v)) → h' (za, zb) = h (za, zb)) → zX (d + 3) 8 3 [(0, .inr (20, v)), (1, .inr (15, 0)), (2, zi (b : Int)), (3, .inr (8, zeN e)), (4, zi ((j : Int) + 1))] [] c s h' Q)
    (k4 : (zPa sz e o) → (zLet true fi o = true) → (zLate sz gr o) → zX (d + 3) 8 3 [(0, .inr (20, v)), (1, .inr (15, 0)), (2, zi (b : Int)), (3, .inr (8, zeN e)), (4, zi ((j : Int) + 1))] [] c s h Q) :
    zX (d + 3) 8 3 [(0, .inr (20, v)), (1, .inr (15, 0)), (2, zi (b : Int)), (3, .inr (8, zeN e)), (4, zi (j : Int))] [] c s h Q := by
  refine zX.sn 1 (pc2 := 5) (l2 := [(0, .inr (20, v)), (1, .inr (15, 0)), (2, zi (b : Int)), (3, .inr (8, zeN e)), (4, zi (j : Int))]) (st2 := [zi (j : Int)]) rfl ?_
  refine zX.sn 1 (pc2 := 6) (l2 := [(0, .inr (20, v)), (1, .inr (15, 0)), (2, zi (b : Int)), (3, .inr (8, zeN e)), (4, zi (j : Int))]) (st2 := [zi (b : Int), zi (j : Int)]) rfl ?_
  refine zX.icmp (tgt := 87) ⟨rfl, rfl⟩ rfl (by omega) (by omega) (fun (zz : (b : Int) ≤ (j : Int)) => absurd zz (by omega)) (fun (e1 : (j : Int) < (b : Int)) => ?_)
  refine zX.sn 1 (pc2 := 11) (l2 := [(0, .inr (20, v)), (1, .inr (15, 0)), (2, zi (b : Int)), (3, .inr (8, zeN e)), (4, zi (j : Int))]) (st2 := [zi (j : Int)]) rfl ?_
  refine zX.sn 1 (pc2 := 12) (l2 := [(0, .inr (20, v)), (1, .inr (15, 0)), (2, zi (b : Int)), (3, .inr (8, zeN e)), (4, zi (j : Int))]) (st2 := [.inr (15, 0), zi (j : Int)]) rfl ?_
  refine zX.call (mid2 := 150) (as := [.inr (15, 0)]) (rest := [zi (j : Int)]) ⟨rfl, rfl⟩ (fun _ => rfl) (zX.invA rfl P_jr rfl rfl) ⟨Nat.le_of_ble_eq_true rfl, Nat.le_of_ble_eq_true rfl⟩ ?_
  refine s_size P_jr ?_
  show zX _ 8 15 [(0, .inr (20, v)), (1, .inr (15, 0)), (2, zi (b : Int)), (3, .inr (8, zeN e)), (4, zi (j : Int))] [zi (xs.length : Int), zi (j : Int)] c s _ _
  refine zX.icmp (tgt := 87) ⟨rfl, rfl⟩ rfl (by omega) (by omega) (fun (zz : (xs.length : Int) ≤ (j : Int)) => absurd zz (by omega)) (fun (e2 : (j : Int) < (xs.length : Int)) => ?_)
  refine zX.sn 1 (pc2 := 19) (l2 := [(0, .inr (20, v)), (1, .inr (15, 0)), (2, zi (b : Int)), (3, .inr (8, zeN e)), (4, zi (j : Int))]) (st2 := [.inr (15, 0)]) rfl ?_
  refine zX.sn 1 (pc2 := 21) (l2 := [(0, .inr (20, v)), (1, .inr (15, 0)), (2, zi (b : Int)), (3, .inr (8, zeN e)), (4, zi (j : Int))]) (st2 := [zi (j : Int), .inr (15, 0)]) rfl ?_
  refine zX.call (mid2 := 153) (as := [.inr (15, 0), zi (j : Int)]) (rest := []) ⟨rfl, rfl⟩ (fun _ => rfl) (zX.invA rfl P_jr rfl rfl) ⟨Nat.le_of_ble_eq_true rfl, Nat.le_of_ble_eq_true rfl⟩ ?_
  refine s_get (j := j) (x := (8, zeN o)) rfl (by omega) P_jr hx ?_
  show zX _ 8 24 [(0, .inr (20, v)), (1, .inr (15, 0)), (2, zi (b : Int)), (3, .inr (8, zeN e)), (4, zi (j : Int))] [.inr (8, zeN o)] c s _ _
  refine zX.cast ⟨rfl, rfl⟩ H_8_zeN_o rfl ?_
  refine zX.sn 1 (pc2 := 29) (l2 := [(5, .inr (8, zeN o)), (0, .inr (20, v)), (1, .inr (15, 0)), (2, zi (b : Int)), (3, .inr (8, zeN e)), (4, zi (j : Int))]) (st2 := []) rfl ?_
  refine zX.sn 1 (pc2 := 30) (l2 := [(5, .inr (8, zeN o)), (0, .inr (20, v)), (1, .inr (15, 0)), (2, zi (b : Int)), (3, .inr (8, zeN e)), (4, zi (j : Int))]) (st2 := [.inr (8, zeN e)]) rfl ?_
  refine zX.sn 1 (pc2 := 32) (l2 := [(5, .inr (8, zeN o)), (0, .inr (20, v)), (1, .inr (15, 0)), (2, zi (b : Int)), (3, .inr (8, zeN e)), (4, zi (j : Int))]) (st2 := [.inr (8, zeN o), .inr (8, zeN e)]) rfl ?_
  refine zX.sn 1 (pc2 := 33) (l2 := [(5, .inr (8, zeN o)), (0, .inr (20, v)), (1, .inr (15, 0)), (2, zi (b : Int)), (3, .inr (8, zeN e)), (4, zi (j : Int))]) (st2 := [.inr (20, v), .inr (8, zeN o), .inr (8, zeN e)]) rfl ?_
  refine zX.getf ⟨rfl, rfl⟩ H_20_v rfl rfl ?_
  refine zX.call (mid2 := 1) (as := [.inr (8, zeN e), .inr (8, zeN o), zi (sz : Int)]) (rest := []) ⟨rfl, rfl⟩ (fun _ => rfl) (zX.inv rfl H_8_zeN_e rfl rfl) ⟨Nat.le_of_ble_eq_true rfl, Nat.le_of_ble_eq_true rfl⟩ ?_
  refine s_part hsz hEe hEo (show zEn _ e from H_8_zeN_e) (show zEn _ o from H_8_zeN_o)  (fun (e3 : ¬ zPa sz e o) => ?_) (fun (e3 : zPa sz e o) => ?_)
  · show zX _ 8 39 [(5, .inr (8, zeN o)), (0, .inr (20, v)), (1, .inr (15, 0)), (2, zi (b : Int)), (3, .inr (8, zeN e)), (4, zi (j : Int))] [zi 0] c s _ _
    refine zX.icmp0 (tgt := 81) ⟨rfl, rfl⟩ rfl (by omega) (fun (e4 : 0 = 0) => ?_) (fun (zz : ¬ 0 = 0) => absurd zz (by omega))
    refine zX.s1 (pc2 := 84) (l2 := [(4, zi ((j : Int) + 1)), (5, .inr (8, zeN o)), (0, .inr (20, v)), (1, .inr (15, 0)), (2, zi (b : Int)), (3, .inr (8, zeN e))]) (st2 := []) ⟨rfl, rfl⟩ (by rw [show (zi ((j : Int) + 1) : xV) = .inl (.int (Int32.ofInt (j : Int) + 1)) from congrArg (fun z => (.inl (.int z) : xV)) (Int32.ofInt_add _ _)]; rfl) ?_
    refine zX.sn 1 (pc2 := 3) (l2 := [(4, zi ((j : Int) + 1)), (5, .inr (8, zeN o)), (0, .inr (20, v)), (1, .inr (15, 0)), (2, zi (b : Int)), (3, .inr (8, zeN e))]) (st2 := []) rfl ?_
    refine zX.re [(0, .inr (20, v)), (1, .inr (15, 0)), (2, zi (b : Int)), (3, .inr (8, zeN e)), (4, zi ((j : Int) + 1))] [2, 3, 4, 5, 0] [4, 5, 0, 1, 2, 3] rfl rfl (by decide) ?_
    exact k1 e3
  · show zX _ 8 39 [(5, .inr (8, zeN o)), (0, .inr (20, v)), (1, .inr (15, 0)), (2, zi (b : Int)), (3, .inr (8, zeN e)), (4, zi (j : Int))] [zi 1] c s _ _
    refine zX.icmp0 (tgt := 81) ⟨rfl, rfl⟩ rfl (by omega) (fun (zz : 1 = 0) => absurd zz (by omega)) (fun (e5 : ¬ 1 = 0) => ?_)
    refine zX.sn 1 (pc2 := 43) (l2 := [(5, .inr (8, zeN o)), (0, .inr (20, v)), (1, .inr (15, 0)), (2, zi (b : Int)), (3, .inr (8, zeN e)), (4, zi (j : Int))]) (st2 := [.inr (20, v)]) rfl ?_
    refine zX.sn 1 (pc2 := 45) (l2 := [(5, .inr (8, zeN o)), (0, .inr (20, v)), (1, .inr (15, 0)), (2, zi (b : Int)), (3, .inr (8, zeN e)), (4, zi (j : Int))]) (st2 := [.inr (8, zeN o), .inr (20, v)]) rfl ?_
    refine zX.call (mid2 := 75) (as := [.inr (20, v), .inr (8, zeN o)]) (rest := []) ⟨rfl, rfl⟩ (fun _ => rfl) (zX.inv rfl H_20_v rfl rfl) ⟨Nat.le_of_ble_eq_true rfl, Nat.le_of_ble_eq_true rfl⟩ ?_
    refine s_lets (ci := 2) (bs := true) hvr (by omega) hEo (show zVo _ 2 v true fi sz gr _ _ from H_20_v) (show zEn _ o from H_8_zeN_o)  (fun (e6 : zLet true fi o = false) => ?_) (fun (e6 : zLet true fi o = true) => ?_)
    · show zX _ 8 48 [(5, .inr (8, zeN o)), (0, .inr (20, v)), (1, .inr (15, 0)), (2, zi (b : Int)), (3, .inr (8, zeN e)), (4, zi (j : Int))] [zi 0] c s _ _
      refine zX.icmp0 (tgt := 81) ⟨rfl, rfl⟩ rfl (by omega) (fun (e7 : 0 = 0) => ?_) (fun (zz : ¬ 0 = 0) => absurd zz (by omega))
      refine zX.s1 (pc2 := 84) (l2 := [(4, zi ((j : Int) + 1)), (5, .inr (8, zeN o)), (0, .inr (20, v)), (1, .inr (15, 0)), (2, zi (b : Int)), (3, .inr (8, zeN e))]) (st2 := []) ⟨rfl, rfl⟩ (by rw [show (zi ((j : Int) + 1) : xV) = .inl (.int (Int32.ofInt (j : Int) + 1)) from congrArg (fun z => (.inl (.int z) : xV)) (Int32.ofInt_add _ _)]; rfl) ?_
      refine zX.sn 1 (pc2 := 3) (l2 := [(4, zi ((j : Int) + 1)), (5, .inr (8, zeN o)), (0, .inr (20, v)), (1, .inr (15, 0)), (2, zi (b : Int)), (3, .inr (8, zeN e))]) (st2 := []) rfl ?_
      refine zX.re [(0, .inr (20, v)), (1, .inr (15, 0)), (2, zi (b : Int)), (3, .inr (8, zeN e)), (4, zi ((j : Int) + 1))] [2, 3, 4, 5, 0] [4, 5, 0, 1, 2, 3] rfl rfl (by decide) ?_
      exact k2 e3 e6
    · show zX _ 8 48 [(5, .inr (8, zeN o)), (0, .inr (20, v)), (1, .inr (15, 0)), (2, zi (b : Int)), (3, .inr (8, zeN e)), (4, zi (j : Int))] [zi 1] c s _ _
      refine zX.icmp0 (tgt := 81) ⟨rfl, rfl⟩ rfl (by omega) (fun (zz : 1 = 0) => absurd zz (by omega)) (fun (e8 : ¬ 1 = 0) => ?_)
      refine zX.sn 1 (pc2 := 52) (l2 := [(5, .inr (8, zeN o)), (0, .inr (20, v)), (1, .inr (15, 0)), (2, zi (b : Int)), (3, .inr (8, zeN e)), (4, zi (j : Int))]) (st2 := [.inr (20, v)]) rfl ?_
      refine zX.sn 1 (pc2 := 54) (l2 := [(5, .inr (8, zeN o)), (0, .inr (20, v)), (1, .inr (15, 0)), (2, zi (b : Int)), (3, .inr (8, zeN e)), (4, zi (j : Int))]) (st2 := [.inr (8, zeN o), .inr (20, v)]) rfl ?_
      refine zX.call (mid2 := 84) (as := [.inr (20, v), .inr (8, zeN o)]) (rest := []) ⟨rfl, rfl⟩ (fun _ => rfl) (zX.inv rfl H_20_v rfl rfl) ⟨Nat.le_of_ble_eq_true rfl, Nat.le_of_ble_eq_true rfl⟩ ?_
      refine s_late (ci := 2) (bs := true) hvr (by omega) hEo (show zVo _ 2 v true fi sz gr _ _ from H_20_v) (show zEn _ o from H_8_zeN_o)  (fun (e9 : ¬ zLate sz gr o) => ?_) (fun (e9 : zLate sz gr o) => ?_)
      · show zX _ 8 57 [(5, .inr (8, zeN o)), (0, .inr (20, v)), (1, .inr (15, 0)), (2, zi (b : Int)), (3, .inr (8, zeN e)), (4, zi (j : Int))] [zi 0] c s _ _
        refine zX.icmp0 (tgt := 81) ⟨rfl, rfl⟩ rfl (by omega) (fun (zz : ¬ 0 = 0) => absurd zz (by omega)) (fun (e10 : 0 = 0) => ?_)
        refine zX.sn 1 (pc2 := 61) (l2 := [(5, .inr (8, zeN o)), (0, .inr (20, v)), (1, .inr (15, 0)), (2, zi (b : Int)), (3, .inr (8, zeN e)), (4, zi (j : Int))]) (st2 := [.inr (20, v)]) rfl ?_
        refine zX.getf ⟨rfl, rfl⟩ H_20_v rfl rfl ?_
        refine zX.sn 1 (pc2 := 65) (l2 := [(5, .inr (8, zeN o)), (0, .inr (20, v)), (1, .inr (15, 0)), (2, zi (b : Int)), (3, .inr (8, zeN e)), (4, zi (j : Int))]) (st2 := [.inr (20, v), .inr (23, v)]) rfl ?_
        refine zX.getf ⟨rfl, rfl⟩ H_20_v rfl rfl ?_
        refine zX.getf ⟨rfl, rfl⟩ (P_found.1) rfl rfl ?_
        refine zX.sn 1 (pc2 := 72) (l2 := [(5, .inr (8, zeN o)), (0, .inr (20, v)), (1, .inr (15, 0)), (2, zi (b : Int)), (3, .inr (8, zeN e)), (4, zi (j : Int))]) (st2 := [.inr (20, v), zi (zcnt fb 12800 : Int), .inr (23, v)]) rfl ?_
        refine zX.sn 1 (pc2 := 73) (l2 := [(5, .inr (8, zeN o)), (0, .inr (20, v)), (1, .inr (15, 0)), (2, zi (b : Int)), (3, .inr (8, zeN e)), (4, zi (j : Int))]) (st2 := [.inr (8, zeN e), .inr (20, v), zi (zcnt fb 12800 : Int), .inr (23, v)]) rfl ?_
        refine zX.sn 1 (pc2 := 75) (l2 := [(5, .inr (8, zeN o)), (0, .inr (20, v)), (1, .inr (15, 0)), (2, zi (b : Int)), (3, .inr (8, zeN e)), (4, zi (j : Int))]) (st2 := [.inr (8, zeN o), .inr (8, zeN e), .inr (20, v), zi (zcnt fb 12800 : Int), .inr (23, v)]) rfl ?_
        refine zX.call (mid2 := 3) (as := [.inr (20, v), .inr (8, zeN e), .inr (8, zeN o)]) (rest := [zi (zcnt fb 12800 : Int), .inr (23, v)]) ⟨rfl, rfl⟩ (fun _ => rfl) (zX.inv rfl H_20_v rfl rfl) ⟨Nat.le_of_ble_eq_true rfl, Nat.le_of_ble_eq_true rfl⟩ ?_
        refine s_jres hvr hEe hEo (show zVo _ 2 v true fi sz gr _ [.inr (36, v)] from H_20_v) (show zEn _ e from H_8_zeN_e) (show zEn _ o from H_8_zeN_o)  ?_
        show zX _ 8 78 [(5, .inr (8, zeN o)), (0, .inr (20, v)), (1, .inr (15, 0)), (2, zi (b : Int)), (3, .inr (8, zeN e)), (4, zi (j : Int))] [.inl (.long (zjRes v e o)), zi (zcnt fb 12800 : Int), .inr (23, v)] c s _ _
        refine zX.call (mid2 := 24) (as := [.inr (23, v), zi (zcnt fb 12800 : Int), .inl (.long (zjRes v e o))]) (rest := []) ⟨rfl, rfl⟩ (fun _ => rfl) (zX.inv rfl (P_found.1) rfl rfl) ⟨Nat.le_of_ble_eq_true rfl, Nat.le_of_ble_eq_true rfl⟩ ?_
        refine s_put (k := zcnt fb 12800) rfl (by omega) (by omega) (by omega) zjRes_nz P_found (fun h4 hv4 hF4 => ?_)
        show zX _ 8 81 [(5, .inr (8, zeN o)), (0, .inr (20, v)), (1, .inr (15, 0)), (2, zi (b : Int)), (3, .inr (8, zeN e)), (4, zi (j : Int))] [] c s _ _
        refine zX.s1 (pc2 := 84) (l2 := [(4, zi ((j : Int) + 1)), (5, .inr (8, zeN o)), (0, .inr (20, v)), (1, .inr (15, 0)), (2, zi (b : Int)), (3, .inr (8, zeN e))]) (st2 := []) ⟨rfl, rfl⟩ (by rw [show (zi ((j : Int) + 1) : xV) = .inl (.int (Int32.ofInt (j : Int) + 1)) from congrArg (fun z => (.inl (.int z) : xV)) (Int32.ofInt_add _ _)]; rfl) ?_
        refine zX.sn 1 (pc2 := 3) (l2 := [(4, zi ((j : Int) + 1)), (5, .inr (8, zeN o)), (0, .inr (20, v)), (1, .inr (15, 0)), (2, zi (b : Int)), (3, .inr (8, zeN e))]) (st2 := []) rfl ?_
        refine zX.re [(0, .inr (20, v)), (1, .inr (15, 0)), (2, zi (b : Int)), (3, .inr (8, zeN e)), (4, zi ((j : Int) + 1))] [2, 3, 4, 5, 0] [4, 5, 0, 1, 2, 3] rfl rfl (by decide) ?_
        exact k3 e3 e6 e9 _ hv4 (fun za zb hn => ((hF4 za zb (by omega)).trans rfl))
      · show zX _ 8 57 [(5, .inr (8, zeN o)), (0, .inr (20, v)), (1, .inr (15, 0)), (2, zi (b : Int)), (3, .inr (8, zeN e)), (4, zi (j : Int))] [zi 1] c s _ _
        refine zX.icmp0 (tgt := 81) ⟨rfl, rfl⟩ rfl (by omega) (fun (e11 : ¬ 1 = 0) => ?_) (fun (zz : 1 = 0) => absurd zz (by omega))
        refine zX.s1 (pc2 := 84) (l2 := [(4, zi ((j : Int) + 1)), (5, .inr (8, zeN o)), (0, .inr (20, v)), (1, .inr (15, 0)), (2, zi (b : Int)), (3, .inr (8, zeN e))]) (st2 := []) ⟨rfl, rfl⟩ (by rw [show (zi ((j : Int) + 1) : xV) = .inl (.int (Int32.ofInt (j : Int) + 1)) from congrArg (fun z => (.inl (.int z) : xV)) (Int32.ofInt_add _ _)]; rfl) ?_
        refine zX.sn 1 (pc2 := 3) (l2 := [(4, zi ((j : Int) + 1)), (5, .inr (8, zeN o)), (0, .inr (20, v)), (1, .inr (15, 0)), (2, zi (b : Int)), (3, .inr (8, zeN e))]) (st2 := []) rfl ?_
        refine zX.re [(0, .inr (20, v)), (1, .inr (15, 0)), (2, zi (b : Int)), (3, .inr (8, zeN e)), (4, zi ((j : Int) + 1))] [2, 3, 4, 5, 0] [4, 5, 0, 1, 2, 3] rfl rfl (by decide) ?_
        exact k4 e3 e6 e9

end ZR69
