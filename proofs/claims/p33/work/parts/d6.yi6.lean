set_option maxRecDepth 100000
section YD6
variable {Cs : List zCf} {J : List zE} {L : zVL} {W : zWl} {X : zQd} {e : Nat}
theorem zPf_tk (J : List zE) (n p : Nat) : (zPf (J.take n) p).1 ≤ (zPf J p).1 := by
  have := zPf_mono (J.take n) p (J.drop n)
  rw [List.take_append_drop] at this
  exact this
theorem zhk_n (k : Nat) : ∀ (L : zVL) (n : Nat), (∀ Y ∈ L, ∃ n : Nat, n ≤ 1000 ∧ Y.2.2.1 k = Int32.ofInt (n : Int)) → ∃ n2 : Nat, n2 ≤ n + 1000 * L.length ∧ zhk k L (Int32.ofInt (n : Int)) = Int32.ofInt (n2 : Int) := by
  intro L
  induction L with
  | nil => intro n _; exact ⟨n, Nat.le_add_right _ _, rfl⟩
  | cons Y r ih =>
    intro n h
    obtain ⟨n1, h1, h2⟩ := h Y List.mem_cons_self
    obtain ⟨n2, h3, h4⟩ := ih (n + n1) (fun Z hZ => h Z (List.mem_cons_of_mem _ hZ))
    refine ⟨n2, by rw [List.length_cons]; omega, ?_⟩
    show zhk k r (Int32.ofInt (n : Int) + Y.2.2.1 k) = _
    rw [h2, ← Int32.ofInt_add]
    exact h4
/-- begun anew: the state that a replay begins with -/
theorem zIR.beg (h : zIR Cs W.1) : zPm (wBeg W).1 [] ∧ zGJ Cs [] (wBeg W).2 ∧ zGS (wBeg W).2 (zX0 Cs).2 := by
  obtain ⟨⟨h1, h2⟩, ⟨h3, h4, h5⟩, h6, h7, h8, h9, h10⟩ := h
  obtain ⟨a1, a2⟩ := zaB_at (out := wd_O W) (wd_L W).length 0 (wd_L W)
  have hlen : (wd_L W).length = Cs.length := h7.1
  have key : ∀ (i : Nat) (C : zCf) (S : zSt), (zaB (wd_O W) (wd_L W).length 0 (wd_L W))[i]? = some (C, S) → Cs[i]? = some C ∧ zSm C S zS0 ∧ zuIv i C [] (-1) S := fun i C S hi => by
    have hlt := (List.getElem?_eq_some_iff.mp hi).1
    rw [a2, if_pos (by omega)] at hi
    cases hx : (wd_L W)[i]? with
    | none => rw [hx] at hi; cases hi
    | some Y =>
      obtain ⟨C0, S0⟩ := Y
      rw [hx] at hi
      cases hi
      obtain ⟨g1, g2, g3, g4⟩ := h7.2.2 i C0 S0 hx
      obtain ⟨z1, z2⟩ := zuBeg_ok (out := wd_O W) g2
      exact ⟨g1, z1, z2⟩
  refine ⟨fun p hp => ?_, ⟨a1.trans hlen, Nat.zero_le _, fun i C S hi => ?_⟩, rfl, ?_, fun i C S hi => ?_⟩
  · show (zaR (wd_P W) 3 p).1 = 0 ∧ (zaR (wd_P W) 3 p).2.1 = -1
    unfold zaR
    rw [if_pos hp]
    exact ⟨rfl, rfl⟩
  · obtain ⟨k1, k2, k3⟩ := key i C S hi
    have ht : S.1 = fun _ => 0 := k2.1
    refine ⟨k1, ?_, fun k => Or.inl (by rw [ht]), ?_⟩
    · show zuIv i C [] (zMk []) S
      rw [zMk_0]
      exact k3
    · show (0 : Int) = (zcnt S.1 (zuL C) : Int)
      rw [ht, zcnt_0]
      rfl
  · show (zaB (wd_O W) (wd_L W).length 0 (wd_L W)).length = (Cs.map (fun C => (C, zS0))).length
    rw [a1, hlen, List.length_map]
  · obtain ⟨k1, k2, k3⟩ := key i C S hi
    refine ⟨zS0, ?_, k2⟩
    show (Cs.map (fun C => (C, zS0)))[i]? = _
    rw [List.getElem?_map, k1]
    rfl
theorem zIW.fc (h : zIW e W) : zFc W := by
  obtain ⟨Cs, hR, hO⟩ := h
  have hR2 := hR
  have hjl : (wd_J W).length ≤ 60 := hR.jl
  obtain ⟨⟨h1, h2⟩, ⟨h3, h4, h5⟩, h6, h7, h8, h9, h10⟩ := hR
  obtain ⟨o1, o2, o3, o4, o5, o6, o7⟩ := hO
  obtain ⟨b1, b2, b3⟩ := zIR.beg hR2
  obtain ⟨op, hop⟩ := hR2.pre (wd_pj W)
  have hop : wd_O W = (zGs Cs ((wd_J W).take (wd_pj W))).2 ++ op := hop
  have hlm : zlm (wd_P W) 3 0 1000 = zMk (wd_J W) := h6.lm
  have hll : (wd_L W).length = Cs.length := h7.1
  have hOJ : wd_O W = (zGs Cs (wd_J W)).2 := h8.1
  have hlv : ∀ (i : Nat) (C : zCf) (S : zSt), (wd_L W)[i]? = some (C, S) → i < 5 ∧ Cs[i]? = some C ∧ zuIv i C (wd_J W) (zMk (wd_J W)) S ∧ zGo i S.1 ∧ zsS i (wd_O W) = (zcnt S.1 (zuL C) : Int) := fun i C S hi => by
    have hlt := (List.getElem?_eq_some_iff.mp hi).1
    exact ⟨by omega, h7.2.2 i C S hi⟩
  have htl : ((wd_J W).take (wd_pj W)).length ≤ 72 := by
    have : ((wd_J W).take (wd_pj W)).length ≤ (wd_J W).length := List.length_take_le' _ _
    omega
  have hpl : wd_pr W ≤ (wd_O W).length := by
    rw [hop, o5, List.length_append]
    omega
  refine ⟨o2, ⟨hpl, fun hu => ?_⟩, fun hu i C S hi => ?_, zhA_lA o2, by omega, fun i C S hi => ?_, fun k hk => ?_, fun j C S hj => ?_, o4, fun hj => ?_, fun hj => ?_, fun hj => ?_, fun hj => ?_⟩
  · obtain ⟨u1, u2, u3⟩ := o7 hu
    obtain ⟨oc, hoc⟩ := hR2.pre (wd_cj W)
    have hoc : wd_O W = (zGs Cs ((wd_J W).take (wd_cj W))).2 ++ oc := hoc
    obtain ⟨oq, hoq⟩ := zGs_tt hR2 u1
    have hoq : (zGs Cs ((wd_J W).take (wd_cj W))).2 = (zGs Cs ((wd_J W).take (wd_pj W))).2 ++ oq := hoq
    refine ⟨?_, ?_⟩
    · rw [o5, u3, hoq, List.length_append]
      omega
    · rw [hoc, u3, List.length_append]
      omega
  · obtain ⟨g0, g1, g2, g3, g4⟩ := hlv i C S hi
    have hd : (wd_O W).drop (wd_pr W) = op := by
      rw [hop, o5, List.drop_left]
    rw [hop, zsS_app] at g4
    rw [hd, zsgs_eq, o6 i g0, ← Int32.ofInt_add, g4]
  · obtain ⟨g0, g1, g2, g3, g4⟩ := hlv i C S hi
    rw [hlm]
    exact g2.fo g0 (by omega) h3
  · obtain ⟨n2, n3, n4⟩ := zhk_n k (wd_L W) 0 (fun Y hY => by
      obtain ⟨i, hi⟩ := List.getElem?_of_mem hY
      obtain ⟨g0, g1, g2, g3, g4⟩ := hlv i Y.1 Y.2 hi
      exact (zuIv.hd (show (wd_J W).length ≤ 72 from by omega) h3 g2).1 k hk)
    exact ⟨n2, by omega, n4⟩
  · obtain ⟨g0, g1, g2, g3, g4⟩ := hlv j C S hj
    exact (zuIv.hd (show (wd_J W).length ≤ 72 from by omega) h3 g2).2
  · cases hr : wd_rd W with
    | true => rfl
    | false => exact absurd (o3 hr) hj
  · refine zcAll_ok h1 ((wd_J W).take (wd_pj W)) [] (wBeg W) b1 b2 htl (h3.take _) (h4.take _) (fun p hp => ?_)
    have e1 : ((wBeg W).1 p).2.2.2.2.length = zqn W.1 p := by
      show (zaR (wd_P W) 3 p).2.2.2.2.length = _
      unfold zaR
      rw [if_pos hp]
    rw [e1]
    have e2 := zPf_tk (wd_J W) (wd_pj W) p
    have e3 : (wd_P W p).1 = (zPf (wd_J W) p).1 := (h6 p hp).1
    have e4 : (wd_P W p).1 ≤ zqn W.1 p := (h9 p hp).1
    have e5 : ([] ++ (wd_J W).take (wd_pj W)) = (wd_J W).take (wd_pj W) := rfl
    rw [e5]
    omega
  · rw [o5, List.take_of_length_le hj, hOJ]
  · obtain ⟨r1, r2, r3⟩ := zGS.run b1 (zX0_ok h2).1 b3 ((wd_J W).take (wd_pj W)) (h3.take _)
    show (zcF ((wd_J W).take (wd_pj W)) (wBeg W)).2.2.length = _
    rw [r3.1, o5]
    rfl
end YD6
