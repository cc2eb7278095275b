set_option maxRecDepth 100000
section YD7
variable {Cs : List zCf} {J : List zE} {L : zVL} {W : zWl} {X : zQd} {e : Nat}
/-- other logs, the same places and marks -/
theorem zIR.pp {P2 : Nat → zPT} (h : zIR Cs X) (hP : ∀ p, p < 3 → (P2 p).1 = (X.1 p).1 ∧ (P2 p).2.1 = (X.1 p).2.1) (hl : ∀ p, p < 3 → (X.1 p).1 ≤ (P2 p).2.2.2.2.length ∧ (P2 p).2.2.1 < 12 ∧ ∀ i x, (P2 p).2.2.2.2[i]? = some x → zLg p i x) (hn : (P2 0).2.2.2.2.length + (P2 1).2.2.2.2.length + (P2 2).2.2.2.2.length ≤ 60) : zIR Cs (P2, X.2) := by
  obtain ⟨h1, h2, h3, h4, h5, h6, h7⟩ := h
  refine ⟨h1, h2, fun p hp => ?_, h4, h5, fun p hp => ?_, hn⟩
  · obtain ⟨a1, a2⟩ := hP p hp
    obtain ⟨b1, b2⟩ := h3 p hp
    exact ⟨a1.trans b1, a2.trans b2⟩
  · obtain ⟨a1, a2⟩ := hP p hp
    obtain ⟨b1, b2, b3⟩ := hl p hp
    refine ⟨?_, b2, b3⟩
    show (P2 p).1 ≤ (P2 p).2.2.2.2.length
    rw [a1]
    exact b1
set_option maxHeartbeats 1000000 in
/-- an entry is read -/
theorem zIR.rd {p : Nat} {x : zE} (hp : p < 3) (h : zIR Cs X) (hx : (X.1 p).2.2.2.2[(X.1 p).1]? = some x) : zrOk p X x ∧ zIR Cs (zrS1 p X x) ∧ (∀ q, zqn (zrS1 p X x) q = zqn X q) ∧ ∃ e2, (zrS1 p X x).2.1 = X.2.1 ++ [e2] := by
  have hjl := h.jl
  obtain ⟨⟨h1, h2⟩, ⟨h3, h4, h5⟩, h6, h7, h8, h9, h10⟩ := h
  obtain ⟨l1, l2, l3⟩ := h9 p hp
  obtain ⟨x1, x2, x3, x4, x5, x6⟩ := l3 _ x hx
  have hlt : (X.1 p).1 < (X.1 p).2.2.2.2.length := (List.getElem?_eq_some_iff.mp hx).1
  obtain ⟨e2, he⟩ : ∃ e2, e2 = zrE X.1 X.2.1 p x := ⟨_, rfl⟩
  have f1 : zeN e2 = zeN x ∧ zeP e2 = zeP x ∧ zeK e2 = zeK x ∧ zeT e2 = zeT x ∧ zeV e2 = zeV x ∧ zeO e2 = X.2.1.length ∧ zeA e2 = zlm X.1 3 0 1000 ∧ zeB e2 = (if zeR x = true then (zeT x : Int) - ((X.1 p).2.2.1 : Int) else (zeT x : Int)) := by
    subst he
    exact ⟨rfl, rfl, rfl, rfl, rfl, rfl, rfl, rfl⟩
  obtain ⟨n1, n2, n3, n4, n5, n6, n7, n8⟩ := f1
  obtain ⟨P2, hP2⟩ : ∃ P2, P2 = zrP X.1 p (X.1 p).1 e2 := ⟨_, rfl⟩
  have hPq : ∀ q, (P2 q).1 = (X.1 q).1 ∧ (P2 q).2.1 = (X.1 q).2.1 ∧ (P2 q).2.2.1 = (X.1 q).2.2.1 ∧ (P2 q).2.2.2.2 = if q = p then (X.1 p).2.2.2.2.set (X.1 p).1 e2 else (X.1 q).2.2.2.2 := fun q => by
    subst hP2
    unfold zrP
    by_cases hq : q = p
    · rw [if_pos hq, if_pos hq, hq]
      exact ⟨rfl, rfl, rfl, rfl⟩
    · rw [if_neg hq, if_neg hq]
      exact ⟨rfl, rfl, rfl, rfl⟩
  have hPm : zPm P2 X.2.1 := fun q hq => by
    obtain ⟨a1, a2, -, -⟩ := hPq q
    rw [a1, a2]
    exact h6 q hq
  have hB : -12 ≤ zeB e2 ∧ zeB e2 < 90 := by
    rw [n8]
    split <;> omega
  have hw2 : zJz (X.2.1 ++ [e2]) := h3.snoc ⟨by omega, by omega, by omega, by omega, n6⟩
  have hA2 : zJA (X.2.1 ++ [e2]) := h4.snoc ⟨n7.trans h6.lm, hB⟩
  have hN2 : zJN (X.2.1 ++ [e2]) := h5.snoc (by
    rw [n1, x1, n2, x2, (h6 p hp).1])
  obtain ⟨s1, s2, s3⟩ := h7.step h1 (by omega) hw2 hA2 hPm
  have hzq : ∀ q, (zaP P2 e2 q).2.2 = (P2 q).2.2 ∧ (zaP P2 e2 q).1 = (P2 q).1 + (if q = p then 1 else 0) := fun q => by
    unfold zaP
    have hpe : zeP e2 = p := by omega
    rw [hpe]
    by_cases hq : q = p
    · rw [if_pos hq, if_pos hq, hq]
      exact ⟨rfl, rfl⟩
    · rw [if_neg hq, if_neg hq]
      exact ⟨rfl, rfl⟩
  have hzn : ∀ q, (zaP P2 e2 q).2.2.2.2.length = (X.1 q).2.2.2.2.length := fun q => by
    rw [(hzq q).1, (hPq q).2.2.2]
    by_cases hq : q = p
    · rw [if_pos hq, List.length_set, hq]
    · rw [if_neg hq]
  rw [n7] at s2
  unfold zrOk zrS1
  rw [← he, ← hP2]
  refine ⟨⟨x2, by omega, fun y hy => ?_, fun i C S hi y hy => ?_, fun p2 i y hp2 hy hn => ?_, s1, s2⟩, ⟨⟨h1, h2⟩, ⟨hw2, hA2, hN2⟩, hPm.ap, s3, ?_, fun q hq => ⟨?_, ?_, fun i y hy => ?_⟩, ?_⟩, hzn, e2, rfl⟩
  · have := h5.ne h3 hp hy
    have h0 := (h6 p hp).1
    rw [x1, h0]
    exact this
  · have hls := (h7.2.2 i C S hi).2.1.ls
    have hyJ : y ∈ X.2.1 := by
      rcases List.mem_append.mp hy with z | z
      · exact hls.1 y z
      · exact hls.2.2.1 y z
    have := h5.ne h3 hp hyJ
    have h0 := (h6 p hp).1
    rw [x1, h0]
    exact this
  · have := ((h9 p2 hp2).2.2 i y hy).1
    rw [x1] at hn
    omega
  · obtain ⟨k1, k2⟩ := zGs_ok h1 h2 (by omega) h3 h4
    have hz : zGs Cs (X.2.1 ++ [e2]) = zaAp e2 (zcF X.2.1 (zX0 Cs)).1 (zGs Cs X.2.1) := by
      unfold zGs
      rw [zcF_app]
      rfl
    show zGS (zaAp e2 P2 X.2.2) (zGs Cs (X.2.1 ++ [e2]))
    rw [hz]
    exact h8.ap (by omega) (by omega) (by rw [hPm.ap.lm, k1.ap.lm])
  · show (zaP P2 e2 q).1 ≤ (zaP P2 e2 q).2.2.2.2.length
    rw [(hzq q).2, hzn, (hPq q).1]
    have := (h9 q hq).1
    by_cases hqp : q = p
    · rw [if_pos hqp, hqp]
      omega
    · rw [if_neg hqp]
      exact this
  · show (zaP P2 e2 q).2.2.1 < 12
    rw [(hzq q).1, (hPq q).2.2.1]
    exact (h9 q hq).2.1
  · have hy : (zaP P2 e2 q).2.2.2.2[i]? = some y := hy
    rw [(hzq q).1, (hPq q).2.2.2] at hy
    by_cases hqp : q = p
    · rw [if_pos hqp] at hy
      rw [hqp]
      by_cases hi : i = (X.1 p).1
      · subst hi
        rw [List.getElem?_set_self hlt] at hy
        cases hy
        exact ⟨by omega, by omega, by omega, by omega, by omega, by omega⟩
      · rw [List.getElem?_set_ne (fun z => hi z.symm)] at hy
        exact l3 i y hy
    · rw [if_neg hqp] at hy
      exact (h9 q hq).2.2 i y hy
  · show (zaP P2 e2 0).2.2.2.2.length + (zaP P2 e2 1).2.2.2.2.length + (zaP P2 e2 2).2.2.2.2.length ≤ 60
    rw [hzn, hzn, hzn]
    exact h10
theorem zIW.up (h : zIW e W) : zIW (e + 1) W := by
  obtain ⟨Cs, hR, o1, o2⟩ := h
  exact ⟨Cs, hR, by omega, o2⟩
theorem zG_i_rea : zG_rea zIW := by
  intro e W p m he h hp hm
  obtain ⟨Cs, hR, o1, o2, o3, o4, o5, o6, o7⟩ := h
  refine ⟨fun X => zIR Cs X ∧ (∀ q, zqn X q = zqn W.1 q) ∧ ∃ r, X.2.1 = wd_J W ++ r, ⟨hR, fun _ => rfl, [], (List.append_nil _).symm⟩, fun X x ⟨r1, r2, r, r3⟩ hx => ?_, fun rd1 ⟨r1, r2, r, r3⟩ hrd => ?_⟩
  · obtain ⟨a1, a2, a3, e2, a4⟩ := r1.rd hp hx
    exact ⟨a1, a2, fun q => (a3 q).trans (r2 q), r ++ [e2], by rw [a4, r3, List.append_assoc]⟩
  · have hJ : wd_J (wRea W p m rd1) = wd_J W ++ r := r3
    have htk : ∀ n, n ≤ (wd_J W).length → (wd_J (wRea W p m rd1)).take n = (wd_J W).take n := fun n hn => by
      rw [hJ]
      exact List.take_append_of_le_length hn
    have hl : (wd_J W).length ≤ (wd_J (wRea W p m rd1)).length := by
      rw [hJ, List.length_append]
      omega
    refine ⟨Cs, r1, ?_, o2, fun hf => ?_, Nat.le_trans o4 hl, ?_, fun v hv => ?_, fun hu => ?_⟩
    · show zqn (zrN p m W.1) 0 + zqn (zrN p m W.1) 1 + zqn (zrN p m W.1) 2 ≤ _
      rw [r2, r2, r2]
      omega
    · have hf : rd1 = false := hf
      rcases hrd with z | ⟨z1, z2⟩
      · rw [z] at hf; cases hf
      · show (zrN p m W.1).2.1 = []
        rw [z2]
        exact o3 (z1.symm.trans hf)
    · show wd_pr W = _
      rw [show wd_pj (wRea W p m rd1) = wd_pj W from rfl, htk _ o4]
      exact o5
    · show wd_ps W v = _
      rw [show wd_pj (wRea W p m rd1) = wd_pj W from rfl, htk _ o4]
      exact o6 v hv
    · obtain ⟨u1, u2, u3⟩ := o7 hu
      refine ⟨u1, Nat.le_trans u2 hl, ?_⟩
      show wd_cu W = _
      rw [show wd_cj (wRea W p m rd1) = wd_cj W from rfl, htk _ u2]
      exact u3
theorem zG_i_slk : zG_slk zIW := by
  intro e W p x he h hp hx hL
  obtain ⟨Cs, hR, o1, o2⟩ := h
  have hq : ∀ q, (zaS (wd_P W) p x q).1 = (wd_P W q).1 ∧ (zaS (wd_P W) p x q).2.1 = (wd_P W q).2.1 ∧ (zaS (wd_P W) p x q).2.2.2.2 = (wd_P W q).2.2.2.2 ∧ ((zaS (wd_P W) p x q).2.2.1 = x ∨ (zaS (wd_P W) p x q).2.2.1 = (wd_P W q).2.2.1) := fun q => by
    unfold zaS
    by_cases hqp : q = p
    · rw [if_pos hqp, hqp]
      exact ⟨rfl, rfl, rfl, Or.inl rfl⟩
    · rw [if_neg hqp]
      exact ⟨rfl, rfl, rfl, Or.inr rfl⟩
  have hn : ∀ q, (zaS (wd_P W) p x q).2.2.2.2.length = zqn W.1 q := fun q => by rw [(hq q).2.2.1]
  have hR2 := hR
  obtain ⟨h1, h2, h3, h4, h5, h6, h7⟩ := hR2
  refine ⟨Cs, hR.pp (P2 := zaS (wd_P W) p x) (fun q _ => ⟨(hq q).1, (hq q).2.1⟩) (fun q hq3 => ?_) (by rw [hn, hn, hn]; exact h7), ?_, o2⟩
  · obtain ⟨a1, a2, a3⟩ := h6 q hq3
    rw [(hq q).2.2.1]
    refine ⟨a1, ?_, a3⟩
    rcases (hq q).2.2.2 with z | z
    · rw [z]; exact hx
    · rw [z]; exact a2
  · show (zaS (wd_P W) p x 0).2.2.2.2.length + (zaS (wd_P W) p x 1).2.2.2.2.length + (zaS (wd_P W) p x 2).2.2.2.2.length ≤ _
    rw [hn, hn, hn]
    omega
theorem zG_i_put : zG_put zIW := by
  intro e W p cap k t v r he h hp hk ht hv
  obtain ⟨Cs, hR, o1, o2⟩ := h
  obtain ⟨e2, he2⟩ : ∃ e2 : zE, e2 = (8 * wd_n W p + p, (p, r, k, t, v), (0, 0, 0)) := ⟨_, rfl⟩
  have hf : zLg p (wd_n W p) e2 := by
    subst he2
    exact ⟨rfl, rfl, hk, ht, by show -99 ≤ v; omega, by show v ≤ 99; omega⟩
  rw [← he2]
  have hq : ∀ q, (zaQ (wd_P W) p cap e2 q).1 = (wd_P W q).1 ∧ (zaQ (wd_P W) p cap e2 q).2.1 = (wd_P W q).2.1 ∧ (zaQ (wd_P W) p cap e2 q).2.2.1 = (wd_P W q).2.2.1 ∧ (zaQ (wd_P W) p cap e2 q).2.2.2.2 = if q = p then (wd_P W p).2.2.2.2 ++ [e2] else (wd_P W q).2.2.2.2 := fun q => by
    unfold zaQ
    by_cases hqp : q = p
    · rw [if_pos hqp, if_pos hqp, hqp]
      exact ⟨rfl, rfl, rfl, rfl⟩
    · rw [if_neg hqp, if_neg hqp]
      exact ⟨rfl, rfl, rfl, rfl⟩
  have hn : ∀ q, (zaQ (wd_P W) p cap e2 q).2.2.2.2.length = zqn W.1 q + (if q = p then 1 else 0) := fun q => by
    rw [(hq q).2.2.2]
    by_cases hqp : q = p
    · rw [if_pos hqp, if_pos hqp, zlen1, hqp]
    · rw [if_neg hqp, if_neg hqp]
      rfl
  have hs : (zaQ (wd_P W) p cap e2 0).2.2.2.2.length + (zaQ (wd_P W) p cap e2 1).2.2.2.2.length + (zaQ (wd_P W) p cap e2 2).2.2.2.2.length ≤ e + 1 := by
    rw [hn, hn, hn]
    have : p = 0 ∨ p = 1 ∨ p = 2 := by omega
    rcases this with z | z | z <;> rw [z] <;> simp <;> omega
  have hR2 := hR
  obtain ⟨h1, h2, h3, h4, h5, h6, h7⟩ := hR2
  refine ⟨Cs, hR.pp (P2 := zaQ (wd_P W) p cap e2) (fun q _ => ⟨(hq q).1, (hq q).2.1⟩) (fun q hq3 => ?_) (by omega), hs, o2⟩
  obtain ⟨a1, a2, a3⟩ := h6 q hq3
  refine ⟨?_, ?_, fun i x hx => ?_⟩
  · rw [hn]
    omega
  · rw [(hq q).2.2.1]
    exact a2
  · rw [(hq q).2.2.2] at hx
    by_cases hqp : q = p
    · rw [if_pos hqp] at hx
      rw [hqp]
      rcases zsnoc_at hx with ⟨z1, z2⟩ | ⟨z1, z2⟩
      · exact (h6 p hp).2.2 i x z1
      · subst z1 z2
        exact hf
    · rw [if_neg hqp] at hx
      exact a3 i x hx
theorem zG_i_cut : zG_cut zIW := by
  intro e W he h hu
  obtain ⟨Cs, hR, o1, o2, o3, o4, o5, o6, o7⟩ := h
  refine ⟨Cs, hR, by show zqn W.1 0 + zqn W.1 1 + zqn W.1 2 ≤ _; omega, o2, o3, o4, o5, o6, fun _ => ⟨o4, Nat.le_refl _, ?_⟩⟩
  show (wd_O W).length = (zGs Cs ((wd_J W).take (wd_J W).length)).2.length
  rw [List.take_length]
  have : wd_O W = (zGs Cs (wd_J W)).2 := hR.2.2.2.2.1.1
  rw [this]
theorem zG_i_com : zG_com zIW := by
  intro e W he h hu
  obtain ⟨Cs, hR, o1, o2, o3, o4, o5, o6, o7⟩ := h
  obtain ⟨u1, u2, u3⟩ := o7 hu
  obtain ⟨oc, hoc⟩ := hR.pre (wd_cj W)
  have hoc : wd_O W = (zGs Cs ((wd_J W).take (wd_cj W))).2 ++ oc := hoc
  obtain ⟨oq, hoq⟩ := zGs_tt hR u1
  have hoq : (zGs Cs ((wd_J W).take (wd_cj W))).2 = (zGs Cs ((wd_J W).take (wd_pj W))).2 ++ oq := hoq
  refine ⟨Cs, hR, by show zqn W.1 0 + zqn W.1 1 + zqn W.1 2 ≤ _; omega, o2, o3, u2, u3, fun v hv => ?_, fun hf => ?_⟩
  · show zcp (((wd_O W).drop (wd_pr W)).take (wd_cu W - wd_pr W)) (wd_ps W) v = Int32.ofInt (zsS v (zGs Cs ((wd_J W).take (wd_cj W))).2)
    have hd : ((wd_O W).drop (wd_pr W)).take (wd_cu W - wd_pr W) = oq := by
      rw [u3, o5, hoc, hoq, List.append_assoc, List.drop_left, List.length_append, Nat.add_sub_cancel_left, List.take_left]
    rw [hd, zcp_eq hv, o6 v hv, hoq, zsS_app, ← Int32.ofInt_add]
  · cases hf
theorem zG_i_cra : zG_cra zIW := by
  refine ⟨fun e W he h hj => ?_, fun e W he h hj => ?_⟩
  · obtain ⟨Cs, hR, o1, o2, o3, o4, o5, o6, o7⟩ := h
    exact ⟨Cs, hR, by show zqn W.1 0 + zqn W.1 1 + zqn W.1 2 ≤ _; omega, o2, o3, o4, o5, o6, fun hf => (by cases hf)⟩
  · obtain ⟨Cs, hR, o1, o2, o3, o4, o5, o6, o7⟩ := h
    obtain ⟨b1, b2, b3⟩ := zIR.beg hR
    have hjl : (wd_J W).length ≤ 60 := hR.jl
    obtain ⟨⟨h1, h2⟩, ⟨h3, h4, h5⟩, h6, h7, h8, h9, h10⟩ := hR
    have htl : ((wd_J W).take (wd_pj W)).length = wd_pj W := by rw [List.length_take]; omega
    have hG := zGJ.run h1 b1 b2 ((wd_J W).take (wd_pj W)) (by omega) (h3.take _) (h4.take _)
    obtain ⟨r1, r2, r3⟩ := zGS.run b1 (zX0_ok h2).1 b3 ((wd_J W).take (wd_pj W)) (h3.take _)
    have hpc : ∀ q, q < 3 → ((zcF ((wd_J W).take (wd_pj W)) (wBeg W)).1 q).2.2 = (wd_P W q).2.2 := fun q hq => by
      rw [zcF_pc]
      show (zaR (wd_P W) 3 q).2.2 = _
      unfold zaR
      rw [if_pos hq]
    have hn : ∀ q, q < 3 → ((zcF ((wd_J W).take (wd_pj W)) (wBeg W)).1 q).2.2.2.2.length = zqn W.1 q := fun q hq => by rw [hpc q hq]
    have htt : ((wd_J W).take (wd_pj W)).take (wd_pj W) = (wd_J W).take (wd_pj W) := by rw [List.take_take, Nat.min_self]
    have hs : ∀ n, zqn W.1 0 + zqn W.1 1 + zqn W.1 2 ≤ n → ((zcF ((wd_J W).take (wd_pj W)) (wBeg W)).1 0).2.2.2.2.length + ((zcF ((wd_J W).take (wd_pj W)) (wBeg W)).1 1).2.2.2.2.length + ((zcF ((wd_J W).take (wd_pj W)) (wBeg W)).1 2).2.2.2.2.length ≤ n := fun n hn2 => by
      rw [hn 0 (by omega), hn 1 (by omega), hn 2 (by omega)]
      exact hn2
    refine ⟨Cs, ⟨⟨h1, h2⟩, ⟨h3.take _, h4.take _, h5.take _⟩, hG.1, hG.2, r3, fun q hq => ?_, hs _ h10⟩, hs _ (by omega), o2, fun hf => ?_, ?_, ?_, fun v hv => ?_, fun hf => (by cases hf)⟩
    · obtain ⟨a1, a2, a3⟩ := h9 q hq
      refine ⟨?_, ?_, fun i x hx => ?_⟩
      · show ((zcF ((wd_J W).take (wd_pj W)) (wBeg W)).1 q).1 ≤ ((zcF ((wd_J W).take (wd_pj W)) (wBeg W)).1 q).2.2.2.2.length
        rw [hn q hq, (hG.1 q hq).1]
        have e2 := zPf_tk (wd_J W) (wd_pj W) q
        have e3 : (wd_P W q).1 = (zPf (wd_J W) q).1 := (h6 q hq).1
        have e4 : (wd_P W q).1 ≤ zqn W.1 q := a1
        omega
      · show ((zcF ((wd_J W).take (wd_pj W)) (wBeg W)).1 q).2.2.1 < 12
        rw [hpc q hq]
        exact a2
      · have hx : ((zcF ((wd_J W).take (wd_pj W)) (wBeg W)).1 q).2.2.2.2[i]? = some x := hx
        rw [hpc q hq] at hx
        exact a3 i x hx
    · show (wd_J W).take (wd_pj W) = []
      rw [o3 hf, List.take_nil]
    · show wd_pj W ≤ ((wd_J W).take (wd_pj W)).length
      omega
    · show wd_pr W = (zGs Cs (((wd_J W).take (wd_pj W)).take (wd_pj W))).2.length
      rw [htt]
      exact o5
    · show wd_ps W v = Int32.ofInt (zsS v (zGs Cs (((wd_J W).take (wd_pj W)).take (wd_pj W))).2)
      rw [htt]
      exact o6 v hv
theorem zG_i_mov : zG_mov zIW := by
  intro e W k w he h hk hw
  obtain ⟨Cs, hR, o1, o2, o3⟩ := h
  refine ⟨Cs, hR, by show zqn W.1 0 + zqn W.1 1 + zqn W.1 2 ≤ _; omega, fun i => ?_, o3⟩
  show 0 ≤ (if i = k then (w : Int) else wd_wk W i) ∧ (if i = k then (w : Int) else wd_wk W i) < 3
  split
  · omega
  · exact o2 i
theorem zG_i_add : zG_add zIW := by
  intro e W ch me fi sz sp gr he h hch hme hfi hsz hsp hgr hle hlen hrd hct
  obtain ⟨Cs, hR, o1, o2, o3, o4, o5, o6, o7⟩ := h
  have hJ : wd_J W = [] := o3 hrd
  obtain ⟨⟨h1, h2⟩, hw, h6, h7, h8, h9⟩ := hR
  have hll : (wd_L W).length = Cs.length := h7.1
  have hC : zCv (vCf ch me fi sz sp gr) := by
    unfold vCf
    rcases hch with z | z | z | z | z
    · rw [if_pos z]
      exact Or.inl ⟨rfl, hsz.1⟩
    · rw [if_neg (by omega), if_pos z]
      exact Or.inl ⟨rfl, hsp.1⟩
    · rw [if_neg (by omega), if_neg (by omega), if_pos z]
      exact Or.inr (Or.inl rfl)
    · rw [if_neg (by omega), if_neg (by omega), if_neg (by omega), if_pos z]
      exact Or.inr (Or.inr (Or.inl rfl))
    · rw [if_neg (by omega), if_neg (by omega), if_neg (by omega), if_neg (by omega)]
      exact Or.inr (Or.inr (Or.inr rfl))
  generalize vCf ch me fi sz sp gr = C at hC
  have hO : wd_O W = [] := by
    have : wd_O W = (zGs Cs (wd_J W)).2 := h8.1
    rw [this, hJ]
    rfl
  have hG0 : ∀ (K : List zCf) n, (zGs K ((wd_J W).take n)).2 = [] := fun K n => by
    rw [hJ, List.take_nil]
    rfl
  have hat : ∀ (i : Nat) (C2 : zCf) (S : zSt), (wd_L W ++ [(C, zS0)])[i]? = some (C2, S) → (wd_L W)[i]? = some (C2, S) ∧ i < (wd_L W).length ∨ i = (wd_L W).length ∧ C2 = C ∧ S = zS0 := fun i C2 S hi => by
    by_cases hlt : i < (wd_L W).length
    · rw [List.getElem?_append_left hlt] at hi
      exact Or.inl ⟨hi, hlt⟩
    · rw [List.getElem?_append_right (by omega)] at hi
      have h0 : i - (wd_L W).length = 0 := by
        have := (List.getElem?_eq_some_iff.mp hi).1
        simp only [List.length_cons, List.length_nil] at this
        omega
      rw [h0] at hi
      cases hi
      exact Or.inr ⟨by omega, rfl, rfl⟩
  have hl1 : (Cs ++ [C]).length = Cs.length + 1 := by rw [List.length_append]; rfl
  have hl2 : (wd_L W ++ [(C, zS0)]).length = (wd_L W).length + 1 := by rw [List.length_append]; rfl
  refine ⟨Cs ++ [C], ⟨⟨by omega, fun D hD => ?_⟩, hw, h6, ⟨by show (wd_L W ++ [(C, zS0)]).length = _; omega, h7.2.1, fun i C2 S hi => ?_⟩, ⟨?_, ?_, fun i C2 S hi => ?_⟩, h9⟩, by show zqn W.1 0 + zqn W.1 1 + zqn W.1 2 ≤ _; omega, o2, o3, o4, ?_, fun v hv => ?_, fun hu => ?_⟩
  · rcases List.mem_append.mp hD with z | z
    · exact h2 D z
    · rw [List.mem_singleton.mp z]
      exact hC
  · rcases hat i C2 S hi with ⟨z1, z2⟩ | ⟨z1, z2, z3⟩
    · obtain ⟨a1, a2⟩ := h7.2.2 i C2 S z1
      exact ⟨by rw [List.getElem?_append_left (by omega)]; exact a1, a2⟩
    · subst z2 z3
      refine ⟨by rw [List.getElem?_append_right (by omega), show i - Cs.length = 0 from by omega]; rfl, ?_, fun k => Or.inl rfl, ?_⟩
      · show zuIv i _ (wd_J W) (zMk (wd_J W)) zS0
        rw [hJ]
        exact zuIv_0 hC
      · show zsS i (wd_O W) = (zcnt (fun _ => 0) _ : Int)
        rw [hO, zcnt_0]
        rfl
  · show wd_O W = (zGs (Cs ++ [C]) (wd_J W)).2
    rw [hO, hJ]
    rfl
  · show (wd_L W ++ [(C, zS0)]).length = (zGs (Cs ++ [C]) (wd_J W)).1.length
    rw [hJ]
    show _ = ((Cs ++ [C]).map (fun C => (C, zS0))).length
    rw [List.length_map]
    omega
  · show ∃ S2, (zGs (Cs ++ [C]) (wd_J W)).1[i]? = some (C2, S2) ∧ zSm C2 S S2
    have hg : (zGs (Cs ++ [C]) (wd_J W)).1 = (Cs ++ [C]).map (fun C => (C, zS0)) := by
      rw [hJ]
      rfl
    have hg0 : (zGs Cs (wd_J W)).1 = Cs.map (fun C => (C, zS0)) := by
      rw [hJ]
      rfl
    rw [hg, List.getElem?_map]
    rcases hat i C2 S hi with ⟨z1, z2⟩ | ⟨z1, z2, z3⟩
    · obtain ⟨S2, a1, a2⟩ := h8.2.2 i C2 S z1
      have a1 : (zGs Cs (wd_J W)).1[i]? = some (C2, S2) := a1
      rw [hg0, List.getElem?_map] at a1
      rw [List.getElem?_append_left (by omega)]
      exact ⟨S2, a1, a2⟩
    · subst z2 z3
      rw [List.getElem?_append_right (by omega), show i - Cs.length = 0 from by omega]
      exact ⟨zS0, rfl, rfl, rfl, rfl, fun _ => ⟨rfl, rfl⟩, fun _ _ _ _ => rfl, rfl, rfl⟩
  · show wd_pr W = (zGs (Cs ++ [C]) ((wd_J W).take (wd_pj W))).2.length
    rw [o5, hG0, hG0]
  · show wd_ps W v = Int32.ofInt (zsS v (zGs (Cs ++ [C]) ((wd_J W).take (wd_pj W))).2)
    rw [o6 v hv, hG0, hG0]
  · obtain ⟨u1, u2, u3⟩ := o7 hu
    refine ⟨u1, u2, ?_⟩
    show wd_cu W = (zGs (Cs ++ [C]) ((wd_J W).take (wd_cj W))).2.length
    rw [u3, hG0, hG0]
/-- the invariant keeps -/
theorem zGd_i : zGd zIW := ⟨fun _ _ h => h.fc, fun e W _ h p hp => by
  obtain ⟨Cs, hR, hO⟩ := h
  have h1 : zqn W.1 0 + zqn W.1 1 + zqn W.1 2 ≤ 60 := hR.2.2.2.2.2.2
  have : p = 0 ∨ p = 1 ∨ p = 2 := by omega
  show zqn W.1 p < 72
  rcases this with z | z | z <;> rw [z] <;> omega, fun _ _ _ h => h.up, zG_i_add, zG_i_slk, zG_i_put, zG_i_rea, zG_i_cut, zG_i_com, zG_i_cra, zG_i_mov⟩
theorem zIW_0 : zIW 0 zW0 := by
  refine ⟨[], ⟨⟨Nat.zero_le _, fun C hC => (by cases hC)⟩, ⟨fun j x hx => ?_, fun j x hx => ?_, fun j x hx => ?_⟩, fun p _ => ⟨rfl, rfl⟩, ⟨rfl, Nat.zero_le _, fun i C S hi => ?_⟩, ⟨rfl, rfl, fun i C S hi => ?_⟩, fun p _ => ⟨Nat.le_refl _, show (0 : Nat) < 12 from by decide, fun i x hx => ?_⟩, Nat.zero_le _⟩, Nat.zero_le _, fun i => ?_, fun _ => rfl, Nat.le_refl _, rfl, fun v _ => rfl, fun hf => (by cases hf)⟩
  · have hx : ([] : List zE)[j]? = some x := hx
    rw [List.getElem?_nil] at hx
    cases hx
  · have hx : ([] : List zE)[j]? = some x := hx
    rw [List.getElem?_nil] at hx
    cases hx
  · have hx : ([] : List zE)[j]? = some x := hx
    rw [List.getElem?_nil] at hx
    cases hx
  · have hi : ([] : zVL)[i]? = some (C, S) := hi
    rw [List.getElem?_nil] at hi
    cases hi
  · have hi : ([] : zVL)[i]? = some (C, S) := hi
    rw [List.getElem?_nil] at hi
    cases hi
  · have hx : ([] : List zE)[i]? = some x := hx
    rw [List.getElem?_nil] at hx
    cases hx
  · show 0 ≤ zwk 8 i ∧ zwk 8 i < 3
    unfold zwk
    split <;> omega
end YD7
