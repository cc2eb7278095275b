set_option maxRecDepth 20000
section ZLIB
variable {h h1 h2 : xH} {W V V1 : zWorld}
/-- the same objects in the same order, some perhaps under new names -/
def zSw (h : xH) (V V1 : zWorld) : Prop := V1.length = V.length ∧ ∀ (k : Nat) (p p1 : (Nat × Nat) × xO), V[k]? = some p → V1[k]? = some p1 → p1.1 = p.1 ∨ h p1.1 = none
theorem zSw.of (e : V1.map (fun p => p.1) = V.map (fun p => p.1)) : zSw h V V1 := by
  refine ⟨?_, fun k p p1 hp hp1 => Or.inl ?_⟩
  · have := congrArg List.length e
    rw [List.length_map, List.length_map] at this
    exact this
  · have h2 : (V1.map (fun p => p.1))[k]? = some p1.1 := by rw [List.getElem?_map, hp1]; rfl
    rw [e, List.getElem?_map, hp] at h2
    exact (Option.some.inj h2).symm
/-- of what was there nothing is gone, and nothing but these has changed -/
def zFw (N : List (Nat × Nat)) (h h1 : xH) : Prop := ∀ q, h q ≠ none → h1 q ≠ none ∧ (q ∉ N → h1 q = h q)
/-- one of these, or new since -/
def zOn (N : List (Nat × Nat)) (h : xH) (q : Nat × Nat) : Prop := q ∈ N ∨ h q = none
theorem zWd.join2 (hw : zWd h W) (is : List Nat) (e : is.map (fun i => W[i]?) = V.map some) (hv : zWd h1 V1) (hn : zSw h V V1) (hf : zFw (V.map (fun p => p.1)) h h1) : zWd h1 (zjn W is V1) := by
  have at_ : ∀ (k i : Nat), is[k]? = some i → ∃ (p p1 : (Nat × Nat) × xO), W[i]? = some p ∧ V[k]? = some p ∧ V1[k]? = some p1 ∧ (p1.1 = p.1 ∨ h p1.1 = none) := by
    intro k i hk
    have h1 : (is.map (fun i => W[i]?))[k]? = some W[i]? := by rw [List.getElem?_map, hk]; rfl
    rw [e, List.getElem?_map] at h1
    cases hV : V[k]? with
    | none => rw [hV] at h1; cases h1
    | some p =>
      rw [hV] at h1
      have hlt : k < V1.length := by rw [hn.1]; exact (List.getElem?_eq_some_iff.mp hV).1
      have hV1 := List.getElem?_eq_getElem hlt
      exact ⟨p, V1[k], (Option.some.inj h1).symm, rfl, hV1, hn.2 k p _ hV hV1⟩
  have fi : ∀ (i k : Nat), is.findIdx? (fun j => Nat.beq j i) = some k → is[k]? = some i := by
    intro i k hk
    obtain ⟨hlt, hb, -⟩ := List.findIdx?_eq_some_iff_getElem.mp hk
    rw [List.getElem?_eq_getElem hlt, Nat.eq_of_beq_eq_true hb]
  have fn : ∀ (i : Nat), is.findIdx? (fun j => Nat.beq j i) = none → i ∉ is := by
    intro i hk hi
    have := List.findIdx?_eq_none_iff.mp hk i hi
    rw [Nat.beq_refl] at this
    cases this
  have el : ∀ (i : Nat) (p : (Nat × Nat) × xO), (zjn W is V1)[i]? = some p → ∃ p0 : (Nat × Nat) × xO, W[i]? = some p0 ∧ ((∃ k : Nat, is[k]? = some i ∧ V1[k]? = some p ∧ (p.1 = p0.1 ∨ h p.1 = none)) ∨ i ∉ is ∧ p = p0) := by
    intro i p hp
    unfold zjn at hp
    rw [List.getElem?_mapIdx] at hp
    cases hW : W[i]? with
    | none => rw [hW] at hp; cases hp
    | some p0 =>
      rw [hW] at hp
      have hp := Option.some.inj hp
      refine ⟨p0, rfl, ?_⟩
      split at hp
      next k hk =>
        have hk2 := fi i k hk
        obtain ⟨q, q1, a1, a2, a3, a4⟩ := at_ k i hk2
        rw [hW] at a1
        cases a1
        rw [a3] at hp
        dsimp only at hp
        subst hp
        exact Or.inl ⟨k, hk2, a3, a4⟩
      next hk => exact Or.inr ⟨fn i hk, hp.symm⟩
  have old : ∀ (p0 : (Nat × Nat) × xO) (j : Nat), W[j]? = some p0 → h p0.1 ≠ none := fun p0 j hj => by
    rw [(hw.2 _ (List.mem_of_getElem? hj)).2]
    exact Option.some_ne_none _
  refine ⟨List.pairwise_iff_getElem.mpr ?_, fun p hp => ?_⟩
  · intro i j hi2 hj2 hij z
    have hi : i < (zjn W is V1).length := by rw [List.length_map] at hi2; exact hi2
    have hj : j < (zjn W is V1).length := by rw [List.length_map] at hj2; exact hj2
    rw [List.getElem_map, List.getElem_map] at z
    obtain ⟨p0, a1, a2⟩ := el i _ (List.getElem?_eq_getElem hi)
    obtain ⟨q0, b1, b2⟩ := el j _ (List.getElem?_eq_getElem hj)
    have hne : p0.1 ≠ q0.1 := hw.ne i j (q := p0.1) (o := p0.2) (q2 := q0.1) (o2 := q0.2) a1 b1 (by omega)
    rcases a2 with ⟨k, c1, c2, c3⟩ | ⟨c1, c2⟩ <;> rcases b2 with ⟨k2, d1, d2, d3⟩ | ⟨d1, d2⟩
    · have hk : k ≠ k2 := fun y => by
        subst y
        exact absurd (Option.some.inj (c1.symm.trans d1)) (by omega)
      exact hv.ne k k2 (q := (zjn W is V1)[i].1) (o := (zjn W is V1)[i].2) (q2 := (zjn W is V1)[j].1) (o2 := (zjn W is V1)[j].2) c2 d2 hk z
    · rw [d2] at z
      rcases c3 with c3 | c3
      · exact hne (c3.symm.trans z)
      · rw [z] at c3
        exact old q0 j b1 c3
    · rw [c2] at z
      rcases d3 with d3 | d3
      · exact hne (z.trans d3)
      · rw [← z] at d3
        exact old p0 i a1 d3
    · rw [c2, d2] at z
      exact hne z
  · obtain ⟨i, hi⟩ := List.getElem?_of_mem hp
    obtain ⟨p0, h1, h3⟩ := el i p hi
    rcases h3 with ⟨k, -, hk, -⟩ | ⟨hni, rfl⟩
    · exact hv.2 p (List.mem_of_getElem? hk)
    · obtain ⟨a1, a2⟩ := hw.2 p (List.mem_of_getElem? h1)
      refine ⟨a1, ?_⟩
      rw [(hf p.1 (by rw [a2]; exact Option.some_ne_none _)).2 ?_]
      · exact a2
      · intro hm
        obtain ⟨v, hv1, hv2⟩ := List.mem_map.mp hm
        obtain ⟨k, hk⟩ := List.getElem?_of_mem hv1
        have h4 : (V.map some)[k]? = some (some v) := by rw [List.getElem?_map, hk]; rfl
        rw [← e, List.getElem?_map] at h4
        cases hik : is[k]? with
        | none => rw [hik] at h4; cases h4
        | some j =>
          rw [hik] at h4
          have h5 : W[j]? = some v := Option.some.inj h4
          have hji : j ≠ i := fun z => hni (by rw [← z]; exact List.mem_of_getElem? hik)
          obtain ⟨v1, v2⟩ := v
          obtain ⟨p1, p2⟩ := p
          exact hw.ne j i h5 h1 hji hv2
end ZLIB
section ZFW
variable {h h1 h2 : xH} {W V V1 : zWorld} {N M : List (Nat × Nat)}
theorem zOn.of (i : Nat) {q : Nat × Nat} (e : N[i]? = some q) : zOn N h q := Or.inl (List.mem_of_getElem? e)
theorem zFw.rf : zFw N h h := fun _ h0 => ⟨h0, fun _ => rfl⟩
theorem zFw.put (hf : zFw N h h1) {q : Nat × Nat} (hq : zOn N h q) (o : xO) : zFw N h (xup h1 q o) := fun z h0 => by
  obtain ⟨a1, a2⟩ := hf z h0
  refine ⟨?_, fun hz => zup_n (fun e => ?_) (a2 hz)⟩
  · unfold xup
    split
    · exact Option.some_ne_none _
    · exact a1
  · subst e
    rcases hq with hq | hq
    · exact hz hq
    · exact h0 hq
theorem zFw.tr (ha : zFw N h h1) (hv : zFw M h1 h2) (hs : ∀ q ∈ M, zOn N h q) : zFw N h h2 := fun z h0 => by
  obtain ⟨a1, a2⟩ := ha z h0
  obtain ⟨b1, b2⟩ := hv z a1
  refine ⟨b1, fun hz => (b2 (fun e => ?_)).trans (a2 hz)⟩
  rcases hs z e with q | q
  · exact hz q
  · exact h0 q
/-- under a new name, or the old one -/
theorem zOn.sw (hn : zSw h1 V V1) (ha : zFw N h h1) (i : Nat) {q q1 : Nat × Nat} {o o1 : xO} (e : V[i]? = some (q, o)) (e1 : V1[i]? = some (q1, o1)) (hq : zOn N h q) : zOn N h q1 := by
  rcases hn.2 i _ _ e e1 with y | y
  · have y : q1 = q := y
    rw [y]
    exact hq
  · refine Or.inr (Classical.byContradiction fun z => ?_)
    exact (ha q1 z).1 y
theorem zWd.pres (hv : zWd h1 V1) : ∀ q ∈ V1.map (fun p => p.1), h q ≠ none → h1 q ≠ none := fun q hq _ => by
  obtain ⟨p, hp, e⟩ := List.mem_map.mp hq
  rw [← e, (hv.2 p hp).2]
  exact Option.some_ne_none _
theorem zFr.w (hf : zFr N h h1) (hv : ∀ q ∈ N, h q ≠ none → h1 q ≠ none) : zFw N h h1 := fun q h0 => by
  by_cases hq : q ∈ N
  · exact ⟨hv q hq h0, fun z => absurd hq z⟩
  · rw [hf q hq]
    exact ⟨h0, fun _ => rfl⟩
end ZFW
section ZNEW
/-- the names that are left, from the k-th on -/
def zMax : Nat := 400000
def zNm (k : Nat) : List (Nat × Nat) := (List.range' k (zMax - k)).map (fun j => ((1 : Nat), j))
theorem zNm_s {k : Nat} (hk : k < zMax) : zNm k = (1, k) :: zNm (k + 1) := by
  unfold zNm
  have e : zMax - k = (zMax - (k + 1)) + 1 := by omega
  rw [e, List.range'_succ]
  rfl
variable {P : xPr} {ct : zCt} {d mid pc : Nat} {l : xL} {st : List xV} {Q : xR → xA → Prop} {ops : List Nat} {k c0 s0 : Nat} {h : xH} {W : zWorld}
theorem zW.newa {ty : ArrayType} {kd : Nat} {n : Int32} {r : List xV} (hc : zC P mid pc (.newarray ty) [kd]) (hk : k < zMax) (hf : zFree k h) (h0 : ¬ n < 0) (hn : n.toNatClampNeg ≤ 67108864) (kk : zWc P ct d mid (pc + 2) l (.inr (1, k) :: r) (zNm (k + 1), c0 + 1, s0 + n.toNatClampNeg, xup h (1, k) (.inr (kd, n.toNatClampNeg, fun _ => .inl (defaultValue (xak kd))))) Q) : zWc P ct d mid pc l (.inl (.int n) :: r) (zNm k, c0, s0, h) Q := by
  refine zW.s2 hc (fun _ => rfl) rfl ?_ kk
  simp only [xs2]
  rw [zNm_s hk]
  exact if_pos ⟨h0, hn, by rw [hf k (Nat.le_refl _)]; rfl, Nat.one_ne_zero⟩
theorem zW.anewa {idx kd : Nat} {n : Int32} {r : List xV} (hc : zC P mid pc (.anewarray idx) [kd]) (hk : k < zMax) (hf : zFree k h) (h0 : ¬ n < 0) (hn : n.toNatClampNeg ≤ 67108864) (kk : zWc P ct d mid (pc + 3) l (.inr (1, k) :: r) (zNm (k + 1), c0 + 1, s0 + n.toNatClampNeg, xup h (1, k) (.inr (kd, n.toNatClampNeg, fun _ => .inl .null))) Q) : zWc P ct d mid pc l (.inl (.int n) :: r) (zNm k, c0, s0, h) Q := by
  refine zW.s2 hc (fun _ => rfl) rfl ?_ kk
  simp only [xs2]
  rw [zNm_s hk]
  exact if_pos ⟨h0, hn, by rw [hf k (Nat.le_refl _)]; rfl, Nat.one_ne_zero⟩
theorem zW.new {idx ci : Nat} {tc : List Nat} (hc : zC P mid pc (.new idx) (ci :: tc)) (hk : k < zMax) (hf : zFree k h) (kk : zWc P ct d mid (pc + 3) l (.inr (1, k) :: st) (zNm (k + 1), c0 + 1, s0 + tc.length, xup h (1, k) (.inl (ci, tc.map xd0))) Q) : zWc P ct d mid pc l st (zNm k, c0, s0, h) Q := by
  refine zW.s2 hc (fun _ => rfl) rfl ?_ kk
  simp only [xs2]
  rw [zNm_s hk]
  exact if_pos ⟨by rw [hf k (Nat.le_refl _)]; rfl, Nat.one_ne_zero⟩
theorem zWd.add (hw : zWd h W) (hf : zFree k h) (o : xO) : zWd (xup h (1, k) o) (W ++ [((1, k), o)]) := by
  have hne : ∀ p ∈ W, p.1 ≠ (1, k) := fun p hp e => by
    have h1 := (hw.2 p hp).2
    rw [e, hf k (Nat.le_refl _)] at h1
    cases h1
  refine ⟨?_, fun p hp => ?_⟩
  · rw [List.map_append]
    refine List.nodup_append.mpr ⟨hw.1, by simp, fun a ha b hb => ?_⟩
    obtain ⟨p, hp, rfl⟩ := List.mem_map.mp ha
    have hb : b = (1, k) := by simpa using hb
    rw [hb]
    exact hne p hp
  · rcases List.mem_append.mp hp with hp | hp
    · exact ⟨(hw.2 p hp).1, zup_n (hne p hp) (hw.2 p hp).2⟩
    · rw [List.mem_singleton.mp hp]
      exact ⟨Nat.one_ne_zero, zup_s⟩
theorem zFree.add (hf : zFree k h) (o : xO) : zFree (k + 1) (xup h (1, k) o) := fun j hj => zup_n (fun e => by
  have := congrArg Prod.snd e
  dsimp only at this
  omega) (hf j (by omega))
theorem zFree.put (hf : zFree k h) {q : Nat × Nat} {o : xO} (hq : h q = some o) (o1 : xO) : zFree k (xup h q o1) := fun j hj => zup_n (fun e => by
  rw [← e, hf j hj] at hq
  cases hq) (hf j hj)
/-- System.arraycopy -/
theorem zW.acp {idx a b kd n0 n1 : Nat} {cis : List Nat} {n dp sp : Int32} {q z : Nat × Nat} {r : List xV} {f g : Nat → xV} {A : xA} (hc : zC P mid pc (.invokestatic idx) (90 :: a :: b :: cis)) (hz : A.2.2.2 z = some (.inr (kd, n0, f))) (hq : A.2.2.2 q = some (.inr (kd, n1, g))) (hk : kd = 1 ∨ kd = 4) (hq0 : q.1 ≠ 0) (h3 : ¬ sp < 0 ∧ ¬ dp < 0 ∧ ¬ n < 0) (h2 : sp.toNatClampNeg + n.toNatClampNeg ≤ n0 ∧ dp.toNatClampNeg + n.toNatClampNeg ≤ n1) (hck : xcpk A.2.2.2 cis kd f sp.toNatClampNeg n.toNatClampNeg = true) (hs : (r.map xcat).sum ≤ 8)
    (kk : zWc P ct d mid (pc + 3) l r (A.1, A.2.1, A.2.2.1, xup A.2.2.2 q (.inr (kd, n1, xcpy f g sp.toNatClampNeg dp.toNatClampNeg n.toNatClampNeg))) Q) : zWc P ct d mid pc l (.inl (.int n) :: .inl (.int dp) :: .inr q :: .inl (.int sp) :: .inr z :: r) A Q := by
  refine zW.step hc rfl ?_ kk
  show (match A.2.2.2 z, A.2.2.2 q with
        | some (.inr (kd, n0, f)), some (.inr (kd1, n1, g)) => if (kd = kd1 ∧ (kd = 1 ∨ kd = 4) ∧ q.1 ≠ 0) ∧ (¬ sp < 0 ∧ ¬ dp < 0 ∧ ¬ n < 0) ∧ (sp.toNatClampNeg + n.toNatClampNeg ≤ n0 ∧ dp.toNatClampNeg + n.toNatClampNeg ≤ n1) ∧ xcpk A.2.2.2 cis kd f sp.toNatClampNeg n.toNatClampNeg = true ∧ (r.map xcat).sum ≤ 8 then some (pc + 3, l, r, (A.1, A.2.1, A.2.2.1, xup A.2.2.2 q (.inr (kd, n1, xcpy f g sp.toNatClampNeg dp.toNatClampNeg n.toNatClampNeg)))) else none
        | _, _ => none) = _
  rw [hz, hq]
  exact if_pos ⟨⟨rfl, hk, hq0⟩, h3, h2, hck, hs⟩
theorem zW.absi {idx : Nat} {x : Int32} {r : List xV} {A : xA} (hc : zC P mid pc (.invokestatic idx) [83]) (hs : (r.map xcat).sum ≤ 8) (kk : zWc P ct d mid (pc + 3) l (.inl (.int (if 0 ≤ x then x else 0 - x)) :: r) A Q) : zWc P ct d mid pc l (.inl (.int x) :: r) A Q :=
  zW.step hc rfl (if_pos hs) kk
end ZNEW
