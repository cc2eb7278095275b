set_option maxRecDepth 20000
section XSOUND
variable {l0 : Launch} {cl : List vw_C} {TS : List Cond} {SL : xSL} {P : xPr}
theorem xdrop {st rest : List xV} {n : Nat} {v : xV} (h : st.drop n = v :: rest) : st = ((st.take n).reverse).reverse ++ v :: rest ∧ ((st.take n).reverse).length = n := by
  have h1 : n ≤ st.length := by
    rcases Nat.le_total n st.length with q | q
    · exact q
    · rw [List.drop_of_length_le q] at h
      cases h
  refine ⟨?_, ?_⟩
  · rw [List.reverse_reverse, ← h, List.take_append_drop]
  · rw [List.length_reverse, List.length_take]
    omega
/-- what a call finds -/
theorem xinv_ok {i : Instr} {ops : List Nat} {st : List xV} {h : xH} {mid2 : Nat} {as rest : List xV} (e : xinv i ops st h = some (mid2, as, rest)) :
    (∃ (idx n : Nat) (tb : List Nat) (q : Nat × Nat) (ci : Nat) (fs as2 : List xV), i = .invokevirtual idx ∧ ops = n :: tb ∧ as = .inr q :: as2 ∧ as2.length = n ∧ st = as2.reverse ++ .inr q :: rest ∧ h q = some (.inl (ci, fs)) ∧ xpick ci tb = some mid2) ∨
    (∃ (idx n : Nat) (q : Nat × Nat) (as2 : List xV), i = .invokespecial idx ∧ ops = [n, mid2] ∧ as = .inr q :: as2 ∧ as2.length = n ∧ st = as2.reverse ++ .inr q :: rest) ∨
    ∃ (idx n : Nat), i = .invokestatic idx ∧ ops = [n, mid2] ∧ as.length = n ∧ st = as.reverse ++ rest := by
  unfold xinv at e
  split at e
  next idx =>
    split at e
    next n tb =>
      split at e
      next q r2 hd =>
        split at e
        next ci fs hq =>
          split at e
          next mid3 hp =>
            cases e
            obtain ⟨h1, h2⟩ := xdrop hd
            exact Or.inl ⟨idx, n, tb, q, ci, fs, _, rfl, rfl, rfl, h2, h1, hq, hp⟩
          next => cases e
        next => cases e
      next => cases e
    next => cases e
  next idx =>
    split at e
    next n mid3 =>
      split at e
      next q r2 hd =>
        cases e
        obtain ⟨h1, h2⟩ := xdrop hd
        exact Or.inr (Or.inl ⟨idx, n, q, _, rfl, rfl, rfl, h2, h1⟩)
      next => cases e
    next => cases e
  next idx =>
    split at e
    next n mid3 =>
      split at e
      next hle =>
        cases e
        refine Or.inr (Or.inr ⟨idx, n, rfl, rfl, ?_, ?_⟩)
        · rw [List.length_reverse, List.length_take]
          omega
        · rw [List.reverse_reverse, List.take_append_drop]
      next => cases e
    next => cases e
  next => cases e
set_option maxHeartbeats 8000000 in
/-- THE SMALL MACHINE IS THE MACHINE'S OWN: what it comes to, the machine comes to -/
theorem xrun_ok (G : xG P cl TS SL) (hflag : l0.stackTraces = false) {ct : Nat → Nat → List xV → xA → Option (xR × xA)} (hct : ∀ (d mid : Nat) (as : List xV) (A : xA) (res : xR) (A2 : xA), ct d mid as A = some (res, A2) → xMet l0 P cl TS SL d mid as A res A2) :
    ∀ (n d mid pc : Nat) (l : xL) (st : List xV) (A : xA) (res : xR) (A2 : xA), xrun P ct n d mid pc l st A = some (res, A2) → xSim l0 P cl TS SL d mid pc l st A res A2 := by
  intro n
  induction n with
  | zero =>
    intro d mid pc l st A res A2 h
    cases h
  | succ n ih =>
    intro d mid pc l st A res A2 h
    unfold xrun at h
    split at h
    next => cases h
    next i ops hP =>
      obtain ⟨⟨n1, hd, hn⟩, hT, hTc⟩ := G.2.2.1 mid pc i ops hP
      split at h
      next v hv =>
        cases h
        refine ⟨⟨Nat.le_refl _, Nat.le_refl _⟩, ?_⟩
        intro p e R s m args below meth c H locs cells slots Q ls ad D B X hml htab hl hk hI hE hZ hR hbud hfin
        exact hfin.1 pc i ops v ad H locs ls l st cells slots hP hv rfl xAg.rf hI hl hk ⟨by omega, by omega⟩
      next hv =>
        split at h
        next E hE9 =>
          split at h
          next hg =>
            cases h
            refine ⟨⟨Nat.le_succ _, Nat.le_add_right _ _⟩, ?_⟩
            intro p e R s m args below meth c H locs cells slots Q ls ad D B X hml htab hl hk hI hE hZ hR hbud hfin
            refine hfin.2.1 pc E ad H locs ls l st cells slots hE9 rfl xAg.rf hI hl hk ⟨?_, ?_⟩ hg.1 hg.2
            · have := hbud.1
              dsimp only at this
              omega
            · have := hbud.2
              dsimp only at this
              omega
          next => cases h
        next =>
          split at h
          next z hz =>
            obtain ⟨pc3, l3, st3, A3⟩ := z
            have hs := ih _ _ _ _ _ _ _ _ h
            have hmo := xs_mono hz
            obtain ⟨hs1, hs2⟩ := hs
            dsimp only at hmo hs1 hs2 hz
            refine ⟨⟨Nat.le_trans hmo.1 hs1.1, Nat.le_trans hmo.2 hs1.2⟩, ?_⟩
            intro p e R s m args below meth c H locs cells slots Q ls ad D B X hml htab hl hk hI hE hZ hR hbud hfin
            refine xs_ok (P := P) X hml hd hn hT hTc ⟨by omega, by omega⟩ hl hk hI hE hz ⟨by omega, by omega⟩ ?_
            intro ad2 H2 locs2 ls2 cells2 slots2 hg1 hg2 hI2 hl2 hk2 hc2 hs22
            have hg : xAg ad ad2 A.2.2.2 A3.2.2.2 := ⟨hg1, hg2⟩
            exact hs2 p e R s m args below meth c H2 locs2 cells2 slots2 Q ls2 ad2 D B X hml htab hl2 hk2 hI2 (hE.ag hg) hZ hR ⟨by omega, by omega⟩ (hfin.go hg)
          next hz =>
            split at h
            next mid2 as rest d2 hinv =>
              split at h
              next hw =>
                -- the callee
                have callee : ∀ (n2 : Nat), xMF P TS mid2 n2 → ∀ (r3 : xR) (A3 : xA), (match ct d2 mid2 as A with
                    | some z => some z
                    | none => xrun P ct n d2 mid2 0 (xar 0 as) [] A) = some (r3, A3) → xMet l0 P cl TS SL d2 mid2 as A r3 A3 := by
                  intro n2 hmf r3 A3 hm
                  split at hm
                  next z hc =>
                    cases hm
                    exact hct _ _ _ _ _ _ hc
                  next => exact xMet_of G hflag hmf hw.1 (ih _ _ _ _ _ _ _ _ hm)
                have calls : ∀ (r3 : xR) (A3 : xA), (match ct d2 mid2 as A with
                    | some z => some z
                    | none => xrun P ct n d2 mid2 0 (xar 0 as) [] A) = some (r3, A3) → (A.2.1 ≤ A3.2.1 ∧ A.2.2.1 ≤ A3.2.2.1) ∧ ∀ (p : Program) (e : Env) (R : Room) (s : State) (m : MethodId) (args : Array Value) (below : List Frame) (meth : Method) (c : Code) (H : Heap) (locs : List Loc) (cells slots : Nat) (ls : Array Slot) (ad : xN) (D : va_G) (B : Nat),
                      xCx p s m args meth c D cl TS (P.2.1 mid).1.cls (P.2.1 mid).1.name (P.2.1 mid).2.1 → c.maxLocals = ls.size → xok (xlv A.2.2.2) l st → xI s D cl B ad A.2.2.2 H locs → xE s B ad A.2.2.2 → xZ s B SL → (d2 + 2 ≤ R.frames ∧ 40 * (d2 + 2) ≤ R.locals) → (cells + (A3.2.1 - A.2.1) ≤ R.cells ∧ slots + (A3.2.2.1 - A.2.2.1) ≤ R.slots) →
                      ∃ a, vx_Run p l0 e R s m args below meth c H locs cells slots (A3.2.1 - A.2.1) (A3.2.2.1 - A.2.2.1) (F0 m pc ls (st.map (xc ad))) (rest.map (xc ad)) (xQc cl D B ad A A3 r3 a) (xXc cl D B ad A A3 r3) (fun q => B ≤ q) := by
                  intro r3 A3 hm
                  rcases xinv_ok hinv with ⟨idx, n2, tb, q, ci, fs, as2, rfl, rfl, rfl, hlen, rfl, hq, hpk⟩ | ⟨idx, n2, q, as2, rfl, rfl, rfl, hlen, rfl⟩ | ⟨idx, n2, rfl, rfl, hlen, rfl⟩
                  · have hs : xsV P TS cl (P.2.1 mid).1.cls idx n2 ci mid2 := hTc ci mid2 hpk
                    have hM := callee n2 hs.1 r3 A3 hm
                    refine ⟨hM.1, ?_⟩
                    intro p e R s m args below meth c H locs cells slots ls ad D B X hml hk hI hE hZ hR hf
                    cases hn
                    have hlv : ∀ v ∈ (.inr q :: as2 : List xV), xlv A.2.2.2 v := by
                      intro v hv
                      refine hk.2 v ?_
                      rcases List.mem_cons.mp hv with rfl | hv
                      · exact List.mem_append_right _ List.mem_cons_self
                      · exact List.mem_append_left _ (List.mem_reverse.mpr hv)
                    refine ⟨((.inr q :: as2 : List xV).map (xc ad)).toArray, ?_⟩
                    rw [List.map_append, List.map_reverse, List.map_cons]
                    exact xrunV X hml G.1 hM hs hq hlen hI hE hZ hlv hR (by rw [xsum_c]; exact hw.2) hd hf
                  · have hs : xsI P TS (P.2.1 mid).1.cls idx n2 mid2 := hTc
                    have hM := callee n2 hs.1 r3 A3 hm
                    refine ⟨hM.1, ?_⟩
                    intro p e R s m args below meth c H locs cells slots ls ad D B X hml hk hI hE hZ hR hf
                    cases hn
                    have hlv : ∀ v ∈ (.inr q :: as2 : List xV), xlv A.2.2.2 v := by
                      intro v hv
                      refine hk.2 v ?_
                      rcases List.mem_cons.mp hv with rfl | hv
                      · exact List.mem_append_right _ List.mem_cons_self
                      · exact List.mem_append_left _ (List.mem_reverse.mpr hv)
                    refine ⟨((.inr q :: as2 : List xV).map (xc ad)).toArray, ?_⟩
                    rw [List.map_append, List.map_reverse, List.map_cons]
                    exact xrunI X hml G.1 hM hs hlen hI hE hZ hlv hR (by rw [xsum_c]; exact hw.2) hd hf
                  · have hs : xsS P TS (P.2.1 mid).1.cls idx n2 mid2 := hTc
                    have hM := callee n2 hs.1 r3 A3 hm
                    refine ⟨hM.1, ?_⟩
                    intro p e R s m args below meth c H locs cells slots ls ad D B X hml hk hI hE hZ hR hf
                    cases hn
                    have hlv : ∀ v ∈ as, xlv A.2.2.2 v := fun v hv => hk.2 v (List.mem_append_left _ (List.mem_reverse.mpr hv))
                    refine ⟨(as.map (xc ad)).toArray, ?_⟩
                    rw [List.map_append, List.map_reverse]
                    exact xrunS X hml G.1 hM hs hlen hI hE hZ hlv hR (by rw [xsum_c]; exact hw.2) hd hf
                have hrest : ∀ v ∈ rest, v ∈ st := by
                  intro v hmem
                  rcases xinv_ok hinv with ⟨idx, n2, tb, q, ci, fs, as2, rfl, rfl, rfl, hlen, rfl, hq, hpk⟩ | ⟨idx, n2, q, as2, rfl, rfl, rfl, hlen, rfl⟩ | ⟨idx, n2, rfl, rfl, hlen, rfl⟩
                  · exact List.mem_append_right _ (List.mem_cons_of_mem _ hmem)
                  · exact List.mem_append_right _ (List.mem_cons_of_mem _ hmem)
                  · exact List.mem_append_right _ hmem
                split at h
                next v A3 hm =>
                  obtain ⟨hm1, hcalls⟩ := calls _ _ hm
                  have hs := ih _ _ _ _ _ _ _ _ h
                  obtain ⟨hs1, hs2⟩ := hs
                  refine ⟨⟨Nat.le_trans hm1.1 hs1.1, Nat.le_trans hm1.2 hs1.2⟩, ?_⟩
                  intro p e R s m args below meth c H locs cells slots Q ls ad D B X hml htab hl hk hI hE hZ hR hbud hfin
                  obtain ⟨a, hr⟩ := hcalls p e R s m args below meth c H locs cells slots ls ad D B X (hml.trans hl.1.symm) hk hI hE hZ hR ⟨by omega, by omega⟩
                  refine xgo hr hI (fun v2 ad2 H1 locs1 hres hg hI1 hlv1 => ?_) (fun E ce q9 ad2 H1 locs1 hres => by cases hres)
                  cases hres
                  have hst : (v.map (xc ad2)).toList ++ rest.map (xc ad) = (v.toList ++ rest).map (xc ad2) := by
                    rw [List.map_append, hg.st (fun u hu => hk.2 u (hrest u hu))]
                    cases v <;> rfl
                  rw [hst]
                  refine hs2 p e R s m args below meth c H1 locs1 _ _ Q ls ad2 D B X hml htab (by rw [hg.lm hk.1]; exact hl) ?_ hI1 (hE.ag hg) hZ hR ⟨by omega, by omega⟩ (hfin.go hg)
                  refine ⟨fun z hz => (hg.1 _ (hk.1 z hz)).1, fun u hu => ?_⟩
                  rcases List.mem_append.mp hu with hu | hu
                  · cases v with
                    | none => cases hu
                    | some y => exact hlv1 u (by rw [List.mem_singleton.mp hu])
                  · exact (hg.1 u (hk.2 u (hrest u hu))).1
                next E A3 hm =>
                  obtain ⟨hm1, hcalls⟩ := calls _ _ hm
                  split at h
                  next hpc ln k hh =>
                    have hs := ih _ _ _ _ _ _ _ _ h
                    obtain ⟨hs1, hs2⟩ := hs
                    refine ⟨⟨Nat.le_trans hm1.1 hs1.1, Nat.le_trans hm1.2 hs1.2⟩, ?_⟩
                    intro p e R s m args below meth c H locs cells slots Q ls ad D B X hml htab hl hk hI hE hZ hR hbud hfin
                    obtain ⟨a, hr⟩ := hcalls p e R s m args below meth c H locs cells slots ls ad D B X (hml.trans hl.1.symm) hk hI hE hZ hR ⟨by omega, by omega⟩
                    refine xgo hr hI (fun v2 ad2 H1 locs1 hres => by cases hres) (fun E2 ce q9 ad2 H1 locs1 hres hg hI1 hcell hvm hcls => ?_)
                    cases hres
                    obtain ⟨hx, hb, hown, hts, hnm, hK, hcl9⟩ := id X
                    obtain ⟨pre, suf, x, name, hsplit, hpass, hcov, hct0, hlk, hca, hpc9, hkL, hdec⟩ := G.2.2.2.2 mid pc E hpc ln k hh
                    refine vx_catch hown pre x suf (htab.trans hsplit) (fun z hz => ?_) hcov hct0 (hts _ hlk) (hts _ hca) hcell hvm hcls ?_
                    · rcases hpass z hz with h1 | ⟨h1, nm2, h2, h3⟩
                      · exact Or.inl h1
                      · exact Or.inr ⟨h1, nm2, hts _ h2, hZ.2.2.2.1 _ h3⟩
                    · rw [hpc9]
                      have hl1 : lv_has ls (P.2.1 mid).2.2.1 (xlm ad2 l) := by rw [hg.lm hk.1]; exact hl
                      have go : ∀ (ls2 : Array Slot) (lv2 : List (Nat × Value)), (k, Value.ref q9) :: (xlm ad2 l).filter (fun q => !(q.1 == k) && !(q.1 + 1 == k && q.2.category == 2)) = lv2 → lv_has ls2 (P.2.1 mid).2.2.1 lv2 → W p l0 e R s m args below meth c H1 locs1 (cells + (A3.2.1 - A.2.1)) (slots + (A3.2.2.1 - A.2.2.1)) Q (F0 m (hpc + ln) ls2 []) := by
                        intro ls2 lv2 e2 hl2
                        have hl3 : lv_has ls2 (P.2.1 mid).2.2.1 (xlm ad2 (xrm l k)) := by
                          refine ⟨hl2.1, hl2.2.1, fun q hq => hl2.2.2 q ?_⟩
                          rw [← e2]
                          refine List.mem_cons_of_mem _ ?_
                          obtain ⟨z, hz, rfl⟩ := List.mem_map.mp hq
                          obtain ⟨hz1, hz2⟩ := List.mem_filter.mp hz
                          refine List.mem_filter.mpr ⟨List.mem_map.mpr ⟨z, hz1, rfl⟩, ?_⟩
                          dsimp only
                          rw [xc_cat]
                          exact hz2
                        refine hs2 p e R s m args below meth c H1 locs1 _ _ Q ls2 ad2 D B X hml htab hl3 ⟨fun z hz => (hg.1 _ (hk.1 z (List.mem_filter.mp hz).1)).1, fun u hu => by cases hu⟩ hI1 (hE.ag hg) hZ hR ⟨by omega, by omega⟩ (hfin.go hg)
                      rcases hdec with ⟨f, hf, rfl, hdd⟩ | ⟨rfl, hdd⟩
                      · exact lv_astore_n hx hb hdd hf hl1 hkL rfl (fun ls2 hl2 => go ls2 _ rfl hl2)
                      · exact lv_astore hx hb hdd hl1 hkL rfl (fun ls2 hl2 => go ls2 _ rfl hl2)
                  next hh =>
                    split at h
                    next hnil =>
                      cases h
                      refine ⟨hm1, ?_⟩
                      intro p e R s m args below meth c H locs cells slots Q ls ad D B X hml htab hl hk hI hE hZ hR hbud hfin
                      obtain ⟨a, hr⟩ := hcalls p e R s m args below meth c H locs cells slots ls ad D B X (hml.trans hl.1.symm) hk hI hE hZ hR ⟨by omega, by omega⟩
                      refine xgo hr hI (fun v2 ad2 H1 locs1 hres => by cases hres) (fun E2 ce q9 ad2 H1 locs1 hres hg hI1 hcell hvm hcls => ?_)
                      exact hfin.2.2 pc E2 ce q9 ad2 H1 locs1 ls _ _ _ hres hnil hg hI1 hcell hvm hcls ⟨by omega, by omega⟩
                    next => cases h
                next => cases h
              next => cases h
            next => cases h
end XSOUND
