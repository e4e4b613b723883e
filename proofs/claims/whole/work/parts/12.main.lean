/-! ===== THE PURE MACHINE'S RUN IS THE MACHINE'S: by induction on the steps ===== -/
section PXM
variable {l : Launch} {cl : List vw_C} {fty : Nat → Nat → FieldType} {TB : List Cond} {PM : List px_M} {na : Nat → Nat → Bool} {V : px_V}
theorem px_thr_spec {M : px_M} {pc : Nat} {st : List Value} {ci : Nat} (hM : px_mok cl TB PM M) (h : px_thr cl M pc st = some ci) : ∃ (idx js ic n : Nat) (x : vw_C) (tx : String), cl[ci]? = some x ∧ x.2.2 = 0 ∧ Bundle.fit x.1 = true ∧ Cond.classLink (px_my M).cls idx x.1 ∈ TB ∧ Cond.instantiable x.1 6 ∈ TB ∧ Cond.initialized x.1 ∈ TB ∧ Cond.stringRef (px_my M).cls js tx ∈ TB ∧
    (∀ w ∈ Bundle.ownAtoms (px_my M).cls ic x.1 px_ups, w ∈ TB ∨ w ∈ px_two) ∧ decode (px_mb M) pc = .ok (.new idx, 3) ∧ decode (px_mb M) (pc + 3) = .ok (.dup, 1) ∧ ((n = 2 ∧ decode (px_mb M) (pc + 3 + 1) = .ok (.ldc js, 2)) ∨ (n = 3 ∧ decode (px_mb M) (pc + 3 + 1) = .ok (.ldc_w js, 3))) ∧
    decode (px_mb M) (pc + 3 + 1 + n) = .ok (.invokespecial ic, 3) ∧ decode (px_mb M) (pc + 3 + 1 + n + 3) = .ok (.athrow, 1) ∧ px_noc M (pc + 3 + 1 + n + 3) = true ∧ (st.map fun v => v.category).sum ≤ 8 := by
  have dec : ∀ {q : Nat} {i : Instr}, px_mi M q = some i → px_sw i = false → decode (px_mb M) q = .ok (i, px_len i) := by
    intro q i h1 h2
    obtain ⟨n, h3, h4⟩ := hM.1 q i h1
    rw [h3, h4 h2]
  unfold px_thr at h
  split at h
  · rename_i idx h0
    split at h
    · rename_i cj z1 z2 hx
      split at h
      · rename_i j h3 h4
        split at h
        · rename_i z3 z4 z5 k hj h6 h9
          split at h
          · rename_i hq
            cases h
            obtain ⟨x, w1, w2, w3, w4, w5, w6⟩ := (hM.2 _ _ hx).2
            obtain ⟨tx, w7⟩ := (hM.2 _ _ hj).2
            exact ⟨idx, j, k, 2, x, tx, w1, w2, w3, w4, w5, w6, w7, (hM.2 _ _ hq.1).2 x w1, dec h0 rfl, dec h3 rfl, Or.inl ⟨rfl, dec h4 rfl⟩, dec h6 rfl, dec h9 rfl, hq.2.1, hq.2.2⟩
          · cases h
        · cases h
      · rename_i j h3 h4
        split at h
        · rename_i z3 z4 z5 k hj h6 h9
          split at h
          · rename_i hq
            cases h
            obtain ⟨x, w1, w2, w3, w4, w5, w6⟩ := (hM.2 _ _ hx).2
            obtain ⟨tx, w7⟩ := (hM.2 _ _ hj).2
            exact ⟨idx, j, k, 3, x, tx, w1, w2, w3, w4, w5, w6, w7, (hM.2 _ _ hq.1).2 x w1, dec h0 rfl, dec h3 rfl, Or.inr ⟨rfl, dec h4 rfl⟩, dec h6 rfl, dec h9 rfl, hq.2.1, hq.2.2⟩
          · cases h
        · cases h
      · cases h
    · cases h
  · cases h
set_option maxHeartbeats 4000000 in
theorem px_sound (hcl : px_clo cl fty TB) (hgood : px_good TB) (hPM : ∀ N ∈ PM, px_mok cl TB PM N ∧ px_cok TB N) (htr : ∀ e : Env, l.admits e → e.platform.stackTraces = false) :
    ∀ (n d : Nat) (M : px_M) (S : px_S) (G : px_G) (out : px_Out) (G' : px_G), px_mok cl TB PM M → px_run cl fty PM na V n d M S G = some (out, G') → px_Snd l cl TB na V d M S G out G' := by
  intro n
  induction n with
  | zero => intro d M S G out G' hM h; cases h
  | succ n ih =>
    intro d M S G out G' hM h
    have hle := px_run_le (n + 1) d M S G out G' h
    replace h : px_body cl fty PM na V (px_run cl fty PM na V n) d M S G = some (out, G') := h
    intro p e s m args below meth c base ext tA D H0 n0 s0 R H locs cells slots ls C hE hI hN hl hRf hRl hRc hRs
    have hls : ls.size = c.maxLocals := hl.1.trans C.2.2.2.1.symm
    unfold px_body at h
    split at h
    · cases h
    · rename_i i hi
      obtain ⟨len, hd, hlen⟩ := hM.1 _ _ hi
      split at h
      · rename_i S' hp
        exact px_pure_ok C.1 C.2.1 hd hlen hl hp (fun ls' hl' => ih d M S' G out G' hM h p e s m args below meth c base ext tA D H0 n0 s0 R H locs cells slots ls' C hE hI hN hl' hRf hRl hRc hRs)
      · split at h
        · rename_i r hh
          have hle2 := px_run_le n d M r.1 r.2 out G' h
          refine px_heap_ok C hcl (fun idx x hx => (hM.2 idx x hx).1) hE.2.1 hE.1 hI hN hls ⟨by omega, by omega⟩ hd hlen hh (Nat.le_trans hle2.1 hRc) (Nat.le_trans hle2.2 hRs) (fun H1 locs1 cells1 slots1 q1 q2 q3 => ?_)
          exact ih d M r.1 r.2 out G' hM h p e s m args below meth c base ext tA D H0 n0 s0 R H1 locs1 cells1 slots1 ls C hE q2 q3 (by rw [q1]; exact hl) hRf hRl hRc hRs
        · split at h
          · rename_i v hv
            cases h
            exact px_ret_ok C hI hN hd hlen hv
          · split at h
            · rename_i q hq
              obtain ⟨N, av, rest⟩ := q
              split at h
              · cases h
              · rename_i d
                split at h
                · rename_i hfit
                  obtain ⟨hcat, hav⟩ := hfit
                  dsimp only at hcat hav h
                  -- the callee's run
                  have call : ∀ (o1 : px_Out) (G1 : px_G), px_run cl fty PM na V n d N (0, lv_args 0 av, []) G = some (o1, G1) → px_le G1 G' →
                      (∀ (T' : State) (L : List Loc), Stand p l e R s m args below meth c T' (locs ++ L) (cells + (G1.1.length - G.1.length)) (slots + (G1.2 - G.2)) → (∀ q ∈ L, base ≤ q.base) → px_I base ext tA D cl H0 G1 T'.heap (locs ++ L) → px_N base n0 s0 G1 s (cells + (G1.1.length - G.1.length)) (slots + (G1.2 - G.2)) →
                        ∃ t, Steps p.tables e below (px_after (F0 m S.1 ls (rest.map (px_rv base ext))) T' (px_o base ext o1)) t ∧ px_Qn base ext tA D cl H0 below s out G' n0 s0 t) →
                      W p l e R s m args below meth c H locs cells slots (px_Qn base ext tA D cl H0 below s out G' n0 s0) (F0 m S.1 ls (S.2.2.map (px_rv base ext))) := by
                    intro o1 G1 hrun hle1 kk T hT X
                    have hI' : px_I base ext tA D cl H0 G T.heap locs := by rw [hT]; exact hI
                    obtain ⟨hmem, hl3, vm₁, mk, hW₁, hnm, X₁, hstep⟩ := px_link (ls := ls) hPM hM X C hE.2.1 hE.1 hI' hd hlen hq
                    subst hl3
                    have hleN := px_run_le n d N _ G o1 G1 hrun
                    obtain ⟨hNm, hNc⟩ := hPM N hmem
                    have hmet := px_met (l := l) (na := na) (V := V) hNc hav hleN (ih d N _ G o1 G1 hNm hrun) base ext tA D H0
                    obtain ⟨e1, e2, e3⟩ := hN
                    have hz := px_size X hT hI ⟨e1, e2, e3⟩
                    have hnm' : (T.setVm vm₁).methodNamed? (px_my N) = some mk := X₁.named hnm
                    have hle2 := hle1
                    have r1 : cells + (G1.1.length - G.1.length) ≤ R.cells := by have := hle2.1; have := hleN.1; omega
                    have r2 : slots + (G1.2 - G.2) ≤ R.slots := by have := hle2.2; have := hleN.2; omega
                    obtain ⟨o, t, T', L, X', hL, t1, t2, ⟨⟨rfl, t3⟩, hst⟩⟩ := px_back (R := R) hmet X₁ (g := { F0 m S.1 ls (S.2.2.map (px_rv base ext)) with stack := rest.map (px_rv base ext) }) rfl hls (by rw [C.2.1]; exact hd)
                      (by show 2 * 0 + _ ≤ 8; rw [px_cats]; omega) hnm' (by show d + 8 + 1 ≤ R.frames; omega) (by have := hNc.2.2.2.2; show 8 + (px_ml N + 11) + (42 * d + 200) ≤ R.locals; omega) r1 r2 (a := (av.map (px_rv base ext)).toArray)
                      (fun w hw => hgood w hw s args _ (T.setVm vm₁) X₁.warmed (px_shp_of X₁ rfl) (C.2.2.2.2.2.1 w hw)) hNc.1 hNc.2.1
                      ⟨rfl, hE.moved (U := (T.setVm vm₁).calling _ mk _) hW₁, by show px_I base ext tA D cl H0 G T.heap []; exact hI'.bare, by show T.heap.size = _; rw [hT]; exact hz⟩
                    have hI1 : px_I base ext tA D cl H0 G1 T'.heap (locs ++ L) := by
                      rw [t1]
                      refine t3.dress (fun q hq => ?_)
                      rcases List.mem_append.mp hq with z | z
                      · exact hI.2.2.2.2 q z
                      · exact hL q z
                    obtain ⟨t', a1, b1⟩ := kk T' L X' hL hI1 ⟨e1, by have := hleN.1; omega, by have := hleN.2; omega⟩
                    exact ⟨t', hstep _ (hst.trans a1), b1⟩
                  split at h
                  · rename_i v G1 hrun
                    have hle1 := px_run_le n (d + 1) M _ G1 out G' h
                    refine call (.inl v) G1 hrun hle1 (fun T' L X' hL hI1 hN1 => ?_)
                    have K := ih (d + 1) M (S.1 + 3, S.2.1, v.toList ++ rest) G1 out G' hM h p e s m args below meth c base ext tA D H0 n0 s0 R T'.heap (locs ++ L) _ _ ls C hE hI1 hN1 hl hRf hRl hRc hRs T' rfl X'
                    have hst : (v.toList ++ rest).map (px_rv base ext) = (v.map (px_rv base ext)).toList ++ rest.map (px_rv base ext) := by cases v <;> simp
                    rw [hst] at K
                    exact K
                  · rename_i x G1 hrun
                    split at h
                    · rename_i ci fs hg
                      split at h
                      · rename_i hok
                        split at h
                        · rename_i hpc hfd
                          have hle1 := px_run_le n (d + 1) M _ G1 out G' h
                          refine call (.inr x) G1 hrun hle1 (fun T' L X' hL hI1 hN1 => ?_)
                          obtain ⟨r0, hr0, cell, g1, g2, g3, -⟩ := hI1.2.1 x _ (px_ws_at hg)
                          have hKn := hE.1.1 ci r0 hr0
                          have hpl : e.platform.magicAccessors = ({} : Platform).magicAccessors := by rw [X'.admits.platform]
                          have hobj : ∀ k, cell.vm ≠ .statics k := fun k hk => by rw [g3] at hk; cases hk
                          obtain ⟨kC, hkC, -⟩ := hKn.2.2
                          let g : JFrame := F0 m S.1 ls (rest.map (px_rv base ext))
                          have hsr := px_srch (e := e) (f := g) (a := base + x) (s := s) hpl (own := (px_my M).cls) C.2.2.2.2.1 (args := args) (b := fun y => px_tk M ci y.catchType) (cell := cell) hobj ⟨kC, by rw [g2]; exact hkC⟩ c.exceptionTable.toList ((T'.setTop g).pushFrame (.throwing (base + x)))
                            (by rw [Stand.throwing_vm]; exact X'.warmed) (by rw [Stand.throwing_heap]; exact g1)
                            (fun y hy hcov => by
                              have h1 := List.all_eq_true.mp hok (y.startPc, y.endPc, y.handlerPc, y.catchType) (by rw [← C.2.2.2.2.2.2.2.2]; exact List.mem_map.mpr ⟨y, hy, rfl⟩)
                              have hcv : px_cov S.1 (y.startPc, y.endPc, y.handlerPc, y.catchType) = true := hcov
                              rw [hcv] at h1
                              simp only [Bool.not_true, Bool.false_or] at h1
                              split at h1
                              · rename_i cj z1 z2 hmx
                                simp only [Bool.and_eq_true, bne_iff_ne, ne_eq, Bool.or_eq_true, beq_iff_eq] at h1
                                obtain ⟨r2, w1, w2, w3, w4, w5, w6⟩ := (hM.2 _ _ hmx).2
                                have hK2 := hE.1.1 cj r2 w1
                                refine ⟨h1.1, r2.1, D.1 cj, C.2.2.2.2.2.1 _ w4, hK2.2.1, ?_⟩
                                have htk : px_tk M ci y.catchType = (ci == cj) := by unfold px_tk; rw [hmx]; rfl
                                rw [htk, g2]
                                by_cases hcc : ci = cj
                                · subst hcc
                                  rw [va_assign hK2.2]
                                  simp
                                · rw [hE.2.2.2 ci cj (h1.2.resolve_left hcc)]
                                  simp [hcc]
                              · cases h1)
                          obtain ⟨vm', hW', hgo⟩ := hsr
                          have hfe : px_fd (fun y => px_tk M ci y.catchType) g.pc c.exceptionTable.toList = some hpc := by
                            rw [px_fd_eq, C.2.2.2.2.2.2.2.2]
                            exact hfd
                          rw [hfe] at hgo
                          have K := ih (d + 1) M (hpc, S.2.1, [.ref x]) G1 out G' hM h p e s m args below meth c base ext tA D H0 n0 s0 R T'.heap (locs ++ L) _ _ ls C hE hI1 hN1 hl hRf hRl hRc hRs (T'.setVm vm') rfl (X'.noted hW')
                          obtain ⟨t, a1, b1⟩ := K
                          refine ⟨t, ?_, b1⟩
                          have hmeth : ((T'.setTop g).pushFrame (.throwing (base + x))).vm.method? g.method = some meth := by rw [Stand.throwing_vm]; exact X'.method'
                          have hAt : At T' g.method c below := X'.here
                          exact px_caught hAt (vm' := vm') (pc := hpc) (fun Q E dd acts => by rw [W.findHandler_eq hmeth X'.code]; exact hgo Q E dd acts) a1
                        · split at h
                          · rename_i hnoc
                            cases h
                            refine call (.inr x) G' hrun (px_le.rf _) (fun T' L X' hL hI1 hN1 => ?_)
                            obtain ⟨k1, k2, k3, k4, k5⟩ := X'.leaveThrown (base + x) (g := F0 m S.1 ls (rest.map (px_rv base ext))) rfl rfl rfl (px_cov_eq C.2.2.2.2.2.2.2.2 hnoc) C.2.2.2.2.2.2.1
                            refine ⟨_, k1, k2, k3, ⟨locs ++ L, ⟨k4, ?_⟩, hI1.2.2.2.2⟩, ?_⟩
                            · obtain ⟨e1, e2, e3⟩ := hN1
                              rw [show G'.1.length - n0 = cells + (G'.1.length - G.1.length) by omega, show G'.2 - s0 = slots + (G'.2 - G.2) by omega]
                              exact k5
                            · exact hI1.bare
                          · cases h
                      · cases h
                    · cases h
                  · cases h
                · cases h
            · split at h
              · rename_i ci hthr
                cases h
                obtain ⟨idx, js, ic, k, x, tx, w1, w2, w3, w4, w5, w6, w7, w8, d0, d3, d4, d6, d9, hnoc, hcat⟩ := px_thr_spec hM hthr
                intro T hT X
                have hthrow := px_thrown (l := l) (below := below) (R := R) (locs := locs) (ls := ls) (st := S.2.2.map (px_rv base ext)) C hgood hE.2.2.1 (htr e X.admits) hE.1 hI hN w1 w2 w3 w4 w5 w6 w7 w8 d0 d3 d4 d6 d9 (px_cov_eq C.2.2.2.2.2.2.2.2 hnoc) hls (by rw [px_cats]; exact hcat) (by omega) (by omega)
                  (by have : (G.1 ++ [_]).length ≤ _ := hRc; simpa using this) hRs
                obtain ⟨t, a1, b1, b2, b3, b4⟩ := hthrow T hT X
                refine ⟨t, a1, b1, b2, ⟨locs ++ [], ?_, by simpa using hI.2.2.2.2⟩, b4.bare⟩
                obtain ⟨e1, e2, e3⟩ := hN
                have q1 : (G.1 ++ [(.inr (ci, []) : px_E)]).length - n0 = cells + 1 := by simp; omega
                have q2 : G.2 + 6 - s0 = slots + 6 := by omega
                show px_End s t (locs ++ []) ((G.1 ++ [(.inr (ci, []) : px_E)]).length - n0) (G.2 + 6 - s0)
                rw [q1, q2]
                exact b3
              · cases h
end PXM
