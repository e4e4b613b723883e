/-! ===== the pure machine: calls, answers, exceptions ===== -/
abbrev px_Out : Type := Option Value ⊕ Nat
def px_nar : FieldType → Int32 → Bool
  | .int, _ => true
  | .boolean, x => x == 0 || x == 1
  | .byte, x => x == 0
  | .char, x => decide (0 ≤ x) && decide (x ≤ 65535)
  | _, _ => false
def px_ref : Option FieldType → Bool
  | some (.object _) => true
  | some (.array _) => true
  | _ => false
def px_ret (M : px_M) (i : Instr) (st : List Value) : Option (Option Value) := match i with
  | .return_ => match st, px_mr M with
    | [], none => some none
    | _, _ => none
  | .ireturn => match st, px_mr M with
    | [.int v], some ty => if px_nar ty v = true then some (some (.int v)) else none
    | _, _ => none
  | .lreturn => match st, px_mr M with
    | [.long v], some .long => some (some (.long v))
    | _, _ => none
  | .areturn => match st with
    | [v] => if px_isr v = true ∧ px_ref (px_mr M) = true then some (some v) else none
    | _ => none
  | _ => none
/-- which method is called, with what, and what stays on the stack -/
def px_inv (V : px_V) (cl : List vw_C) (PM : List px_M) (M : px_M) (i : Instr) (st : List Value) (G : px_G) : Option (px_M × List Value × List Value) := match i with
  | .invokevirtual idx => match px_mx M idx with
    | some (1, mi, n, _) => match PM[mi]?, st.drop n with
      | some N, .ref b :: rest => match G.1[b]? with
        | some (.inr (ci, _)) => match cl[ci]? with
          | some x => if x.1 = (px_my N).cls then some (N, .ref b :: (st.take n).reverse, rest) else none
          | none => none
        | _ => none
      | some N, .float j :: rest => match px_str V j with
        | some _ => if (px_my N).cls = "java/lang/String" then some (N, .float j :: (st.take n).reverse, rest) else none
        | none => none
      | _, _ => none
    | _ => none
  | .invokespecial idx => match px_mx M idx with
    | some (9, mi, n, _) => match PM[mi]?, st.drop n with
      | some N, .ref b :: rest => some (N, .ref b :: (st.take n).reverse, rest)
      | _, _ => none
    | _ => none
  | .invokestatic idx => match px_mx M idx with
    | some (11, mi, n, _) => match PM[mi]? with
      | some N => if n ≤ st.length then some (N, (st.take n).reverse, st.drop n) else none
      | none => none
    | _ => none
  | _ => none
/-- does a handler cover the place -/
def px_cov (pc : Nat) (h : Nat × Nat × Nat × Nat) : Bool := decide (h.1 ≤ pc) && decide (pc < h.2.1)
/-- of each handler that covers the place it is known whether it takes the class -/
def px_hok (M : px_M) (na : Nat → Nat → Bool) (pc ci : Nat) : Bool := (px_mh M).all (fun h => !(px_cov pc h) || (match px_mx M h.2.2.2 with
  | some (7, cj, _, _) => h.2.2.2 != 0 && (ci == cj || na ci cj)
  | _ => false))
def px_tk (M : px_M) (ci t : Nat) : Bool := match px_mx M t with
  | some (7, cj, _, _) => ci == cj
  | _ => false
def px_hfd (M : px_M) (pc ci : Nat) : List (Nat × Nat × Nat × Nat) → Option Nat
  | [] => none
  | h :: r => if px_cov pc h = true ∧ px_tk M ci h.2.2.2 = true then some h.2.2.1 else px_hfd M pc ci r
def px_noc (M : px_M) (pc : Nat) : Bool := (px_mh M).all (fun h => !(px_cov pc h))
/-- 'throw new X(text)' -/
def px_thr (cl : List vw_C) (M : px_M) (pc : Nat) (st : List Value) : Option Nat := match px_mi M pc with
  | some (.new idx) => match px_mx M idx with
    | some (7, ci, _, _) => match px_mi M (pc + 3), px_mi M (pc + 3 + 1) with
      | some .dup, some (.ldc j) => match px_mx M j, px_mi M (pc + 3 + 1 + 2), px_mi M (pc + 3 + 1 + 2 + 3) with
        | some (4, _, _, _), some (.invokespecial k), some .athrow => if px_mx M k = some (13, ci, 0, 0) ∧ px_noc M (pc + 3 + 1 + 2 + 3) = true ∧ (st.map fun v => v.category).sum ≤ 8 then some ci else none
        | _, _, _ => none
      | some .dup, some (.ldc_w j) => match px_mx M j, px_mi M (pc + 3 + 1 + 3), px_mi M (pc + 3 + 1 + 3 + 3) with
        | some (4, _, _, _), some (.invokespecial k), some .athrow => if px_mx M k = some (13, ci, 0, 0) ∧ px_noc M (pc + 3 + 1 + 3 + 3) = true ∧ (st.map fun v => v.category).sum ≤ 8 then some ci else none
        | _, _, _ => none
      | _, _ => none
    | _ => none
  | _ => none
abbrev px_F : Type := Nat → px_M → px_S → px_G → Option (px_Out × px_G)
def px_body (cl : List vw_C) (fty : Nat → Nat → FieldType) (PM : List px_M) (na : Nat → Nat → Bool) (V : px_V) (ih : px_F) (d : Nat) (M : px_M) (S : px_S) (G : px_G) : Option (px_Out × px_G) := match px_mi M S.1 with
  | none => none
  | some i => match px_pure (px_ml M) i S.1 S.2.1 S.2.2 with
    | some S' => ih d M S' G
    | none => match px_heap cl fty V M i S.1 S.2.1 S.2.2 G with
      | some r => ih d M r.1 r.2
      | none => match px_ret M i S.2.2 with
        | some v => some (.inl v, G)
        | none => match px_inv V cl PM M i S.2.2 G with
          | some q => match d with
            | 0 => none
            | d + 1 => if (q.2.2.map fun v => v.category).sum ≤ 8 ∧ (lg_sl q.2.1).length ≤ px_ml q.1 then match ih d q.1 (0, lv_args 0 q.2.1, []) G with
              | some (.inl v, G') => ih (d + 1) M (S.1 + 3, S.2.1, v.toList ++ q.2.2) G'
              | some (.inr x, G') => match G'.1[x]? with
                | some (.inr (ci, _)) => if px_hok M na S.1 ci = true then match px_hfd M S.1 ci (px_mh M) with
                  | some h => ih (d + 1) M (h, S.2.1, [.ref x]) G'
                  | none => if px_noc M S.1 = true then some (.inr x, G') else none
                  else none
                | _ => none
              | none => none
              else none
          | none => match px_thr cl M S.1 S.2.2 with
            | some ci => some (.inr G.1.length, (G.1 ++ [.inr (ci, [])], G.2 + 6))
            | none => none
noncomputable def px_run (cl : List vw_C) (fty : Nat → Nat → FieldType) (PM : List px_M) (na : Nat → Nat → Bool) (V : px_V) (n : Nat) : px_F :=
  Nat.rec (motive := fun _ => px_F) (fun _ _ _ _ => none) (fun _ ih => px_body cl fty PM na V ih) n
/-- the heap grows -/
def px_le (G G' : px_G) : Prop := G.1.length ≤ G'.1.length ∧ G.2 ≤ G'.2
theorem px_le.rf (G : px_G) : px_le G G := ⟨Nat.le_refl _, Nat.le_refl _⟩
theorem px_le.tr {G G' G'' : px_G} (h : px_le G G') (h' : px_le G' G'') : px_le G G'' := ⟨Nat.le_trans h.1 h'.1, Nat.le_trans h.2 h'.2⟩
theorem px_le_push (G : px_G) (y : px_E) (n : Nat) : px_le G (G.1 ++ [y], G.2 + n) := ⟨by simp, Nat.le_add_right _ _⟩
theorem px_le_set (G : px_G) (k : Nat) (y : px_E) : px_le G (G.1.set k y, G.2) := ⟨by simp, Nat.le_refl _⟩
set_option maxHeartbeats 2000000 in
theorem px_heap_le {cl : List vw_C} {fty : Nat → Nat → FieldType} {V : px_V} {M : px_M} {i : Instr} {pc : Nat} {lv : px_L} {st : List Value} {G : px_G} {r : px_S × px_G} (h : px_heap cl fty V M i pc lv st G = some r) : px_le G r.2 := by
  unfold px_heap at h
  split at h
  · unfold px_get at h
    repeat' split at h
    all_goals first | (cases h; done) | (cases h; exact px_le.rf _)
  · unfold px_put at h
    repeat' split at h
    all_goals first | (cases h; done) | (cases h; exact px_le_set _ _ _)
  · unfold px_ldi at h
    repeat' split at h
    all_goals first | (cases h; done) | (cases h; exact px_le.rf _)
  · unfold px_ldl at h
    repeat' split at h
    all_goals first | (cases h; done) | (cases h; exact px_le.rf _)
  · unfold px_ldb at h
    repeat' split at h
    all_goals first | (cases h; done) | (cases h; exact px_le.rf _)
  · unfold px_lda at h
    repeat' split at h
    all_goals first | (cases h; done) | (cases h; exact px_le.rf _)
  · unfold px_sti at h
    repeat' split at h
    all_goals first | (cases h; done) | (cases h; exact px_le_set _ _ _)
  · unfold px_stl at h
    repeat' split at h
    all_goals first | (cases h; done) | (cases h; exact px_le_set _ _ _)
  · unfold px_stb at h
    repeat' split at h
    all_goals first | (cases h; done) | (cases h; exact px_le_set _ _ _)
  · unfold px_sta at h
    repeat' split at h
    all_goals first | (cases h; done) | (cases h; exact px_le_set _ _ _)
  · unfold px_aln at h
    repeat' split at h
    all_goals first | (cases h; done) | (cases h; exact px_le.rf _)
  · unfold px_nwa at h
    repeat' split at h
    all_goals first | (cases h; done) | (cases h; exact px_le_push _ _ _)
  · unfold px_nwr at h
    repeat' split at h
    all_goals first | (cases h; done) | (cases h; exact px_le_push _ _ _)
  · unfold px_new at h
    repeat' split at h
    all_goals first | (cases h; done) | (cases h; exact px_le_push _ _ _)
  · unfold px_cst at h
    repeat' split at h
    all_goals first | (cases h; done) | (cases h; exact px_le.rf _)
  · unfold px_cst at h
    repeat' split at h
    all_goals first | (cases h; done) | (cases h; exact px_le.rf _)
  · unfold px_csl at h
    repeat' split at h
    all_goals first | (cases h; done) | (cases h; exact px_le.rf _)
  · unfold px_obj at h
    repeat' split at h
    all_goals first | (cases h; done) | (cases h; exact px_le.rf _)
  · unfold px_ldc at h
    repeat' split at h
    all_goals first | (cases h; done) | (cases h; exact px_le.rf _)
  · unfold px_mm at h
    repeat' split at h
    all_goals first | (cases h; done) | (cases h; exact px_le.rf _)
  · unfold px_gst at h
    repeat' split at h
    all_goals first | (cases h; done) | (cases h; exact px_le.rf _)
  · cases h
theorem px_run_le {cl : List vw_C} {fty : Nat → Nat → FieldType} {PM : List px_M} {na : Nat → Nat → Bool} {V : px_V} : ∀ (n d : Nat) (M : px_M) (S : px_S) (G : px_G) (out : px_Out) (G' : px_G), px_run cl fty PM na V n d M S G = some (out, G') → px_le G G' := by
  intro n
  induction n with
  | zero => intro d M S G out G' h; cases h
  | succ n ih =>
    intro d M S G out G' h
    have h : px_body cl fty PM na V (px_run cl fty PM na V n) d M S G = some (out, G') := h
    unfold px_body at h
    split at h
    · cases h
    · split at h
      · exact ih _ _ _ _ _ _ h
      · split at h
        · rename_i hh
          exact (px_heap_le hh).tr (ih _ _ _ _ _ _ h)
        · split at h
          · cases h; exact px_le.rf _
          · split at h
            · split at h
              · cases h
              · split at h
                · split at h
                  · rename_i hc
                    exact (ih _ _ _ _ _ _ hc).tr (ih _ _ _ _ _ _ h)
                  · rename_i hc
                    split at h
                    · split at h
                      · split at h
                        · exact (ih _ _ _ _ _ _ hc).tr (ih _ _ _ _ _ _ h)
                        · split at h
                          · cases h; exact ih _ _ _ _ _ _ hc
                          · cases h
                      · cases h
                    · cases h
                  · cases h
                · cases h
            · split at h
              · cases h; exact px_le_push _ _ _
              · cases h
