/-! what holds at the law's entry -/
theorem sh_Kw1 {s : State} {a0 : Array Value} (h : ∀ w ∈ sh_ws, w.before a0 s = true) : sh_Kw s := by
  intro w hw args
  have h1 := h w hw
  have hW := State.WarmedH.refl s
  have ho : sh_okw w = true := (List.mem_filter.mp hw).2
  have gen : (w.onTables && w.keeps) = true → w.before args s = true := fun hk => word_at hW (Or.inl hk) h1
  cases w with
  | fieldLinkNest a i b n d x => exact va_Nw.use rfl (va_Nw.warmF hW h1)
  | methodLinkNest a i x y => exact va_Nw.use rfl (va_Nw.warmM hW h1)
  | declares x => exact va_Nw.use rfl (va_Nw.warmD hW h1)
  | castable a b => exact va_Nw.use rfl (va_Nw.warmC hW h1)
  | arrayClass ty => exact word_at hW (Or.inr ⟨ty, rfl⟩) h1
  | arrayOver ty =>
    cases ty with
    | object C => exact va_AO.use (va_AO.moved hW.alike (va_AO.of h1))
    | _ => exact gen ho
  | not c =>
    cases c with
    | castable a b => exact h1
    | _ => exact gen ho
  | _ => exact gen ho
theorem lq_inst : ∀ r ∈ vwCl, Cond.instantiable r.1 r.2.2 ∈ lw_tbl ∧ sh_okw (Cond.instantiable r.1 r.2.2) = true := by decide +kernel
theorem lq_arr : ∀ ty ∈ sh_ats, (∃ C, ty = .object C ∧ Cond.arrayOver ty ∈ sh_ws) ∨ ((∀ C, ty ≠ .object C) ∧ Cond.arrayClass ty ∈ sh_ws) := by
  intro ty h
  simp only [sh_ats, List.mem_cons, List.not_mem_nil, or_false] at h
  rcases h with rfl | rfl | rfl | rfl | rfl | rfl
  · exact .inr ⟨fun C e => (by cases e), wd_159⟩
  · exact .inr ⟨fun C e => (by cases e), wd_1079⟩
  · exact .inr ⟨fun C e => (by cases e), wd_942⟩
  · exact .inr ⟨fun C e => (by cases e), wd_941⟩
  · exact .inl ⟨_, rfl, wd_78⟩
  · exact .inl ⟨_, rfl, wd_140⟩
theorem lq_kd {s : State} (kw : sh_Kw s) : ∃ D, sh_Kd D s := by
  have e1 : ∀ ci : Nat, ∃ p : ClassId × (Nat → Nat), ∀ r : vw_C, vwCl[ci]? = some r → u_Kn s r.1 r.2.1 r.2.2 p.1 p.2 := fun ci => by
    cases hc : vwCl[ci]? with
    | none => exact ⟨(0, fun _ => 0), fun r h => by cases h⟩
    | some r =>
      have hi := lq_inst r (List.mem_of_getElem? hc)
      obtain ⟨cC, iS, h⟩ := u_known (C := r.1) (T := r.2.1) (N := r.2.2) (n := r.2.2) (args := #[]) (fun w hw => kw w hw #[]) (sh_clw hc) (kw _ (List.mem_filter.mpr ⟨List.mem_append_left _ hi.1, hi.2⟩) #[])
      exact ⟨(cC, iS), fun r' h' => by cases h'; exact h⟩
  have e2 : ∀ ti : Nat, ∃ cA : ClassId, ∀ ty : FieldType, sh_ats[ti]? = some ty → ArrOfT s cA ty ∧ va_RA s cA ty := fun ti => by
    cases hc : sh_ats[ti]? with
    | none => exact ⟨0, fun r h => by cases h⟩
    | some ty =>
      rcases lq_arr ty (List.mem_of_getElem? hc) with ⟨C, rfl, hw⟩ | ⟨hn, hw⟩
      · obtain ⟨comp, c, k, h1, h2, h3, h4, h5⟩ := Cond.arrayOver_spec (kw _ hw #[])
        exact ⟨c, fun ty' h' => by cases h'; exact ⟨fun n z => ⟨fun k h => (by cases h), k, h3, comp, h4⟩, k, comp, h3, h4, h1, h5⟩⟩
      · obtain ⟨c, k, comp, h1, h2, h3⟩ := Cond.arrayClass_spec (kw _ hw #[])
        refine ⟨c, fun ty' h' => ?_⟩
        cases h'
        refine ⟨fun n z => ⟨fun k h => (by cases h), k, h2, comp, h3⟩, ?_⟩
        cases ty with
        | object C => exact absurd rfl (hn C)
        | _ => exact h1
  refine ⟨(fun ci => (Classical.choose (e1 ci)).1, fun ci => (Classical.choose (e1 ci)).2, fun ti => Classical.choose (e2 ti)), fun ci q h => Classical.choose_spec (e1 ci) q h, fun ti ty h => Classical.choose_spec (e2 ti) ty h⟩
theorem lq_sf {s : State} {a0 : Array Value} {n d : String} (h1 : (Cond.laysStatic "java/lang/Throwable" n d).before a0 s = true) (h2 : (Cond.isRef (.static "java/lang/Throwable" n d)).before a0 s = true) : sh_Sf n d s s.heap.size s.heap := by
  obtain ⟨c, k, i, f, a, cell, hc, hi, hst, ha, hcell, hs, hcls, hlt, hty⟩ := Cond.laysStatic_spec h1
  obtain ⟨v, hv, hr⟩ := Cond.isRef_spec h2
  have hsl : cell.slots[f.slot]? = some v := by
    simp [Term.eval, State.fieldNamed?, hi, hst, ha, hcell, hs] at hv
    exact hv
  exact ⟨c, k, i, f, a, cell, v, hc, hi, hst, ha, hcell, hs, hcls, hlt, hty, hsl, hr, (Array.getElem?_eq_some_iff.mp hcell).1⟩
