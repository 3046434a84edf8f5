/-! ===== the classes at the law's entry ===== -/
theorem in_all : ∀ r, r < 10 → Cond.instantiable (RRf r) (nfS r) ∈ GW := by
  intro r hr
  match r, hr with
  | 0, _ => exact gw_t 125 (by decide +kernel) (by decide +kernel)
  | 1, _ => exact gw_t 78 (by decide +kernel) (by decide +kernel)
  | 2, _ => exact gw_t 72 (by decide +kernel) (by decide +kernel)
  | 3, _ => exact gw_t 208 (by decide +kernel) (by decide +kernel)
  | 4, _ => exact gw_t 339 (by decide +kernel) (by decide +kernel)
  | 5, _ => exact gw_t 32 (by decide +kernel) (by decide +kernel)
  | 6, _ => exact gw_t 271 (by decide +kernel) (by decide +kernel)
  | 7, _ => exact gw_t 202 (by decide +kernel) (by decide +kernel)
  | 8, _ => exact gw_t 24 (by decide +kernel) (by decide +kernel)
  | 9, _ => exact gw_t 1330 (by decide +kernel) (by decide +kernel)
theorem ent_Kn {s : State} {args : Array Value} (hts : ∀ w ∈ GW, w.before args s = true) : ∃ dD : va_G, ∀ (k : Nat) (q : vw_C), vwCl[k]? = some q → u_Kn s q.1 q.2.1 q.2.2 (dD.1 k) (dD.2 k) := by
  have h : ∀ r : Nat, ∃ z : ClassId × (Nat → Nat), r < 10 → u_Kn s (RRf r) (TTf r) (nfS r) z.1 z.2 := by
    intro r
    by_cases hr : r < 10
    · obtain ⟨cC, iS, h⟩ := u_known (C := RRf r) (T := TTf r) (N := nfS r) (n := nfS r) hts (uw_in hr) (hts _ (in_all r hr))
      exact ⟨(cC, iS), fun _ => h⟩
    · exact ⟨(0, fun _ => 0), fun z => absurd z hr⟩
  obtain ⟨f, hf⟩ := Classical.skolem.mp h
  refine ⟨(fun r => (f r).1, fun r => (f r).2), fun k q hq => ?_⟩
  by_cases hk : k < 10
  · have e := (vwCl_at k hk).symm.trans hq
    cases e
    exact hf k hk
  · have : vwCl[k]? = none := List.getElem?_eq_none (by show 10 ≤ k; omega)
    rw [this] at hq
    cases hq
theorem ent_prim {s : State} {args : Array Value} {ty : FieldType} (h : (Cond.arrayClass ty).before args s = true) : ∃ c : ClassId, ArrOfT s c ty ∧ s.vm.findClass ("[" ++ ty.toString) = some c := by
  obtain ⟨comp, kC, cc, h1, h2, h3⟩ := Cond.arrayClass_spec h
  exact ⟨comp, fun n z => ⟨(fun k h => by cases h), kC, h2, cc, h3⟩, h1⟩
theorem ent_obj {s : State} {C : String} (h : OV (.object C) s) : ∃ c : ClassId, ArrOfT s c (.object C) ∧ va_RA s c (.object C) := by
  obtain ⟨comp, c, k, h1, h2, h3, h4, h5⟩ := Cond.arrayOver_spec h
  exact ⟨c, fun n z => ⟨(fun k h => by cases h), k, h3, comp, h4⟩, k, comp, h3, h4, h1, h5⟩
theorem ent_arr {s : State} (h : OV (.array .int) s) : ∃ c : ClassId, ArrOfT s c (.array .int) ∧ s.vm.findClass ("[" ++ (FieldType.array .int).toString) = some c := by
  obtain ⟨comp, c, k, h1, h3, h4, h5⟩ := Cond.arrayOver_specA h
  exact ⟨c, fun n z => ⟨(fun k h => by cases h), k, h3, comp, h4⟩, h5⟩
theorem ent_K {s : State} {args : Array Value} (hts : ∀ w ∈ GW, w.before args s = true) (hov : ∀ t ∈ ovL, OV t s) : ∃ (dD : va_G) (cc : Nat → ClassId), ∀ E : EV, eD E = dD → eC E = cc → va_K (eD E) vwCl (tysE E) s := by
  obtain ⟨dD, hD⟩ := ent_Kn hts
  obtain ⟨c0, a0, b0⟩ := ent_prim (hts _ aw_int)
  obtain ⟨c1, a1, b1⟩ := ent_prim (hts _ aw_long)
  obtain ⟨c2, a2, b2⟩ := ent_obj (hov (.object RX3) (by simp [ovL]))
  obtain ⟨c3, a3, b3⟩ := ent_obj (hov (.object RX6) (by simp [ovL]))
  obtain ⟨c4, a4, b4⟩ := ent_obj (hov (.object RX1) (by simp [ovL]))
  obtain ⟨c5, a5, b5⟩ := ent_obj (hov (.object RX0) (by simp [ovL]))
  obtain ⟨c6, a6, b6⟩ := ent_arr (hov (.array .int) (by simp [ovL]))
  refine ⟨dD, fun k => match k with
    | 0 => c0
    | 1 => c1
    | 2 => c2
    | 3 => c3
    | 4 => c4
    | 5 => c5
    | _ => c6, fun E h1 h2 => ⟨by rw [h1]; exact hD, fun k q hq => ?_⟩⟩
  unfold tysE at hq
  rw [h2] at hq
  match k, hq with
  | 0, hq => cases hq; exact ⟨a0, b0⟩
  | 1, hq => cases hq; exact ⟨a1, b1⟩
  | 2, hq => cases hq; exact ⟨a2, b2⟩
  | 3, hq => cases hq; exact ⟨a3, b3⟩
  | 4, hq => cases hq; exact ⟨a4, b4⟩
  | 5, hq => cases hq; exact ⟨a5, b5⟩
  | 6, hq => cases hq; exact ⟨a6, b6⟩
  | k + 7, hq => cases hq
