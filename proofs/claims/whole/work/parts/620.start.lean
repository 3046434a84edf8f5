/-! ===== whole_start ===== -/
set_option maxHeartbeats 4000000 in
theorem whole_start {p : Program} {e : Env} {s : State} {m : MethodId} {below : List Frame} {meth : Method} {c : Code} (l : Launch) (hflags : l.flags = flags0) {b L : Nat} {xs : Nat → Int32} (hL : L ≤ 3584) (C0 : lw_At p s m meth c b L xs) : W p l e room_1 s m #[Value.ref b] below meth c s.heap [] 0 0 (lw_Z below #[Value.ref b] s) (entryFrame m ([Value.ref b] : List Value).toArray 8) := by
  obtain ⟨hx, hb, hr, hml, hown, hts, hX, hbl, hlocks, hgv⟩ := id C0
  have hgw : ∀ w ∈ GW, w.before #[Value.ref b] s = true := fun w h => hts w (List.mem_filter.mp h).1
  have hNL : NL s := ent_NL hts
  obtain ⟨dD, cc, hK⟩ := ent_K hgw hNL.2
  obtain ⟨eKf, eVf, hKS⟩ := ent_KS hgv hts
  have hlst : l.stackTraces = false := by
    unfold Launch.stackTraces
    rw [hflags]
    decide
  have X : LXm (s.heap.size, dD, cc, eKf, eVf) p l s m meth c b L xs := ⟨⟨hx, hb, hml, hown, hgw, hlocks, hK (s.heap.size, dD, cc, eKf, eVf) rfl rfl, hKS (s.heap.size, dD, cc, eKf, eVf) rfl rfl rfl, Nat.le_refl _⟩, hX, hbl, rfl, hlst⟩
  have hl := lv_entry ([.ref b]) (n := 8) (Nat.le_of_ble_eq_true rfl)
  rw [lg_entry_eq]
  generalize (lg_sl ([.ref b]) ++ List.replicate (8 - (lg_sl ([.ref b])).length) Slot.unset).toArray = ls at hl ⊢
  have hl : lv_has ls 8 [(0, .ref b)] := hl
  refine law_enter X hNL hL (fun cells slots a u H locs ls hc hs hR hS => ?_) hl
  refine lv_iconst (v := 1) hx hb dL_law__3233 (by decide) ?_
  refine va_forget (fun q hq => hS.2.2 q hq) ?_
  refine W.widen (k := 601024) (n := 7293034) hc hs ?_
  exact lw_ret hx hb hr hlocks dL_law__3234
