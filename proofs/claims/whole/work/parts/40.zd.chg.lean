/-! changes of the lookers, the eyes, the weights -/
def CF (K : List Nat) (u v : HS) : Prop := (∀ r, r ∉ [4, 7, 44, 46, 47, 48, 54, 77, 78, 79, 81, 83, 85, 9] → r ≠ 0 → (r < 20 ∨ 31 < r) → gI v r = gI u r) ∧ (∀ r i, (r = 0 ∨ (20 ≤ r ∧ r ≤ 31)) → i ≠ 0 → gI v r i = gI u r i) ∧ (∀ k, k ∉ K → gI v 9 0 k = gI u 9 0 k) ∧ ∀ k, 3 ≤ k → gR v k = gR u k
theorem CF.rf {K : List Nat} {u : HS} : CF K u u := ⟨fun _ _ _ _ => rfl, fun _ _ _ _ => rfl, fun _ _ => rfl, fun _ _ => rfl⟩
theorem CF.h {K : List Nat} {u v : HS} {r k : Nat} {x : Int32} (h : CF K u v) (hr : r = 0 ∨ (20 ≤ r ∧ r ≤ 31)) : CF K u (wI v r 0 k x) :=
  ⟨fun r' a b c => (gI_r (by omega)).trans (h.1 r' a b c), fun r' i a b => by
    by_cases e : r' = r
    · rw [e, gI_ri b]; exact h.2.1 r i hr b
    · rw [gI_r e]; exact h.2.1 r' i a b, fun k' a => by rw [gI_r (by omega)]; exact h.2.2.1 k' a, h.2.2.2⟩
theorem CF.f {K : List Nat} {u v : HS} {r i k : Nat} {x : Int32} (h : CF K u v) (hr : r ∈ [4, 7, 44, 46, 47, 48, 54, 77, 78, 79, 81, 83, 85]) : CF K u (wI v r i k x) := by
  have hr' : r ≠ 0 ∧ (r < 20 ∨ 31 < r) ∧ r ≠ 9 := by simp only [List.mem_cons, List.not_mem_nil, or_false] at hr; omega
  exact ⟨fun r' a b c => (gI_r (fun e => a (by rw [e]; simp only [List.mem_cons, List.not_mem_nil, or_false] at hr ⊢; omega))).trans (h.1 r' a b c), fun r' i' a b => by rw [gI_r (by omega)]; exact h.2.1 r' i' a b, fun k' a => by rw [gI_r (by omega)]; exact h.2.2.1 k' a, h.2.2.2⟩
theorem CF.w9 {K : List Nat} {u v : HS} {k : Nat} {x : Int32} (h : CF K u v) (hk : k ∈ K) : CF K u (wI v 9 0 k x) :=
  ⟨fun r' a b c => (gI_r (fun e => a (by rw [e]; decide))).trans (h.1 r' a b c), fun r' i' a b => by rw [gI_r (by omega)]; exact h.2.1 r' i' a b, fun k' a => (gI_k (fun q => a (by rw [q]; exact hk))).trans (h.2.2.1 k' a), h.2.2.2⟩
theorem CF.w0 {K : List Nat} {u v : HS} (h : CF K u v) (hk : 0 ∈ K) : CF K u (w0 v) := h.w9 hk
theorem CF.m {K : List Nat} {u v : HS} (h : CF K u v) {r : Nat} (hr : r ∉ [4, 7, 44, 46, 47, 48, 54, 77, 78, 79, 81, 83, 85, 9]) (h0 : r ≠ 0) (h1 : r < 20 ∨ 31 < r) : gI v r = gI u r := h.1 r hr h0 h1
/-- the invariant with other lookers -/
def pS (p : IP) (n r b : Nat) : IP := (p.1, (n, r, b), p.2.2)
theorem IM.of {p : IP} {u v : HS} {k n r b : Nat} {K : List Nat} (hc : CF K u v) (h : IM p u k) : IM (pS p n r b) v k := by
  obtain ⟨n, nr, nb, h', a⟩ := h
  refine ⟨n, nr, nb, h', ?_⟩
  have e : ∀ r, (r = 0 ∨ (20 ≤ r ∧ r ≤ 31)) → gI v r (k + 1) = gI u r (k + 1) := fun r hr => hc.2.1 r (k + 1) hr (by omega)
  have e87 : gI v 87 = gI u 87 := hc.m (by decide) (by decide) (by decide)
  unfold HL HE HB HW at a ⊢
  rw [e87, e 0 (by omega), e 20 (by omega), e 21 (by omega), e 22 (by omega), e 23 (by omega), e 24 (by omega), e 25 (by omega), e 26 (by omega), e 27 (by omega), e 28 (by omega), e 29 (by omega), e 30 (by omega), e 31 (by omega)]
  exact a
theorem CF.c {p : IP} {u v : HS} {n r b : Nat} {K : List Nat} (hc : CF K u v) (hK : ∀ k, k ∈ K → k = 0 ∨ k = 41 ∨ k = 42 ∨ (28 ≤ k ∧ k ≤ 31)) (h : IVc p u) (hH : IHa (pS p n r b) v) : IVc (pS p n r b) v := by
  obtain ⟨h1, h2, h3, h4, h5, h6, h7, h8⟩ := h
  have e : ∀ r, r ≠ 4 ∧ r ≠ 7 ∧ r ≠ 44 ∧ r ≠ 46 ∧ r ≠ 47 ∧ r ≠ 48 ∧ r ≠ 54 ∧ r ≠ 77 ∧ r ≠ 78 ∧ r ≠ 79 ∧ r ≠ 81 ∧ r ≠ 83 ∧ r ≠ 85 ∧ r ≠ 9 ∧ r ≠ 0 ∧ (r < 20 ∨ 31 < r) → gI v r = gI u r := fun r hr => hc.1 r (by simp only [List.mem_cons, List.not_mem_nil, or_false]; omega) (by omega) (by omega)
  have f : ∀ k, k ≠ 0 ∧ k ≠ 41 ∧ k ≠ 42 ∧ ¬ (28 ≤ k ∧ k ≤ 31) → gI v 9 0 k = gI u 9 0 k := fun k hk => hc.2.2.1 k (fun q => by have := hK k q; omega)
  refine ⟨?_, ?_, fun s hs => ?_, fun t ht => ?_, fun q hq => ?_, hH, fun k hk => (h7 k hk).of hc, ?_⟩
  · unfold ICn; rw [e 8 (by omega), f 14 (by omega), f 15 (by omega), f 16 (by omega), f 32 (by omega)]; exact h1
  · unfold ITa; rw [e 5 (by omega), e 45 (by omega), e 60 (by omega), f 1 (by omega), f 3 (by omega)]; exact h2
  · obtain ⟨a, b⟩ := h3 s hs
    exact ⟨a.fr (e 65 (by omega)) (e 66 (by omega)) (e 67 (by omega)) (e 69 (by omega)), b.eq (e 3 (by omega)) (e 38 (by omega)) (e 40 (by omega)) (e 41 (by omega)) (e 42 (by omega)) (e 43 (by omega)) hc.2.2.2⟩
  · rw [e 71 (by omega), e 6 (by omega)]; exact h4 t ht
  · obtain ⟨a, b, c⟩ := h5 q hq
    exact ⟨a.eq (e 73 (by omega)) (e 75 (by omega)) (e 76 (by omega)), b.eq (e 1 (by omega)) (e 32 (by omega)) (e 33 (by omega)) (e 34 (by omega)) (e 35 (by omega)) (e 36 (by omega)), c⟩
  · unfold IMo; rw [f 38 (by omega), f 39 (by omega), f 40 (by omega)]; exact h8
theorem HL.of {u v : HS} {n : Nat} {lk : Nat → Nat → Int32} (h : HL u 0 n lk) (a : gI v 0 0 0 = gI u 0 0 0) (b : gI v 0 0 3 = gI u 0 0 3) (e : ∀ r, 20 ≤ r ∧ r ≤ 24 → gI v r 0 = gI u r 0) : HL v 0 n lk := by
  unfold HL; rw [a, b, e 20 (by omega), e 21 (by omega), e 22 (by omega), e 23 (by omega), e 24 (by omega)]; exact h
theorem HE.of {u v : HS} {n : Nat} {ey : Nat → Nat → Int32} (h : HE u 0 n ey) (a : gI v 0 0 7 = gI u 0 0 7) (e : ∀ r, 25 ≤ r ∧ r ≤ 27 → gI v r 0 = gI u r 0) : HE v 0 n ey := by
  unfold HE; rw [a, e 25 (by omega), e 26 (by omega), e 27 (by omega)]; exact h
theorem HB.of {u v : HS} {n : Nat} {bl : Nat → Nat → Int32} (h : HB u 0 n bl) (a : gI v 0 0 11 = gI u 0 0 11) (e : ∀ r, 28 ≤ r ∧ r ≤ 30 → gI v r 0 = gI u r 0) : HB v 0 n bl := by
  unfold HB; rw [a, e 28 (by omega), e 29 (by omega), e 30 (by omega)]; exact h
theorem HW.of {u v : HS} {wt : Nat → Int32} {sl : Int32} (h : HW u 0 wt sl) (a : gI v 0 0 16 = gI u 0 0 16) (e : gI v 31 0 = gI u 31 0) : HW v 0 wt sl := by
  unfold HW; rw [a, e]; exact h
/-- the states' cache, when no looker sees otherwise -/
theorem IVs.of {p : IP} {u v : HS} (n r b : Nat) (hn : pN p ≤ n) (h : IVs p u) (h54 : gI v 54 = gI u 54) (hj : ∀ l q, l < pN p → loJ (pS p n r b) v q l = loJ p u q l) : IVs (pS p n r b) v := by
  refine ⟨fun l q hl hq => ?_, fun s t q hs ht hq => ?_⟩
  · rw [h54]
    rcases h.1 l q hl hq with z | ⟨z1, z2, z3⟩
    · exact Or.inl z
    · exact Or.inr ⟨Nat.lt_of_lt_of_le z1 hn, z2, by rw [hj l q z1]; exact z3⟩
  · rw [h54]; exact h.2 s t q hs ht hq
theorem pS_id (p : IP) : pS p (pN p) (pNr p) (pNb p) = p := rfl
def updF (f : Nat → Nat → Int32) (l j : Nat) (x : Int32) (l' j' : Nat) : Int32 := if l' = l ∧ j' = j then x else f l' j'
/-- one field of a looker that no view heeds -/
theorem IV.field {p : IP} {u v : HS} (h : IVc p u) (hv : IVs p u) {l j : Nat} {x : Int32} (hl : l < pN p) (hj3 : 3 ≤ j) (hx : (j < 6 → x = 0 ∨ x = 1) ∧ (j = 6 → ∃ v, v < 1000 ∧ x = nI v) ∧ (j = 7 → ∃ v, v < 101 ∧ x = nI v)) (hc : CF [0] u v) (hlk : lkF v = updF (lkF u) l j x) (h0 : gI v 0 0 = gI u 0 0) (he : ∀ r, 25 ≤ r ∧ r ≤ 31 → gI v r 0 = gI u r 0) (hf : gI v 83 = gI u 83 ∧ gI v 85 = gI u 85 ∧ gI v 77 = gI u 77 ∧ gI v 54 = gI u 54) (hL : HL v 0 (pN p) (lkF v)) : IV v := by
  obtain ⟨⟨a1, a2, a3⟩, ⟨b1, b2, b3, b4⟩, c1, c2, c3, c4⟩ := h.2.2.2.2.2.1
  obtain ⟨f83, f85, f77, f54⟩ := hf
  have f9 : ∀ k, k ≠ 0 → gI v 9 0 k = gI u 9 0 k := fun k hk => hc.2.2.1 k (by simpa using hk)
  have hlo : ∀ l' j', j' < 3 → lkF v l' j' = lkF u l' j' := fun l' j' hj' => by rw [hlk]; unfold updF; rw [if_neg (by omega)]
  have hVL : VL (pNs p) (pNt p) (pN p) (lkF v) := by
    intro l' hl'
    obtain ⟨d0, d1, d2, d3, d6, d7⟩ := c1 l' hl'
    rw [hlo l' 0 (by omega), hlo l' 1 (by omega), hlo l' 2 (by omega), hlk]
    refine ⟨d0, d1, d2, fun a ha => ?_, ?_, ?_⟩
    · unfold updF
      by_cases e : l' = l ∧ 3 + a = j
      · rw [if_pos e]; exact Or.inr (hx.1 (by omega))
      · rw [if_neg e]; exact d3 a ha
    · unfold updF
      by_cases e : l' = l ∧ 6 = j
      · rw [if_pos e]; exact Or.inr (hx.2.1 e.2.symm)
      · rw [if_neg e]; exact d6
    · unfold updF
      by_cases e : l' = l ∧ 7 = j
      · rw [if_pos e]; exact Or.inr (hx.2.2 e.2.symm)
      · rw [if_neg e]; exact d7
  have hH : IHa (pS p (pN p) (pNr p) (pNb p)) v := by
    rw [pS_id]
    refine ⟨⟨by rw [f9 28 (by decide)]; exact a1, by rw [f9 29 (by decide)]; exact a2, by rw [f9 30 (by decide)]; exact a3⟩, ⟨hL, ?_, ?_, ?_⟩, hVL, ?_, ?_, ?_⟩
    · rw [f83]; exact b2.of (by rw [h0]) (fun r hr => he r (by omega))
    · rw [f85]; exact b3.of (by rw [h0]) (fun r hr => he r (by omega))
    · rw [f77, f9 31 (by decide)]; exact b4.of (by rw [h0]) (he 31 (by omega))
    · rw [f83]; exact c2
    · rw [f85]; exact c3
    · rw [f77, f9 31 (by decide)]; exact c4
  refine ⟨_, hc.c (by simp) h hH, hv.of _ _ _ (Nat.le_refl _) f54 fun l' q hl' => ?_⟩
  rw [pS_id]
  unfold loJ loE loS loT
  rw [hlo l' 0 (by omega), hlo l' 1 (by omega), hlo l' 2 (by omega), f83, f85]
/-- the weights and the slips -/
theorem IV.weights {p : IP} {u v : HS} (h : IVc p u) (hv : IVs p u) (hc : CF [0, 31] u v) (hlk : gI v 81 = gI u 81) (h0 : ∀ k, k ≠ 16 → gI v 0 0 k = gI u 0 0 k) (he : ∀ r, 20 ≤ r ∧ r ≤ 30 → gI v r 0 = gI u r 0) (hf : gI v 83 = gI u 83 ∧ gI v 85 = gI u 85 ∧ gI v 54 = gI u 54) (hW : HW v 0 (gI v 77 0) (gI v 9 0 31)) (hVW : VW (pNl p) (gI v 77 0) (gI v 9 0 31)) : IV v := by
  obtain ⟨⟨a1, a2, a3⟩, ⟨b1, b2, b3, b4⟩, c1, c2, c3, c4⟩ := h.2.2.2.2.2.1
  obtain ⟨f83, f85, f54⟩ := hf
  have f9 : ∀ k, k ≠ 0 ∧ k ≠ 31 → gI v 9 0 k = gI u 9 0 k := fun k hk => hc.2.2.1 k (by simpa using hk)
  have hlk2 : lkF v = lkF u := by unfold lkF; rw [hlk]
  have hH : IHa (pS p (pN p) (pNr p) (pNb p)) v := by
    rw [pS_id]
    refine ⟨⟨by rw [f9 28 (by decide)]; exact a1, by rw [f9 29 (by decide)]; exact a2, by rw [f9 30 (by decide)]; exact a3⟩, ⟨?_, ?_, ?_, hW⟩, ?_, ?_, ?_, hVW⟩
    · rw [hlk2]; exact b1.of (h0 0 (by decide)) (h0 3 (by decide)) (fun r hr => he r (by omega))
    · rw [f83]; exact b2.of (h0 7 (by decide)) (fun r hr => he r (by omega))
    · rw [f85]; exact b3.of (h0 11 (by decide)) (fun r hr => he r (by omega))
    · rw [hlk2]; exact c1
    · rw [f83]; exact c2
    · rw [f85]; exact c3
  refine ⟨_, hc.c (fun k hk => by simp at hk; omega) h hH, hv.of _ _ _ (Nat.le_refl _) f54 fun l' q hl' => ?_⟩
  rw [pS_id]
  unfold loJ loE loS loT
  rw [hlk2, f83, f85]
theorem lkF_w {u : HS} {l j : Nat} {x : Int32} (hl : l < 14) : lkF (wI u 81 l j x) = updF (lkF u) l j x := by
  funext l' j'
  show (if l' < 14 then gI (wI u 81 l j x) 81 l' j' else 0) = if l' = l ∧ j' = j then x else (if l' < 14 then gI u 81 l' j' else 0)
  by_cases c : l' < 14
  · rw [if_pos c]
    by_cases e : l' = l ∧ j' = j
    · rw [if_pos e, e.1, e.2, gI_eq]
    · rw [if_neg e]
      by_cases e1 : l' = l
      · rw [e1, gI_k (fun q => e ⟨e1, q⟩), if_pos hl]
      · rw [gI_ri e1, if_pos c]
  · rw [if_neg c, if_neg (by omega), if_neg c]
theorem lkF_r {u : HS} {r i k : Nat} {x : Int32} (h : r ≠ 81) : lkF (wI u r i k x) = lkF u := by unfold lkF; rw [gI_r (Ne.symm h)]
theorem rIsL' {n : Nat} {u : HS} (h : gI u 9 0 28 = nI n) (hn : n ≤ 14) (x : Int32) : mX9_isLooker u x = some (bI (inB x n)) := by
  unfold mX9_isLooker; rw [h, in0 x (by omega)]; simp only [ob_q, zb_bI]
theorem rIsQ' {n : Nat} {u : HS} (h : gI u 9 0 16 = nI n) (hn : n ≤ 4) (x : Int32) : mX9_isLaw u x = some (bI (inB x n)) := by
  unfold mX9_isLaw; rw [h, in0 x (by omega)]; simp only [ob_q, zb_bI]
theorem rIsS' {n : Nat} {u : HS} (h : gI u 9 0 14 = nI n) (hn : n ≤ 6) (x : Int32) : mX9_isScene u x = some (bI (inB x n)) := by
  unfold mX9_isScene; rw [h, in0 x (by omega)]; simp only [ob_q, zb_bI]
theorem rIsT' {n : Nat} {u : HS} (h : gI u 9 0 15 = nI n) (hn : n ≤ 6) (x : Int32) : mX9_isTask u x = some (bI (inB x n)) := by
  unfold mX9_isTask; rw [h, in0 x (by omega)]; simp only [ob_q, zb_bI]
theorem inN (x : Int32) (n : Nat) (hn : n + 1 < 2 ^ 31) : mX9_in x 0 (nI n) = some (bI (inB x (n + 1))) := by
  rw [show mX9_in x 0 (nI n) = mX9_in x 0 (nI n) from rfl, inr_ok]
  congr 2
  unfold inR inB
  congr 1
  rw [decide_eq_decide, Int32.le_iff_toInt_le, Int32.lt_iff_toInt_lt, nI_toInt (by omega), nI_toInt hn]
  omega
theorem in999' (x : Int32) : mX9_in x 0 999 = some (bI (inB x 1000)) := inN x 999 (by decide)
theorem in100' (x : Int32) : mX9_in x 0 100 = some (bI (inB x 101)) := inN x 100 (by decide)
theorem knN {α : Type} (x : Int32) (n : Nat) (hn : n + 1 < 2 ^ 31) (J K : α) : (if x < 0 then J else if nI n < x then J else K) = if inB x (n + 1) = true then K else J := by
  have h := inN x n hn
  unfold mX9_in at h
  by_cases c1 : x < 0
  · rw [if_pos c1] at h; rw [if_pos c1]
    cases c : inB x (n + 1) with
    | false => simp
    | true => rw [c] at h; cases h
  · rw [if_neg c1] at h; rw [if_neg c1]
    by_cases c2 : nI n < x
    · rw [if_pos c2] at h; rw [if_pos c2]
      cases c : inB x (n + 1) with
      | false => simp
      | true => rw [c] at h; cases h
    · rw [if_neg c2] at h; rw [if_neg c2]
      cases c : inB x (n + 1) with
      | true => simp
      | false => rw [c] at h; cases h
theorem kn999 {α : Type} (x : Int32) (J K : α) : (if x < 0 then J else if (999 : Int32) < x then J else K) = if inB x 1000 = true then K else J := knN x 999 (by decide) J K
theorem kn100 {α : Type} (x : Int32) (J K : α) : (if x < 0 then J else if (100 : Int32) < x then J else K) = if inB x 101 = true then K else J := knN x 100 (by decide) J K
-- answer
set_option maxHeartbeats 2000000 in
theorem s_answer (x1 x2 x3 : Int32) : Step [1] (fun u => mX8_answer u x1 x2 x3) (fun u => mX9_answer u x1 x2 x3) := by
  intro u hI
  have ⟨p, h, hv⟩ := hI
  have hw := w0c h
  have n6 := h.1.1.1
  have t6 := h.1.1.2.1
  have q4 := h.1.1.2.2.1
  have n14 := h.2.2.2.2.2.1.2.1.1.1
  cases b1 : inB x1 (pN p) with
  | false =>
    refine Step.bad hI (k := 1) (v := 0) (b := 0) (c := 1) ?_ ?_ (by decide)
    · unfold mX8_answer; simp only [bd_q, jp_q, ob_q, on_q, if_true, if_false, Bool.false_eq_true, Bool.true_eq_false, Bool.not_true, Bool.not_false, pr99, pr9, pr8, cReqS h, cReqT h, cReqQ h, cReqL h, cReqB, cReq0, cReq1, cTenthB, cAskB, cFitB, xqz, xq1, xq2, xq3, pl2, pl3, pl4, pl5, pl14, pl40, pl50, pl100, pl999, pe3, pe11, pe30, pe40, pe300, bI_if, bI_0, b1]
    · show mX9_answer u x1 x2 x3 = _
      unfold mX9_answer; simp only [bd_q, jp_q, ob_q, on_q, if_true, if_false, Bool.false_eq_true, Bool.true_eq_false, Bool.not_true, Bool.not_false, ir99, ir9, ir8, w0e, rIsS hw, rIsT hw, rIsQ hw, rIsL hw, rBad w00 _ (show (1 : Int32) ≠ 0 by decide), rBad w00 _ (show (2 : Int32) ≠ 0 by decide), rBad w00 _ (show (3 : Int32) ≠ 0 by decide), rBad1 w00 (show (1 : Int32) ≠ 0 by decide), rBad1 w00 (show (2 : Int32) ≠ 0 by decide), rBad1 w00 (show (3 : Int32) ≠ 0 by decide), rBad0 w00 (show (1 : Int32) ≠ 0 by decide), rBad0 w00 (show (2 : Int32) ≠ 0 by decide), rBad0 w00 (show (3 : Int32) ≠ 0 by decide), e10, in2, in3, in4, in5, in10, in14, in29, in39, in40, in50, in100, in299, in999, bI_nn, bI_0, b1]
  | true =>
  obtain ⟨l, hl, rfl⟩ := inB_t (by omega) b1
  cases b2 : inB x2 3 with
  | false =>
    refine Step.bad hI (k := 1) (v := 0) (b := 0) (c := 1) ?_ ?_ (by decide)
    · unfold mX8_answer; simp only [bd_q, jp_q, ob_q, on_q, if_true, if_false, Bool.false_eq_true, Bool.true_eq_false, Bool.not_true, Bool.not_false, pr99, pr9, pr8, cReqS h, cReqT h, cReqQ h, cReqL h, cReqB, cReq0, cReq1, cTenthB, cAskB, cFitB, xqz, xq1, xq2, xq3, pl2, pl3, pl4, pl5, pl14, pl40, pl50, pl100, pl999, pe3, pe11, pe30, pe40, pe300, bI_if, bI_0, b1, b2]
    · show mX9_answer u (nI l) x2 x3 = _
      unfold mX9_answer; simp only [bd_q, jp_q, ob_q, on_q, if_true, if_false, Bool.false_eq_true, Bool.true_eq_false, Bool.not_true, Bool.not_false, ir99, ir9, ir8, w0e, rIsS hw, rIsT hw, rIsQ hw, rIsL hw, rBad w00 _ (show (1 : Int32) ≠ 0 by decide), rBad w00 _ (show (2 : Int32) ≠ 0 by decide), rBad w00 _ (show (3 : Int32) ≠ 0 by decide), rBad1 w00 (show (1 : Int32) ≠ 0 by decide), rBad1 w00 (show (2 : Int32) ≠ 0 by decide), rBad1 w00 (show (3 : Int32) ≠ 0 by decide), rBad0 w00 (show (1 : Int32) ≠ 0 by decide), rBad0 w00 (show (2 : Int32) ≠ 0 by decide), rBad0 w00 (show (3 : Int32) ≠ 0 by decide), e10, in2, in3, in4, in5, in10, in14, in29, in39, in40, in50, in100, in299, in999, bI_nn, bI_0, b1, b2]
  | true =>
  obtain ⟨a, ha, rfl⟩ := inB_t (by decide) b2
  have zz : (if x3 = 0 then some 0 else some 1 : Option Int32) = some (if x3 = 0 then 0 else 1) := by split <;> rfl
  obtain ⟨l14, ls, lt, l0, l1, m0, m1, lf⟩ := h.lk hl
  obtain ⟨r0, r1, r2, r3, r6, r7⟩ := h.row hl
  have hb := h.2.2.2.2.2.1.2.1.1
  obtain ⟨V, hV⟩ : ∃ V : Int32, V = if x3 = 0 then 0 else 1 := ⟨_, rfl⟩
  obtain ⟨u1, hu1⟩ : ∃ u1, u1 = wI u 22 0 (3 * l + a) V := ⟨_, rfl⟩
  have g81 : gI (w0 u1) 81 = gI u 81 := by rw [hu1]; unfold w0; rw [gI_r (by decide), gI_r (by decide)]
  have g28 : gI (w0 u1) 9 0 28 = nI (pN p) := by rw [hu1]; unfold w0; rw [gI_k (by decide), gI_r (by decide)]; exact h.rn
  have hlk : lkF (wI (w0 u1) 81 l (3 + a) V) = updF (lkF u) l (3 + a) V := by rw [lkF_w l14, hu1]; unfold w0; rw [lkF_r (by decide), lkF_r (by decide)]
  refine Step.ok (u1 := u1) (u2 := wI (w0 u1) 81 l (3 + a) V) (v := lkF u l (3 + a)) ?_ ?_ ?_ ?_
  · unfold mX8_answer; simp only [bd_q, jp_q, ob_q, on_q, if_true, if_false, Bool.false_eq_true, Bool.true_eq_false, Bool.not_true, Bool.not_false, pr99, pr9, pr8, cReqS h, cReqT h, cReqQ h, cReqL h, cReqB, cReq0, cReq1, cTenthB, cAskB, cFitB, xqz, xq1, xq2, xq3, pl2, pl3, pl4, pl5, pl14, pl40, pl50, pl100, pl999, pe3, pe11, pe30, pe40, pe300, bI_if, bI_0, b1, b2, inB_in02, show mX0_reply u 0 (nI l) (nI a) = _ from h.rep hl ha, show (nI l * 3 + nI a : Int32) = nI (3 * l + a) from by rw [show (nI l * 3 : Int32) = nI (l * 3) from pk_mul l 3, nI_add, Nat.mul_comm], ck_nI (show 3 * l + a < 42 by omega) (show 42 < 2 ^ 31 by decide), zz, ← hV, ← hu1]
  · show mX9_answer u1 (nI l) (nI a) x3 = _
    unfold mX9_answer; simp only [bd_q, jp_q, ob_q, on_q, if_true, if_false, Bool.false_eq_true, Bool.true_eq_false, Bool.not_true, Bool.not_false, ir99, ir9, ir8, w0e, rIsS hw, rIsT hw, rIsQ hw, rIsL hw, rBad w00 _ (show (1 : Int32) ≠ 0 by decide), rBad w00 _ (show (2 : Int32) ≠ 0 by decide), rBad w00 _ (show (3 : Int32) ≠ 0 by decide), rBad1 w00 (show (1 : Int32) ≠ 0 by decide), rBad1 w00 (show (2 : Int32) ≠ 0 by decide), rBad1 w00 (show (3 : Int32) ≠ 0 by decide), rBad0 w00 (show (1 : Int32) ≠ 0 by decide), rBad0 w00 (show (2 : Int32) ≠ 0 by decide), rBad0 w00 (show (3 : Int32) ≠ 0 by decide), e10, in2, in3, in4, in5, in10, in14, in29, in39, in40, in50, in100, in299, in999, bI_nn, bI_0, b1, b2, inB_in02, rIsL' g28 n14, g81, lf, ck_nI (show l < 15 by omega) (show 15 < 2 ^ 31 by decide), n3a, c8n (show 3 + a < 8 by omega), zz, ← hV]
  · rw [gI_r (by decide), w00]
  · refine IV.field h hv hl (by omega) ⟨fun _ => by rw [hV]; split <;> simp, fun e => by omega, fun e => by omega⟩ ?_ hlk ?_ ?_ ?_ ?_
    · rw [hu1]; exact ((CF.rf.h (by decide)).w0 (by decide)).f (by decide)
    · rw [gI_r (by decide), hu1]; unfold w0; rw [gI_r (by decide), gI_r (by decide)]
    · intro r hr; rw [gI_r (by omega), hu1]; unfold w0; rw [gI_r (by omega), gI_r (by omega)]
    · rw [hu1]; unfold w0; exact ⟨by rw [gI_r (by decide), gI_r (by decide), gI_r (by decide)], by rw [gI_r (by decide), gI_r (by decide), gI_r (by decide)], by rw [gI_r (by decide), gI_r (by decide), gI_r (by decide)], by rw [gI_r (by decide), gI_r (by decide), gI_r (by decide)]⟩
    · rw [hlk]
      refine ⟨hb.1, by rw [gI_r (by decide), hu1]; unfold w0; rw [gI_r (by decide), gI_r (by decide)]; exact hb.2.1, fun l' hl' => ?_⟩
      obtain ⟨d0, d1, d2, d3, d6, d7⟩ := hb.2.2 l' hl'
      rw [hu1]; unfold w0
      refine ⟨?_, ?_, ?_, fun a' ha' => ?_, ?_, ?_⟩
      · rw [gI_r (by decide), gI_r (by decide), gI_r (by decide), show updF (lkF u) l (3 + a) V l' 0 = lkF u l' 0 from if_neg (by omega)]; exact d0
      · rw [gI_r (by decide), gI_r (by decide), gI_r (by decide), show updF (lkF u) l (3 + a) V l' 1 = lkF u l' 1 from if_neg (by omega)]; exact d1
      · rw [gI_r (by decide), gI_r (by decide), gI_r (by decide), show updF (lkF u) l (3 + a) V l' 2 = lkF u l' 2 from if_neg (by omega)]; exact d2
      · rw [gI_r (by decide), gI_r (by decide)]
        unfold updF
        by_cases e : l' = l ∧ 3 + a' = 3 + a
        · rw [if_pos e, show 3 * l' + a' = 3 * l + a by omega, gI_eq]
        · rw [if_neg e, gI_k (by omega)]; exact d3 a' ha'
      · rw [gI_r (by decide), gI_r (by decide), gI_r (by decide), show updF (lkF u) l (3 + a) V l' 6 = lkF u l' 6 from if_neg (by omega)]; exact d6
      · rw [gI_r (by decide), gI_r (by decide), gI_r (by decide), show updF (lkF u) l (3 + a) V l' 7 = lkF u l' 7 from if_neg (by omega)]; exact d7
-- counted
set_option maxHeartbeats 2000000 in
theorem s_counted (x1 x2 : Int32) : Step [1] (fun u => mX8_counted u x1 x2) (fun u => mX9_counted u x1 x2) := by
  intro u hI
  have ⟨p, h, hv⟩ := hI
  have hw := w0c h
  have n6 := h.1.1.1
  have t6 := h.1.1.2.1
  have q4 := h.1.1.2.2.1
  have n14 := h.2.2.2.2.2.1.2.1.1.1
  cases b1 : inB x1 (pN p) with
  | false =>
    refine Step.bad hI (k := 1) (v := 0) (b := 0) (c := 1) ?_ ?_ (by decide)
    · unfold mX8_counted; simp only [bd_q, jp_q, ob_q, on_q, if_true, if_false, Bool.false_eq_true, Bool.true_eq_false, Bool.not_true, Bool.not_false, pr99, pr9, pr8, cReqS h, cReqT h, cReqQ h, cReqL h, cReqB, cReq0, cReq1, cTenthB, cAskB, cFitB, xqz, xq1, xq2, xq3, pl2, pl3, pl4, pl5, pl14, pl40, pl50, pl100, pl999, pe3, pe11, pe30, pe40, pe300, bI_if, bI_0, b1]
    · show mX9_counted u x1 x2 = _
      unfold mX9_counted; simp only [bd_q, jp_q, ob_q, on_q, if_true, if_false, Bool.false_eq_true, Bool.true_eq_false, Bool.not_true, Bool.not_false, ir99, ir9, ir8, w0e, rIsS hw, rIsT hw, rIsQ hw, rIsL hw, rBad w00 _ (show (1 : Int32) ≠ 0 by decide), rBad w00 _ (show (2 : Int32) ≠ 0 by decide), rBad w00 _ (show (3 : Int32) ≠ 0 by decide), rBad1 w00 (show (1 : Int32) ≠ 0 by decide), rBad1 w00 (show (2 : Int32) ≠ 0 by decide), rBad1 w00 (show (3 : Int32) ≠ 0 by decide), rBad0 w00 (show (1 : Int32) ≠ 0 by decide), rBad0 w00 (show (2 : Int32) ≠ 0 by decide), rBad0 w00 (show (3 : Int32) ≠ 0 by decide), e10, in2, in3, in4, in5, in10, in14, in29, in39, in40, in50, in100, in299, in999, bI_nn, bI_0, b1]
  | true =>
  obtain ⟨l, hl, rfl⟩ := inB_t (by omega) b1
  cases b2 : inB x2 1000 with
  | false =>
    refine Step.bad hI (k := 1) (v := 0) (b := 0) (c := 1) ?_ ?_ (by decide)
    · unfold mX8_counted; simp only [bd_q, jp_q, ob_q, on_q, if_true, if_false, Bool.false_eq_true, Bool.true_eq_false, Bool.not_true, Bool.not_false, pr99, pr9, pr8, cReqS h, cReqT h, cReqQ h, cReqL h, cReqB, cReq0, cReq1, cTenthB, cAskB, cFitB, xqz, xq1, xq2, xq3, pl2, pl3, pl4, pl5, pl14, pl40, pl50, pl100, pl999, pe3, pe11, pe30, pe40, pe300, bI_if, bI_0, b1, b2, kn999, in999']
    · show mX9_counted u (nI l) x2 = _
      unfold mX9_counted; simp only [bd_q, jp_q, ob_q, on_q, if_true, if_false, Bool.false_eq_true, Bool.true_eq_false, Bool.not_true, Bool.not_false, ir99, ir9, ir8, w0e, rIsS hw, rIsT hw, rIsQ hw, rIsL hw, rBad w00 _ (show (1 : Int32) ≠ 0 by decide), rBad w00 _ (show (2 : Int32) ≠ 0 by decide), rBad w00 _ (show (3 : Int32) ≠ 0 by decide), rBad1 w00 (show (1 : Int32) ≠ 0 by decide), rBad1 w00 (show (2 : Int32) ≠ 0 by decide), rBad1 w00 (show (3 : Int32) ≠ 0 by decide), rBad0 w00 (show (1 : Int32) ≠ 0 by decide), rBad0 w00 (show (2 : Int32) ≠ 0 by decide), rBad0 w00 (show (3 : Int32) ≠ 0 by decide), e10, in2, in3, in4, in5, in10, in14, in29, in39, in40, in50, in100, in299, in999, bI_nn, bI_0, b1, b2, kn999, in999']
  | true =>
  obtain ⟨w, hw9, rfl⟩ := inB_t (by decide) b2
  obtain ⟨l14, ls, lt, l0, l1, m0, m1, lf⟩ := h.lk hl
  obtain ⟨r0, r1, r2, r3, r6, r7⟩ := h.row hl
  have hb := h.2.2.2.2.2.1.2.1.1
  obtain ⟨u1, hu1⟩ : ∃ u1, u1 = wI u 23 0 (l) (nI w) := ⟨_, rfl⟩
  have g81 : gI (w0 u1) 81 = gI u 81 := by rw [hu1]; unfold w0; rw [gI_r (by decide), gI_r (by decide)]
  have g28 : gI (w0 u1) 9 0 28 = nI (pN p) := by rw [hu1]; unfold w0; rw [gI_k (by decide), gI_r (by decide)]; exact h.rn
  have hlk : lkF (wI (w0 u1) 81 l (6) (nI w)) = updF (lkF u) l (6) (nI w) := by rw [lkF_w l14, hu1]; unfold w0; rw [lkF_r (by decide), lkF_r (by decide)]
  refine Step.ok (u1 := u1) (u2 := wI (w0 u1) 81 l (6) (nI w)) (v := lkF u l (6)) ?_ ?_ ?_ ?_
  · unfold mX8_counted; simp only [bd_q, jp_q, ob_q, on_q, if_true, if_false, Bool.false_eq_true, Bool.true_eq_false, Bool.not_true, Bool.not_false, pr99, pr9, pr8, cReqS h, cReqT h, cReqQ h, cReqL h, cReqB, cReq0, cReq1, cTenthB, cAskB, cFitB, xqz, xq1, xq2, xq3, pl2, pl3, pl4, pl5, pl14, pl40, pl50, pl100, pl999, pe3, pe11, pe30, pe40, pe300, bI_if, bI_0, b1, b2, kn999, in999', ck_nI l14 (show 14 < 2 ^ 31 by decide), kn999, r6, ← hu1]
  · show mX9_counted u1 (nI l) (nI w) = _
    unfold mX9_counted; simp only [bd_q, jp_q, ob_q, on_q, if_true, if_false, Bool.false_eq_true, Bool.true_eq_false, Bool.not_true, Bool.not_false, ir99, ir9, ir8, w0e, rIsS hw, rIsT hw, rIsQ hw, rIsL hw, rBad w00 _ (show (1 : Int32) ≠ 0 by decide), rBad w00 _ (show (2 : Int32) ≠ 0 by decide), rBad w00 _ (show (3 : Int32) ≠ 0 by decide), rBad1 w00 (show (1 : Int32) ≠ 0 by decide), rBad1 w00 (show (2 : Int32) ≠ 0 by decide), rBad1 w00 (show (3 : Int32) ≠ 0 by decide), rBad0 w00 (show (1 : Int32) ≠ 0 by decide), rBad0 w00 (show (2 : Int32) ≠ 0 by decide), rBad0 w00 (show (3 : Int32) ≠ 0 by decide), e10, in2, in3, in4, in5, in10, in14, in29, in39, in40, in50, in100, in299, in999, bI_nn, bI_0, b1, b2, kn999, in999', rIsL' g28 n14, g81, lf, ck_nI (show l < 15 by omega) (show 15 < 2 ^ 31 by decide), in999', show ck 8 6 = some 6 from by decide]
  · rw [gI_r (by decide), w00]
  · refine IV.field h hv hl (by omega) ⟨fun e => by omega, fun _ => ⟨w, hw9, rfl⟩, fun e => by omega⟩ ?_ hlk ?_ ?_ ?_ ?_
    · rw [hu1]; exact ((CF.rf.h (by decide)).w0 (by decide)).f (by decide)
    · rw [gI_r (by decide), hu1]; unfold w0; rw [gI_r (by decide), gI_r (by decide)]
    · intro r hr; rw [gI_r (by omega), hu1]; unfold w0; rw [gI_r (by omega), gI_r (by omega)]
    · rw [hu1]; unfold w0; exact ⟨by rw [gI_r (by decide), gI_r (by decide), gI_r (by decide)], by rw [gI_r (by decide), gI_r (by decide), gI_r (by decide)], by rw [gI_r (by decide), gI_r (by decide), gI_r (by decide)], by rw [gI_r (by decide), gI_r (by decide), gI_r (by decide)]⟩
    · rw [hlk]
      refine ⟨hb.1, by rw [gI_r (by decide), hu1]; unfold w0; rw [gI_r (by decide), gI_r (by decide)]; exact hb.2.1, fun l' hl' => ?_⟩
      obtain ⟨d0, d1, d2, d3, d6, d7⟩ := hb.2.2 l' hl'
      rw [hu1]; unfold w0
      refine ⟨?_, ?_, ?_, fun a' ha' => ?_, ?_, ?_⟩
      · rw [gI_r (by decide), gI_r (by decide), gI_r (by decide), show updF (lkF u) l (6) (nI w) l' 0 = lkF u l' 0 from if_neg (by omega)]; exact d0
      · rw [gI_r (by decide), gI_r (by decide), gI_r (by decide), show updF (lkF u) l (6) (nI w) l' 1 = lkF u l' 1 from if_neg (by omega)]; exact d1
      · rw [gI_r (by decide), gI_r (by decide), gI_r (by decide), show updF (lkF u) l (6) (nI w) l' 2 = lkF u l' 2 from if_neg (by omega)]; exact d2
      · rw [gI_r (by decide), gI_r (by decide), gI_r (by decide), show updF (lkF u) l (6) (nI w) l' (3 + a') = lkF u l' (3 + a') from if_neg (by omega)]; exact d3 a' ha'
      · rw [gI_r (by decide), gI_r (by decide)]
        unfold updF
        by_cases e : l' = l ∧ 6 = 6
        · rw [if_pos e, e.1, gI_eq]
        · rw [if_neg e, gI_k (fun q => e ⟨q, rfl⟩)]; exact d6
      · rw [gI_r (by decide), gI_r (by decide), gI_r (by decide), show updF (lkF u) l (6) (nI w) l' 7 = lkF u l' 7 from if_neg (by omega)]; exact d7
-- sure
set_option maxHeartbeats 2000000 in
theorem s_sure (x1 x2 : Int32) : Step [1] (fun u => mX8_sure u x1 x2) (fun u => mX9_sure u x1 x2) := by
  intro u hI
  have ⟨p, h, hv⟩ := hI
  have hw := w0c h
  have n6 := h.1.1.1
  have t6 := h.1.1.2.1
  have q4 := h.1.1.2.2.1
  have n14 := h.2.2.2.2.2.1.2.1.1.1
  cases b1 : inB x1 (pN p) with
  | false =>
    refine Step.bad hI (k := 1) (v := 0) (b := 0) (c := 1) ?_ ?_ (by decide)
    · unfold mX8_sure; simp only [bd_q, jp_q, ob_q, on_q, if_true, if_false, Bool.false_eq_true, Bool.true_eq_false, Bool.not_true, Bool.not_false, pr99, pr9, pr8, cReqS h, cReqT h, cReqQ h, cReqL h, cReqB, cReq0, cReq1, cTenthB, cAskB, cFitB, xqz, xq1, xq2, xq3, pl2, pl3, pl4, pl5, pl14, pl40, pl50, pl100, pl999, pe3, pe11, pe30, pe40, pe300, bI_if, bI_0, b1]
    · show mX9_sure u x1 x2 = _
      unfold mX9_sure; simp only [bd_q, jp_q, ob_q, on_q, if_true, if_false, Bool.false_eq_true, Bool.true_eq_false, Bool.not_true, Bool.not_false, ir99, ir9, ir8, w0e, rIsS hw, rIsT hw, rIsQ hw, rIsL hw, rBad w00 _ (show (1 : Int32) ≠ 0 by decide), rBad w00 _ (show (2 : Int32) ≠ 0 by decide), rBad w00 _ (show (3 : Int32) ≠ 0 by decide), rBad1 w00 (show (1 : Int32) ≠ 0 by decide), rBad1 w00 (show (2 : Int32) ≠ 0 by decide), rBad1 w00 (show (3 : Int32) ≠ 0 by decide), rBad0 w00 (show (1 : Int32) ≠ 0 by decide), rBad0 w00 (show (2 : Int32) ≠ 0 by decide), rBad0 w00 (show (3 : Int32) ≠ 0 by decide), e10, in2, in3, in4, in5, in10, in14, in29, in39, in40, in50, in100, in299, in999, bI_nn, bI_0, b1]
  | true =>
  obtain ⟨l, hl, rfl⟩ := inB_t (by omega) b1
  cases b2 : inB x2 101 with
  | false =>
    refine Step.bad hI (k := 1) (v := 0) (b := 0) (c := 1) ?_ ?_ (by decide)
    · unfold mX8_sure; simp only [bd_q, jp_q, ob_q, on_q, if_true, if_false, Bool.false_eq_true, Bool.true_eq_false, Bool.not_true, Bool.not_false, pr99, pr9, pr8, cReqS h, cReqT h, cReqQ h, cReqL h, cReqB, cReq0, cReq1, cTenthB, cAskB, cFitB, xqz, xq1, xq2, xq3, pl2, pl3, pl4, pl5, pl14, pl40, pl50, pl100, pl999, pe3, pe11, pe30, pe40, pe300, bI_if, bI_0, b1, b2, kn100, in100']
    · show mX9_sure u (nI l) x2 = _
      unfold mX9_sure; simp only [bd_q, jp_q, ob_q, on_q, if_true, if_false, Bool.false_eq_true, Bool.true_eq_false, Bool.not_true, Bool.not_false, ir99, ir9, ir8, w0e, rIsS hw, rIsT hw, rIsQ hw, rIsL hw, rBad w00 _ (show (1 : Int32) ≠ 0 by decide), rBad w00 _ (show (2 : Int32) ≠ 0 by decide), rBad w00 _ (show (3 : Int32) ≠ 0 by decide), rBad1 w00 (show (1 : Int32) ≠ 0 by decide), rBad1 w00 (show (2 : Int32) ≠ 0 by decide), rBad1 w00 (show (3 : Int32) ≠ 0 by decide), rBad0 w00 (show (1 : Int32) ≠ 0 by decide), rBad0 w00 (show (2 : Int32) ≠ 0 by decide), rBad0 w00 (show (3 : Int32) ≠ 0 by decide), e10, in2, in3, in4, in5, in10, in14, in29, in39, in40, in50, in100, in299, in999, bI_nn, bI_0, b1, b2, kn100, in100']
  | true =>
  obtain ⟨w, hw9, rfl⟩ := inB_t (by decide) b2
  obtain ⟨l14, ls, lt, l0, l1, m0, m1, lf⟩ := h.lk hl
  obtain ⟨r0, r1, r2, r3, r6, r7⟩ := h.row hl
  have hb := h.2.2.2.2.2.1.2.1.1
  obtain ⟨u1, hu1⟩ : ∃ u1, u1 = wI u 24 0 (l) (nI w) := ⟨_, rfl⟩
  have g81 : gI (w0 u1) 81 = gI u 81 := by rw [hu1]; unfold w0; rw [gI_r (by decide), gI_r (by decide)]
  have g28 : gI (w0 u1) 9 0 28 = nI (pN p) := by rw [hu1]; unfold w0; rw [gI_k (by decide), gI_r (by decide)]; exact h.rn
  have hlk : lkF (wI (w0 u1) 81 l (7) (nI w)) = updF (lkF u) l (7) (nI w) := by rw [lkF_w l14, hu1]; unfold w0; rw [lkF_r (by decide), lkF_r (by decide)]
  refine Step.ok (u1 := u1) (u2 := wI (w0 u1) 81 l (7) (nI w)) (v := lkF u l (7)) ?_ ?_ ?_ ?_
  · unfold mX8_sure; simp only [bd_q, jp_q, ob_q, on_q, if_true, if_false, Bool.false_eq_true, Bool.true_eq_false, Bool.not_true, Bool.not_false, pr99, pr9, pr8, cReqS h, cReqT h, cReqQ h, cReqL h, cReqB, cReq0, cReq1, cTenthB, cAskB, cFitB, xqz, xq1, xq2, xq3, pl2, pl3, pl4, pl5, pl14, pl40, pl50, pl100, pl999, pe3, pe11, pe30, pe40, pe300, bI_if, bI_0, b1, b2, kn100, in100', ck_nI l14 (show 14 < 2 ^ 31 by decide), kn100, r7, ← hu1]
  · show mX9_sure u1 (nI l) (nI w) = _
    unfold mX9_sure; simp only [bd_q, jp_q, ob_q, on_q, if_true, if_false, Bool.false_eq_true, Bool.true_eq_false, Bool.not_true, Bool.not_false, ir99, ir9, ir8, w0e, rIsS hw, rIsT hw, rIsQ hw, rIsL hw, rBad w00 _ (show (1 : Int32) ≠ 0 by decide), rBad w00 _ (show (2 : Int32) ≠ 0 by decide), rBad w00 _ (show (3 : Int32) ≠ 0 by decide), rBad1 w00 (show (1 : Int32) ≠ 0 by decide), rBad1 w00 (show (2 : Int32) ≠ 0 by decide), rBad1 w00 (show (3 : Int32) ≠ 0 by decide), rBad0 w00 (show (1 : Int32) ≠ 0 by decide), rBad0 w00 (show (2 : Int32) ≠ 0 by decide), rBad0 w00 (show (3 : Int32) ≠ 0 by decide), e10, in2, in3, in4, in5, in10, in14, in29, in39, in40, in50, in100, in299, in999, bI_nn, bI_0, b1, b2, kn100, in100', rIsL' g28 n14, g81, lf, ck_nI (show l < 15 by omega) (show 15 < 2 ^ 31 by decide), in100', show ck 8 7 = some 7 from by decide]
  · rw [gI_r (by decide), w00]
  · refine IV.field h hv hl (by omega) ⟨fun e => by omega, fun e => by omega, fun _ => ⟨w, hw9, rfl⟩⟩ ?_ hlk ?_ ?_ ?_ ?_
    · rw [hu1]; exact ((CF.rf.h (by decide)).w0 (by decide)).f (by decide)
    · rw [gI_r (by decide), hu1]; unfold w0; rw [gI_r (by decide), gI_r (by decide)]
    · intro r hr; rw [gI_r (by omega), hu1]; unfold w0; rw [gI_r (by omega), gI_r (by omega)]
    · rw [hu1]; unfold w0; exact ⟨by rw [gI_r (by decide), gI_r (by decide), gI_r (by decide)], by rw [gI_r (by decide), gI_r (by decide), gI_r (by decide)], by rw [gI_r (by decide), gI_r (by decide), gI_r (by decide)], by rw [gI_r (by decide), gI_r (by decide), gI_r (by decide)]⟩
    · rw [hlk]
      refine ⟨hb.1, by rw [gI_r (by decide), hu1]; unfold w0; rw [gI_r (by decide), gI_r (by decide)]; exact hb.2.1, fun l' hl' => ?_⟩
      obtain ⟨d0, d1, d2, d3, d6, d7⟩ := hb.2.2 l' hl'
      rw [hu1]; unfold w0
      refine ⟨?_, ?_, ?_, fun a' ha' => ?_, ?_, ?_⟩
      · rw [gI_r (by decide), gI_r (by decide), gI_r (by decide), show updF (lkF u) l (7) (nI w) l' 0 = lkF u l' 0 from if_neg (by omega)]; exact d0
      · rw [gI_r (by decide), gI_r (by decide), gI_r (by decide), show updF (lkF u) l (7) (nI w) l' 1 = lkF u l' 1 from if_neg (by omega)]; exact d1
      · rw [gI_r (by decide), gI_r (by decide), gI_r (by decide), show updF (lkF u) l (7) (nI w) l' 2 = lkF u l' 2 from if_neg (by omega)]; exact d2
      · rw [gI_r (by decide), gI_r (by decide), gI_r (by decide), show updF (lkF u) l (7) (nI w) l' (3 + a') = lkF u l' (3 + a') from if_neg (by omega)]; exact d3 a' ha'
      · rw [gI_r (by decide), gI_r (by decide), gI_r (by decide), show updF (lkF u) l (7) (nI w) l' 6 = lkF u l' 6 from if_neg (by omega)]; exact d6
      · rw [gI_r (by decide), gI_r (by decide)]
        unfold updF
        by_cases e : l' = l ∧ 7 = 7
        · rw [if_pos e, e.1, gI_eq]
        · rw [if_neg e, gI_k (fun q => e ⟨q, rfl⟩)]; exact d7
