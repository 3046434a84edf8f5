/-! ===== the class reads a law ===== -/
theorem sgx {i : Nat} {ch : Int32} (hi : bytC.getD i [] = [ch]) {B : Nat → Int32} {n p : Nat} : sgO i B n p = if sgB B n p ch = true then some 0 else none := by
  unfold sgO sgB
  rw [hi]
  by_cases c : sk B n p < n
  · rw [if_pos c, decide_eq_true c, Bool.true_and]
    show (List.findIdx? (fun c => decide (B (sk B n p) = c)) [ch]) = _
    by_cases d : B (sk B n p) = ch
    · simp [d]
    · simp [d]
  · rw [if_neg c, decide_eq_false c]; simp
theorem stDx {i : Nat} {ch : Int32} (hi : bytC.getD i [] = [ch]) {B : Nat → Int32} {n : Nat} (s : LSt) : stD i B n (lPl s) = lPl (lG B n s ch) := by
  rw [lPl_G]
  cases s with
  | error e => rfl
  | ok pc =>
    show (if (sgO i B n pc.1).isSome = true then _ else _) = if sgB B n pc.1 ch = true then _ else _
    rw [sgx hi]
    by_cases c : sgB B n pc.1 ch = true
    · rw [if_pos c, if_pos c]; rfl
    · rw [if_neg c, if_neg c, if_neg (by simp)]
theorem cEmit {B : Nat → Int32} {n i k : Nat} {s : LSt} {u : HS} (h : CLs B n i (k + 1) s u) (x y : Int32) (hy : ∀ pc, s = .ok pc → y = enc x) : ∃ u', mX1_emit u i y = some u' ∧ CLs B n i k (lE x s) u' ∧ LF i u u' := by
  obtain ⟨h1, h2, h3, h4⟩ := h
  have key : ∀ m, gI u 1 i 1 = nI m → m < 400 → mX1_emit u i y = some (wI (wI u 32 i m y) 1 i 1 (nI (m + 1))) := fun m hm hlt => by
    unfold mX1_emit
    rw [hm, if_neg (show ¬ Nat.toInt32 400 ≤ nI m from nI_ge (b := 400) hlt (by decide)), ck_nI hlt (by decide)]
    simp only [ob_q, bd_q, gI_r (show 1 ≠ 32 by decide), hm, nI_1]
  have F : ∀ m, LF i u (wI (wI u 32 i m y) 1 i 1 (nI (m + 1))) := fun m => ⟨fun r a b c => by rw [gI_r b, gI_r c], fun r k' a b => by
      rcases a with rfl | rfl
      · rw [gI_ri b, gI_r (by decide)]
      · rw [gI_r (by decide), gI_ri b], fun k' a => by rw [gI_k a, gI_r (by decide)], fun k' a => by rw [gI_r (by decide), gI_r (by decide)], rfl⟩
  cases s with
  | error e =>
    obtain ⟨m, hm, hm2⟩ := h3
    by_cases c : m < 400
    · refine ⟨_, key m hm2 c, ⟨h1, (h2.w (by decide) (by decide)).w (by decide) (by decide), ⟨m + 1, by omega, gI_eq⟩, fun pc hpc => by cases hpc⟩, F m⟩
    · refine ⟨u, ?_, ⟨h1, h2, ⟨m, hm, hm2⟩, fun pc hpc => by cases hpc⟩, LF.rf⟩
      unfold mX1_emit
      rw [hm2, if_pos (show Nat.toInt32 400 ≤ nI m from nI_le (a := 400) (by omega) (by omega))]
  | ok pc =>
    obtain ⟨p, c⟩ := pc
    have hp := h2.le
    have hb := h4 _ rfl
    simp only at hb
    have g1 : gI u 1 i 1 = nI c.length := h3.1
    have g2 : ∀ j, j < c.length → gI u 32 i j = enc (c.getD j 0) := h3.2
    have hp1 : p ≤ n := hp.1
    refine ⟨_, key c.length g1 (by omega), ⟨h1, (h2.w (by decide) (by decide)).w (by decide) (by decide), ⟨?_, fun j hj => ?_⟩, fun pc hpc => ?_⟩, F c.length⟩
    · show _ = nI (c ++ [x]).length
      rw [gI_eq, List.length_append]; rfl
    · have hj : j < (c ++ [x]).length := hj
      show _ = enc ((c ++ [x]).getD j 0)
      rw [gI_r (by decide), List.getD_eq_getElem?_getD]
      by_cases e : j = c.length
      · rw [e, gI_eq, hy _ rfl, List.getElem?_append_right (by omega), Nat.sub_self]; rfl
      · have : j < c.length := by
          rw [List.length_append] at hj
          have : ([x] : List Int32).length = 1 := rfl
          omega
        rw [gI_k e, g2 j this, List.getElem?_append_left this, List.getD_eq_getElem?_getD]
    · injection hpc with hpc
      rw [← hpc, List.length_append]
      show c.length + 1 + k ≤ p
      omega
def SubC (B : Nat → Int32) (n i : Nat) (g : HS → Int32 → Option HS) (o : Nat) (f : LSt → LSt) : Prop := ∀ k s u, CLs B n i k s u → ∃ u', g u (nI o) = some u' ∧ CLs B n i k (f s) u' ∧ LF i u u'
/-- a sign is demanded -/
theorem cLGS {B : Nat → Int32} {n i k j : Nat} {ch : Int32} {s : LSt} {u : HS} (hj : bytC.getD j [] = [ch]) (hj2 : strOk j) (h : CLs B n i k s u) : ∃ val u', mX5_demandSign u j = some (val, u') ∧ CLs B n i k (lG B n s ch) u' ∧ LF i u u' ∧ (∀ pc, s = .ok pc → sgB B n pc.1 ch = true → val = 0 ∧ gI u' 5 0 4 = nI pc.1) ∧ ((∀ pc, s = .ok pc → sgB B n pc.1 ch = false) → val = -1) := by
  obtain ⟨val, u', e, f, c, v1, v2⟩ := cDemS hj2 (lPl s) h.2.1
  rw [stDx hj] at c
  refine ⟨val, u', e, h.to f c (fun pc hpc => ?_), f.lf (fun _ q => q), fun pc hpc hs => ?_, fun hs => ?_⟩
  · obtain ⟨p, g1, g2, g3⟩ := lG_ok hpc
    refine ⟨p, g1, ?_⟩
    have := h.2.2.2 _ g1
    simp only at this
    have hp := h.2.1
    rw [g1] at hp
    have hp' := hp.le
    have s1 := sgB_in g2
    rw [hp'.2.2] at s1
    have l := sk_le (B := B) (show p + 1 ≤ n by omega)
    omega
  · rw [hpc] at v1
    obtain ⟨w1, w2⟩ := v1 pc.1 rfl
    rw [sgx hj, if_pos hs] at w1 w2
    exact ⟨w1, w2 rfl⟩
  · cases s with
    | error e => exact v2 e rfl
    | ok pc =>
      obtain ⟨w1, -⟩ := v1 pc.1 rfl
      rw [w1, sgx hj, if_neg (by rw [hs pc rfl]; decide)]; rfl
theorem sgO_end {i : Nat} {B : Nat → Int32} {n : Nat} : sgO i B n n = none := by
  unfold sgO; rw [sk_n, if_neg (by omega)]
theorem wdO_end {i : Nat} {B : Nat → Int32} {n : Nat} (hi : ∀ q, wdR B q 0 (bytC.getD i []) 0 (some 0) = none) : wdO i B n n = none := by
  cases h : wdO i B n n with
  | none => rfl
  | some j =>
    have h1 := wdO_st h (Nat.le_refl n) hi
    have := (wsE_le (B := B) (Nat.le_refl n)).2
    rw [sk_n] at h1
    omega
theorem wd1x {i : Nat} {w : List Int32} (hw : bytC.getD i [] = w ++ 32 :: []) (h32 : ∀ c ∈ w, c ≠ 32) {B : Nat → Int32} {n p j : Nat} (h : wdO i B n p = some j) : j = 0 := by
  unfold wdO at h
  rw [hw, wdR_eq _ _ _ h32] at h
  split at h
  · injection h with h; exact h.symm
  · cases h
/-- behind what was taken there is room for one sign more -/
theorem CLs.adv {B : Nat → Int32} {n i k q : Nat} {K : List Nat} {p : Nat} {c : List Int32} {u u' : HS} (h : CLs B n i k (.ok (p, c)) u) (F : FC K u u') (hc : CPs B n (.ok q) u') (hq : p + 1 ≤ q) : CLs B n i (k + 1) (.ok (q, c)) u' := by
  refine h.to F hc fun pc hpc => ?_
  injection hpc with hpc
  have := h.2.2.2 _ rfl
  simp only at this
  rw [← hpc]
  exact ⟨p, rfl, by simp only; omega⟩
theorem CLs.st {B : Nat → Int32} {n i k : Nat} {K : List Nat} {s : LSt} {u u' : HS} (h : CLs B n i k s u) (F : FC K u u') (hc : CPs B n (lPl s) u') : CLs B n i k s u' := by
  refine h.to F hc fun pc hpc => ⟨pc.1, hpc, h.2.2.2 _ hpc⟩
theorem opE {j : Nat} (a : Nat) (h : j < 2) (ha : a = 10020 ∨ a = 10022 ∨ a = 10024) : enc (nI (a + j)) = (if a = 10020 then (-20) - nI j else if a = 10022 then (-22) - nI j else (-24) - nI j) := by
  rcases (show j = 0 ∨ j = 1 by omega) with q | q <;> rcases ha with r | r | r <;> subst q <;> subst r <;> rfl
