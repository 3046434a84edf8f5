/-- which of the signs stands next -/
def sgI (cs : List Int32) (b : Int32) : Option Nat := cs.findIdx? fun c => decide (b = c)
def strOk (i : Nat) : Prop := lenC.getD i 0 = (bytC.getD i []).length ∧ (bytC.getD i []).length < 100
theorem slen_ok {i : Nat} (h : strOk i) : slen i = nI (bytC.getD i []).length := by unfold slen; rw [h.1]
theorem sch_ok {i k : Nat} (h : strOk i) (hk : k < (bytC.getD i []).length) : sch i (nI k) = some ((bytC.getD i []).getD k 0) := by
  unfold sch
  rw [h.1, ck_nI hk (by have := h.2; omega)]
  rfl
theorem getD_get {l : List Int32} {k : Nat} (hk : k < l.length) : l.getD k 0 = l[k] := by
  rw [List.getD_eq_getElem?_getD, List.getElem?_eq_getElem hk, Option.getD_some]
theorem cTakeL {B : Nat → Int32} {n p i : Nat} {u : HS} {w : Option (Int32 × HS)} (hi : strOk i) (h : LexC B n p u) (hp : p < n) : mX5_takeSign_L15 i u w FU 0 = match sgI (bytC.getD i []) (B p) with | some j => some (nI j, wI (wI u 5 0 4 (nI p)) 5 0 3 (nI (p + 1))) | none => w := by
  have hl := hi.2
  have hn := h.2.1
  refine loopR (fun fu (_ : Unit) y => mX5_takeSign_L15 i u w fu y) (bytC.getD i []).length 0 (fun k _ => ∀ j (hj : j < (bytC.getD i []).length), j < k → B p ≠ (bytC.getD i [])[j]) (fun o => o = match sgI (bytC.getD i []) (B p) with | some j => some (nI j, wI (wI u 5 0 4 (nI p)) 5 0 3 (nI (p + 1))) | none => w) ?_ ?_ (bytC.getD i []).length 0 () FU (Nat.le_refl _) (by omega) (FU_lt (by omega)) (fun j _ hj => by omega)
  · intro fu _ k _ hk hno ih
    show mX5_takeSign_L15 i u w (fu + 1) (nI k) = _
    rw [mX5_takeSign_L15.eq_2, slen_ok hi, if_neg (nI_ge hk (by omega)), h.1, h.2.2.1, if_neg (nI_ge hp (by omega)), ck_nI (show p < 400 by omega) (by decide), sch_ok hi hk]
    simp only [ob_q, bd_q, h.2.2.2.2 p hp, nI_1, getD_get hk]
    by_cases c : B p = (bytC.getD i [])[k]
    · rw [if_pos c, gI_k (by decide), h.2.2.1, nI_1]
      have : sgI (bytC.getD i []) (B p) = some k := by
        unfold sgI
        rw [List.findIdx?_eq_some_iff_getElem]
        exact ⟨hk, decide_eq_true c, fun j hj => by simpa using hno j (by omega) hj⟩
      rw [this]
    · rw [if_neg c]
      refine ih () fun j hj hjk => ?_
      by_cases e : j = k
      · subst e; exact c
      · exact hno j hj (by omega)
  · intro fu _ hno
    show mX5_takeSign_L15 i u w (fu + 1) (nI (bytC.getD i []).length) = _
    rw [mX5_takeSign_L15.eq_2, slen_ok hi, if_pos (nI_le (Nat.le_refl _) (by omega))]
    have : sgI (bytC.getD i []) (B p) = none := by
      unfold sgI
      rw [List.findIdx?_eq_none_iff]
      intro x hx
      obtain ⟨j, hj, e⟩ := List.mem_iff_getElem.mp hx
      rw [← e]
      exact decide_eq_false (hno j hj hj)
    rw [this]
def sgO (i : Nat) (B : Nat → Int32) (n p : Nat) : Option Nat := if sk B n p < n then sgI (bytC.getD i []) (B (sk B n p)) else none
/-- the class takes a sign -/
theorem cTake {B : Nat → Int32} {n p i : Nat} {u : HS} (hi : strOk i) (h : LexC B n p u) : ∃ u', mX5_takeSign u i = some ((if gI u 5 0 5 = 0 then (sgO i B n p).elim (-1) nI else -1), u') ∧ FC [3, 4] u u' ∧ if gI u 5 0 5 = 0 then LexC B n (if (sgO i B n p).isSome = true then sk B n p + 1 else sk B n p) u' ∧ ((sgO i B n p).isSome = true → gI u' 5 0 4 = nI (sk B n p)) else u' = u := by
  have hsk := sk_le (B := B) h.2.2.2.1
  unfold mX5_takeSign
  by_cases c0 : gI u 5 0 5 = 0
  · simp only [if_pos c0]
    obtain ⟨u1, e1, l1, f1⟩ := cSkip h
    rw [e1]
    simp only [ob_q, jp_q]
    unfold sgO
    by_cases c1 : sk B n p < n
    · rw [cTakeL hi l1 c1, if_pos c1]
      cases hs : sgI (bytC.getD i []) (B (sk B n p)) with
      | none => exact ⟨u1, rfl, f1.mo (by decide), by rw [if_neg (by simp)]; exact l1, fun q => by cases q⟩
      | some j => exact ⟨_, rfl, ((f1.mo (by decide)).w (by decide)).w (by decide), by rw [if_pos (show (some j).isSome = true from rfl)]; exact (l1.k (by decide) (by decide)).mv (by omega), fun _ => by rw [gI_k (by decide), gI_eq]⟩
    · rw [if_neg c1]
      refine ⟨u1, ?_, f1.mo (by decide), by rw [if_neg (by simp)]; exact l1, fun q => by cases q⟩
      have hl := hi.2
      rw [show FU = 4095 + 1 from rfl, mX5_takeSign_L15.eq_2, l1.1, l1.2.2.1, if_pos (nI_le (show n ≤ sk B n p by omega) (by have := h.2.1; omega))]
      split <;> rfl
  · simp only [if_neg c0]
    exact ⟨u, rfl, FC.rf, rfl⟩
/-- the class demands a sign -/
theorem cDemand {B : Nat → Int32} {n p i : Nat} {u : HS} (hi : strOk i) (h : LexC B n p u) : ∃ val u' p', mX5_demandSign u i = some (val, u') ∧ FC [3, 4, 5, 6] u u' ∧ LexC B n p' u' ∧ (gI u 5 0 5 ≠ 0 → gI u' 5 0 5 = gI u 5 0 5 ∧ gI u' 5 0 6 = gI u 5 0 6) ∧ (gI u 5 0 5 = 0 → match sgO i B n p with | some j => val = nI j ∧ gI u' 5 0 5 = 0 ∧ gI u' 5 0 6 = gI u 5 0 6 ∧ p' = sk B n p + 1 | none => gI u' 5 0 5 = 1 ∧ gI u' 5 0 6 = nI (sk B n p)) := by
  obtain ⟨u1, e1, f1, g1⟩ := cTake hi h
  have k5 : gI u1 5 0 5 = gI u 5 0 5 := f1.2.1 5 (by decide)
  have k6 : gI u1 5 0 6 = gI u 5 0 6 := f1.2.1 6 (by decide)
  unfold mX5_demandSign
  rw [e1]
  simp only [ob_q, bd_q]
  by_cases c0 : gI u 5 0 5 = 0
  · rw [if_pos c0] at g1
    simp only [if_pos c0]
    cases hs : sgO i B n p with
    | none =>
      rw [hs] at g1
      obtain ⟨l1, -⟩ := g1
      rw [if_neg (by simp)] at l1
      simp only [Option.elim, if_true, l1.2.2.1]
      obtain ⟨u3, e3, f3, b3, -⟩ := cBlame (u := u1) 1 (nI (sk B n p))
      rw [e3]
      exact ⟨-1, u3, sk B n p, rfl, (f1.mo (by decide)).tr (f3.mo (by decide)), l1.fc f3 (by decide) (by decide), fun q => absurd c0 q, fun _ => b3 (k5.trans c0)⟩
    | some j =>
      rw [hs] at g1
      obtain ⟨l1, -⟩ := g1
      rw [if_pos (show (some j).isSome = true from rfl)] at l1
      have hj : nI j ≠ -1 := by
        refine nI_m1 ?_
        unfold sgO at hs
        split at hs
        · unfold sgI at hs
          rw [List.findIdx?_eq_some_iff_getElem] at hs
          obtain ⟨hj, -⟩ := hs
          have := hi.2; omega
        · cases hs
      simp only [Option.elim]
      exact ⟨nI j, u1, sk B n p + 1, if_neg hj, f1.mo (by decide), l1, fun q => absurd c0 q, fun _ => ⟨rfl, k5.trans c0, k6, rfl⟩⟩
  · rw [if_neg c0] at g1
    simp only [if_neg c0, if_true]
    subst g1
    obtain ⟨u3, e3, f3, -, b3⟩ := cBlame (u := u1) 1 (gI u1 5 0 3)
    have := b3 c0
    subst this
    rw [e3]
    exact ⟨-1, u3, p, rfl, FC.rf, h, fun _ => ⟨rfl, rfl⟩, fun q => absurd q c0⟩
