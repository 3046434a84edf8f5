theorem wdR_le {B : Nat → Int32} {p len : Nat} : ∀ (cs : List Int32) (v : Nat) (al : Option Nat) (r : Nat), wdR B p len cs v al = some r → r ≤ v + cs.length := by
  intro cs
  induction cs with
  | nil => intro v al r h; cases h
  | cons c cs ih =>
    intro v al r h
    change (if c = 32 then (if al = some len then some v else wdR B p len cs (v + 1) (some 0)) else wdR B p len cs v (al.bind fun a => if a < len ∧ B (p + a) = c then some (a + 1) else none)) = some r at h
    rw [List.length_cons]
    by_cases c1 : c = 32
    · rw [if_pos c1] at h
      by_cases c2 : al = some len
      · rw [if_pos c2] at h; injection h with h; omega
      · rw [if_neg c2] at h; have := ih _ _ _ h; omega
    · rw [if_neg c1] at h; have := ih _ _ _ h; omega
theorem cStop {B : Nat → Int32} {n q : Nat} {u : HS} {w : Int32 → Option (Int32 × HS)} (h : LexC B n q u) : ∀ (d p fu : Nat), p + d = n → d < fu → mX5_takeWord_L18 u w fu (nI p) = w (nI (wh B isAz n p)) := by
  have hn := h.2.1
  intro d
  induction d with
  | zero =>
    intro p fu h1 h2
    obtain ⟨z, rfl⟩ : ∃ z, fu = z + 1 := ⟨fu - 1, by omega⟩
    have e : p = n := by omega
    subst e
    rw [mX5_takeWord_L18.eq_2, h.1, if_pos (nI_le (Nat.le_refl _) (by omega)), wh_n]
  | succ d ih =>
    intro p fu h1 h2
    obtain ⟨z, rfl⟩ : ∃ z, fu = z + 1 := ⟨fu - 1, by omega⟩
    rw [mX5_takeWord_L18.eq_2, h.1, if_neg (nI_ge (show p < n by omega) (by omega)), cIsAt h (by omega), if_pos (by omega)]
    simp only [ob_q, bd_q, nI_1]
    show (if bI (isAz (B p)) = 0 then _ else _) = _
    cases c : isAz (B p) with
    | false => rw [if_pos (show bI false = 0 from rfl), wh_no (by omega) c]
    | true => rw [if_neg (show ¬ bI true = 0 by decide), wh_y (by omega) c]; exact ih (p + 1) z (by omega) (by omega)
/-- where the letters at the next place end -/
def wsE (B : Nat → Int32) (n p : Nat) : Nat := wh B isAz n (sk B n p)
def wdO (i : Nat) (B : Nat → Int32) (n p : Nat) : Option Nat := wdR B (sk B n p) (wsE B n p - sk B n p) (bytC.getD i []) 0 (some 0)
theorem wsE_le {B : Nat → Int32} {n p : Nat} (h : p ≤ n) : sk B n p ≤ wsE B n p ∧ wsE B n p ≤ n := wh_le (sk_le h).2
/-- the class takes a word -/
theorem cTakeW {B : Nat → Int32} {n p i : Nat} {u : HS} (hi : strOk i) (h : LexC B n p u) : ∃ u', mX5_takeWord u i = some ((if gI u 5 0 5 = 0 then (wdO i B n p).elim (-1) nI else -1), u') ∧ FC [3, 4] u u' ∧ if gI u 5 0 5 = 0 then LexC B n (if (wdO i B n p).isSome = true then wsE B n p else sk B n p) u' ∧ ((wdO i B n p).isSome = true → gI u' 5 0 4 = nI (sk B n p)) else u' = u := by
  have hsk := sk_le (B := B) h.2.2.2.1
  have hws := wsE_le (B := B) h.2.2.2.1
  have hn := h.2.1
  have hl := hi.2
  unfold mX5_takeWord
  by_cases c0 : gI u 5 0 5 = 0
  · simp only [if_pos c0]
    obtain ⟨u1, e1, l1, f1⟩ := cSkip h
    rw [e1]
    simp only [ob_q, bd_q, jp_q, l1.2.2.1]
    rw [cStop l1 (n - sk B n p) (sk B n p) FU (by omega) (FU_lt (by omega))]
    have e2 : mX5_wordIn u1 i (nI (wsE B n p) - nI (sk B n p)) = some ((wdO i B n p).elim (-1) nI) := by
      rw [nI_subN hws.1 (by omega)]
      unfold mX5_wordIn
      simp only [jp_q]
      have := cWordL (len := wsE B n p - sk B n p) hi l1 (by omega) (bytC.getD i []).length 0 FU 0 (some 0) (by omega) (FU_lt (by omega)) (Nat.le_refl _) (fun a ha => by injection ha with ha; omega)
      rw [List.drop_zero] at this
      exact this
    show ∃ u', ((mX5_wordIn u1 i (nI (wsE B n p) - nI (sk B n p))).bind fun x109 => if x109 = -1 then some (x109, u1) else some (x109, wI (wI u1 5 0 4 (nI (sk B n p))) 5 0 3 (nI (wsE B n p)))) = _ ∧ _
    rw [e2]
    simp only [ob_q]
    cases hs : wdO i B n p with
    | none => exact ⟨u1, rfl, f1.mo (by decide), by rw [if_neg (by simp)]; exact l1, fun q => by cases q⟩
    | some j =>
      have hj : nI j ≠ -1 := nI_m1 (by have := wdR_le _ _ _ _ hs; omega)
      exact ⟨_, if_neg hj, ((f1.mo (by decide)).w (by decide)).w (by decide), by rw [if_pos (show (some j).isSome = true from rfl)]; exact (l1.k (by decide) (by decide)).mv hws.2, fun _ => by rw [gI_k (by decide), gI_eq]⟩
  · simp only [if_neg c0]
    exact ⟨u, rfl, FC.rf, rfl⟩
/-! words, as the reference reads them -/
def vN (f : Nat → Nat) : Nat → Nat
  | 0 => 0
  | m + 1 => 27 * vN f m + f m
theorem vN_inj {f g : Nat → Nat} : ∀ (m k : Nat), (∀ j, j < m → 1 ≤ f j ∧ f j ≤ 26) → (∀ j, j < k → 1 ≤ g j ∧ g j ≤ 26) → vN f m = vN g k → m = k ∧ ∀ j, j < m → f j = g j := by
  intro m
  induction m with
  | zero =>
    intro k hf hg h
    cases k with
    | zero => exact ⟨rfl, fun j hj => absurd hj (Nat.not_lt_zero j)⟩
    | succ k => exfalso; have := hg k (by omega); change 0 = 27 * vN g k + g k at h; omega
  | succ m ih =>
    intro k hf hg h
    cases k with
    | zero => exfalso; have := hf m (by omega); change 27 * vN f m + f m = 0 at h; omega
    | succ k =>
      have h1 := hf m (by omega)
      have h2 := hg k (by omega)
      change 27 * vN f m + f m = 27 * vN g k + g k at h
      obtain ⟨e1, e2⟩ := ih k (fun j hj => hf j (by omega)) (fun j hj => hg j (by omega)) (by omega)
      subst e1
      refine ⟨rfl, fun j hj => ?_⟩
      by_cases c : j = m
      · subst c; omega
      · exact e2 j (by omega)
def azV (B : Nat → Int32) (q j : Nat) : Nat := (B (q + j)).toNatClampNeg - 96
theorem isAz_v {b : Int32} (h : isAz b = true) : ∃ t, 1 ≤ t ∧ t ≤ 26 ∧ b = nI (96 + t) ∧ b.toNatClampNeg - 96 = t := by
  unfold isAz at h
  simp only [Bool.and_eq_true, Bool.not_eq_true', decide_eq_false_iff_not, Int32.not_lt] at h
  obtain ⟨j, hj, e⟩ := nI_of (x := b) (Int32.not_lt.mpr (Int32.le_trans (by decide) h.1))
  rw [e] at h
  have h1 := (nI_leI (a := 97) (by decide) hj).mp h.1
  have h2 := (nI_leI (b := 122) hj (by decide)).mp h.2
  exact ⟨j - 96, by omega, by omega, by rw [e]; congr 1; omega, by rw [e, nI_clamp hj]⟩
theorem vN_lt {f : Nat → Nat} : ∀ m, m ≤ 6 → (∀ j, j < m → f j ≤ 26) → vN f m < 27 ^ m := by
  intro m
  induction m with
  | zero => intro _ _; exact Nat.zero_lt_one
  | succ m ih =>
    intro h1 h2
    have a := ih (by omega) (fun j hj => h2 j (by omega))
    have b := h2 m (by omega)
    show 27 * vN f m + f m < 27 ^ (m + 1)
    rw [Nat.pow_succ]
    omega
