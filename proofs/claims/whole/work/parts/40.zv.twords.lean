/-- the letters of the word at p are letters -/
theorem az_in {B : Nat → Int32} {n p : Nat} (hp : p ≤ n) {j : Nat} (h1 : sk B n p ≤ j) (h2 : j < wsE B n p) : isAz (B j) = true := by
  have key : ∀ d q, q + d = n → ∀ j, q ≤ j → j < wh B isAz n q → isAz (B j) = true := by
    intro d
    induction d with
    | zero =>
      intro q hq j a b
      have : q = n := by omega
      rw [this, wh_n] at b; omega
    | succ d ih =>
      intro q hq j a b
      cases c : isAz (B q) with
      | true =>
        by_cases e : j = q
        · rw [e]; exact c
        · rw [wh_y (by omega) c] at b; exact ih (q + 1) (by omega) j (by omega) b
      | false => rw [wh_no (by omega) c] at b; omega
  have hsk := sk_le (B := B) hp
  exact key (n - sk B n p) (sk B n p) (by omega) j h1 h2
theorem tWordL {B : Nat → Int32} {n q : Nat} {u : HS} {w : Int32 → Int32 → Option (Int32 × HS)} (h : LexR B n q u) : ∀ (d j fu : Nat), q + j + d = n → d < fu → (∀ i, i < j → isAz (B (q + i)) = true) → mX9_wordHere_L8 u w fu (nI (vN (azV B q) (min j 6))) (nI j) = w (nI (vN (azV B q) (min (wh B isAz n (q + j) - q) 6))) (nI (wh B isAz n (q + j) - q)) := by
  have hn := h.2.1
  have hb : ∀ j, (∀ i, i < j → isAz (B (q + i)) = true) → vN (azV B q) (min j 6) < 27 ^ 6 := fun j hj => by
    have h1 : vN (azV B q) (min j 6) < 27 ^ min j 6 := vN_lt (min j 6) (by omega) fun i hi => by
      obtain ⟨t, t1, t2, -, t3⟩ := isAz_v (hj i (by omega))
      unfold azV; omega
    have h2 : (27 : Nat) ^ min j 6 ≤ 27 ^ 6 := Nat.pow_le_pow_right (by decide) (by omega)
    omega
  intro d
  induction d with
  | zero =>
    intro j fu h1 h2 h3
    obtain ⟨z, rfl⟩ : ∃ z, fu = z + 1 := ⟨fu - 1, by omega⟩
    have e : q + j = n := by omega
    rw [mX9_wordHere_L8.eq_2, h.2.2.1, nI_add, rByte h (by omega), if_neg (by omega)]
    simp only [ob_q]
    rw [if_pos (by decide), e, wh_n, show n - q = j by omega]
  | succ d ih =>
    intro j fu h1 h2 h3
    obtain ⟨z, rfl⟩ : ∃ z, fu = z + 1 := ⟨fu - 1, by omega⟩
    rw [mX9_wordHere_L8.eq_2, h.2.2.1, nI_add, rByte h (by omega), if_pos (show q + j < n by omega)]
    simp only [ob_q, bd_q, nI_1]
    cases c : isAz (B (q + j)) with
    | false =>
      rw [wh_no (by omega) c, show q + j - q = j by omega]
      unfold isAz at c
      by_cases c1 : B (q + j) < 97
      · rw [if_pos c1]
      · rw [if_neg c1]
        by_cases c2 : 122 < B (q + j)
        · rw [if_pos c2]
        · rw [decide_eq_false c1, decide_eq_false c2] at c; cases c
    | true =>
      have hc := c
      unfold isAz at hc
      simp only [Bool.and_eq_true, Bool.not_eq_true', decide_eq_false_iff_not] at hc
      rw [if_neg hc.1, if_neg hc.2]
      obtain ⟨t, t1, t2, eb, ev⟩ := isAz_v c
      have h3' : ∀ i, i < j + 1 → isAz (B (q + i)) = true := fun i hi => by
        by_cases e : i = j
        · rw [e]; exact c
        · exact h3 i (by omega)
      have hv : (if 6 ≤ nI j then some (nI (vN (azV B q) (min j 6))) else some (27 * nI (vN (azV B q) (min j 6)) + B (q + j) - 97 + 1) : Option Int32) = some (nI (vN (azV B q) (min (j + 1) 6))) := by
        by_cases e : 6 ≤ j
        · rw [if_pos (show (6 : Int32) ≤ nI j from nI_le (a := 6) e (by omega)), show min (j + 1) 6 = min j 6 by omega]
        · rw [if_neg (show ¬ (6 : Int32) ≤ nI j from nI_ge (b := 6) (by omega) (by decide)), show min j 6 = j by omega, show min (j + 1) 6 = j + 1 by omega]
          have hb5 : vN (azV B q) j < 27 ^ 5 := by
            have h1 : vN (azV B q) j < 27 ^ j := vN_lt j (by omega) fun i hi => by
              obtain ⟨t, t1, t2, -, t3⟩ := isAz_v (h3 i hi)
              unfold azV; omega
            have h2 : (27 : Nat) ^ j ≤ 27 ^ 5 := Nat.pow_le_pow_right (by decide) (by omega)
            omega
          have hb6 : (27 : Nat) ^ 5 = 14348907 := by decide
          congr 1
          show _ = nI (27 * vN (azV B q) j + azV B q j)
          rw [show azV B q j = t from ev, eb, Int32.mul_comm, show (nI (vN (azV B q) j) * 27 : Int32) = nI (vN (azV B q) j * 27) from pk_mul _ 27, nI_add, show (97 : Int32) = nI 97 from rfl, nI_subN (by omega) (by omega), nI_1]
          congr 1; omega
      rw [hv]
      simp only [ob_q]
      rw [ih (j + 1) z (by omega) (by omega) h3', wh_y (by omega) c, Nat.add_assoc]
/-- what the reference makes of the word at p -/
def wvO (B : Nat → Int32) (n p : Nat) : Int32 := if wsE B n p - sk B n p ≤ 6 then nI (vN (azV B (sk B n p)) (wsE B n p - sk B n p)) else -1
theorem tHere {B : Nat → Int32} {n p : Nat} {u : HS} (h : LexR B n p u) : ∃ u', mX9_wordHere u = some (wvO B n p, u') ∧ LexR B n (sk B n p) u' ∧ Fr [] [4] u u' := by
  have hn := h.2.1
  have hsk := sk_le (B := B) h.2.2.2.1
  have hws := wsE_le (B := B) h.2.2.2.1
  unfold mX9_wordHere
  obtain ⟨u1, e1, l1, f1⟩ := rSkip h
  rw [e1]
  simp only [ob_q, jp_q]
  refine ⟨u1, ?_, l1, f1⟩
  have := tWordL (w := fun (x105 x106 : Int32) => if x106 ≤ 6 then some (x105, u1) else some (-1, u1)) l1 (n - sk B n p) 0 FU (by omega) (FU_lt (by omega)) (fun i hi => absurd hi (Nat.not_lt_zero i))
  rw [Nat.add_zero] at this
  refine Eq.trans this ?_
  show (if nI (wsE B n p - sk B n p) ≤ 6 then some (nI (vN (azV B (sk B n p)) (min (wsE B n p - sk B n p) 6)), u1) else some (-1, u1)) = _
  unfold wvO
  by_cases c : wsE B n p - sk B n p ≤ 6
  · rw [if_pos (show nI (wsE B n p - sk B n p) ≤ 6 from nI_le (b := 6) c (by decide)), if_pos c, Nat.min_eq_left c]
  · rw [if_neg (show ¬ nI (wsE B n p - sk B n p) ≤ 6 from nI_ge (a := 6) (by omega) (by omega)), if_neg c]
/-- a word of the list, as both sides know it: its letters, their places in the alphabet -/
def wdV (w : List Int32) (j : Nat) : Nat := (w.getD j 0).toNatClampNeg - 96
theorem vN_31 (f : Nat → Nat) (m : Nat) (hm : m ≤ 6) (hf : ∀ j, j < m → f j ≤ 26) : vN f m < 2 ^ 31 := by
  have h1 := vN_lt (f := f) m hm hf
  have h2 : (27 : Nat) ^ m ≤ 27 ^ 6 := Nat.pow_le_pow_right (by decide) hm
  have h3 : (27 : Nat) ^ 6 = 387420489 := by decide
  omega
theorem wd_az {w : List Int32} (ha : ∀ j, j < w.length → isAz (w.getD j 0) = true) (j : Nat) (hj : j < w.length) : 1 ≤ wdV w j ∧ wdV w j ≤ 26 ∧ w.getD j 0 = nI (96 + wdV w j) := by
  obtain ⟨t, t1, t2, t4, t3⟩ := isAz_v (ha j hj)
  unfold wdV
  rw [t3]
  exact ⟨t1, t2, t4⟩
theorem bz_az {B : Nat → Int32} {n p : Nat} (hp : p ≤ n) (j : Nat) (hj : j < wsE B n p - sk B n p) : 1 ≤ azV B (sk B n p) j ∧ azV B (sk B n p) j ≤ 26 ∧ B (sk B n p + j) = nI (96 + azV B (sk B n p) j) := by
  obtain ⟨t, t1, t2, t4, t3⟩ := isAz_v (az_in hp (show sk B n p ≤ sk B n p + j by omega) (show sk B n p + j < wsE B n p by omega))
  unfold azV
  rw [t3]
  exact ⟨t1, t2, t4⟩
theorem wv_to {B : Nat → Int32} {n p : Nat} (hp : p ≤ n) (w : List Int32) (hw : w.length ≤ 6) (ha : ∀ j, j < w.length → isAz (w.getD j 0) = true) (h : wvO B n p = nI (vN (wdV w) w.length)) : w.length = wsE B n p - sk B n p ∧ ∀ j, j < w.length → B (sk B n p + j) = w.getD j 0 := by
  have dw := wd_az ha
  have db := bz_az (B := B) hp
  unfold wvO at h
  by_cases c : wsE B n p - sk B n p ≤ 6
  · rw [if_pos c] at h
    have h' := (nI_eq (vN_31 _ _ c fun j hj => (db j hj).2.1) (vN_31 _ _ hw fun j hj => (dw j hj).2.1)).mp h
    obtain ⟨e1, e2⟩ := vN_inj _ _ (fun j hj => ⟨(db j hj).1, (db j hj).2.1⟩) (fun j hj => ⟨(dw j hj).1, (dw j hj).2.1⟩) h'
    exact ⟨e1.symm, fun j hj => by rw [(db j (by omega)).2.2, (dw j hj).2.2, e2 j (by omega)]⟩
  · rw [if_neg c] at h
    exact absurd h.symm (nI_m1 (vN_31 _ _ hw fun j hj => (dw j hj).2.1))
theorem wv_of {B : Nat → Int32} {n p : Nat} (w : List Int32) (hw : w.length ≤ 6) (h1 : w.length = wsE B n p - sk B n p) (h2 : ∀ j, j < w.length → B (sk B n p + j) = w.getD j 0) : wvO B n p = nI (vN (wdV w) w.length) := by
  unfold wvO
  rw [if_pos (by omega), ← h1]
  have : ∀ m, m ≤ w.length → vN (azV B (sk B n p)) m = vN (wdV w) m := by
    intro m
    induction m with
    | zero => exact fun _ => by show (0 : Nat) = 0; exact Eq.refl 0
    | succ m ih =>
      intro hm
      show 27 * vN (azV B (sk B n p)) m + azV B (sk B n p) m = 27 * vN (wdV w) m + wdV w m
      rw [ih (by omega)]
      have e : azV B (sk B n p) m = wdV w m := by unfold azV wdV; rw [h2 m (by omega)]
      rw [e]
  rw [this _ (Nat.le_refl _)]
theorem eqW_iff {B : Nat → Int32} {q len : Nat} {w : List Int32} : eqW B q len w = true ↔ w.length = len ∧ ∀ j, j < w.length → B (q + j) = w.getD j 0 := by
  unfold eqW
  rw [Bool.and_eq_true, List.all_eq_true]
  constructor
  · rintro ⟨a, b⟩; exact ⟨of_decide_eq_true a, fun j hj => of_decide_eq_true (b j (List.mem_range.mpr hj))⟩
  · rintro ⟨a, b⟩; exact ⟨decide_eq_true a, fun j hj => decide_eq_true (b j (List.mem_range.mp hj))⟩
theorem wv_eq {B : Nat → Int32} {n p : Nat} (hp : p ≤ n) (w : List Int32) (hw : w.length ≤ 6) (ha : ∀ j, j < w.length → isAz (w.getD j 0) = true) : (wvO B n p = nI (vN (wdV w) w.length)) ↔ eqW B (sk B n p) (wsE B n p - sk B n p) w = true := by
  rw [eqW_iff]
  exact ⟨wv_to hp w hw ha, fun h => wv_of w hw h.1 h.2⟩
