/-! ===== how near: counts of tenths, misses ===== -/
def twS (c : SV) (E : Int32 → Int32) (t d : Int32) (e : Nat) : Int32 := (List.range (e + 1)).foldl (fun a τ => a + bI (decide (neaS c E 0 t (nI τ) ≤ d))) 0
def drpS (c : SV) (tk : Nat → Int32) (t : Int32) (e : Nat) : Bool := (List.range (e + 1)).any fun τ => isT c t (nI τ) && decide (((tk 1 >>> (colS c t (nI τ) &&& 31)) &&& 1) = 1)
def les (x y : Int32) : Int32 := if y ≤ x then y else x
def miS (c : SV) (E : Int32 → Int32) (t : Int32) (e : Nat) : Int32 := (List.range (e + 1)).foldl (fun a τ => les a (neaS c E 0 t (nI τ))) 99
theorem rLes (x y : Int32) : mX9_less x y = some (les x y) := by unfold mX9_less les; by_cases h : y ≤ x <;> simp [h]
theorem les_le {x y d : Int32} : les x y ≤ d ↔ x ≤ d ∨ y ≤ d := by
  unfold les
  by_cases h : y ≤ x
  · rw [if_pos h]; exact ⟨Or.inr, fun q => q.elim (fun z => Int32.le_trans h z) id⟩
  · rw [if_neg h]; exact ⟨Or.inl, fun q => q.elim id (fun z => Int32.le_trans (Int32.le_of_lt (Int32.not_le.mp h)) z)⟩
theorem miS_le {c : SV} {E : Int32 → Int32} {t d : Int32} {e : Nat} : miS c E t e ≤ d ↔ (99 : Int32) ≤ d ∨ ∃ τ, τ < e + 1 ∧ neaS c E 0 t (nI τ) ≤ d := by
  unfold miS
  have : ∀ (l : List Nat) (a : Int32), l.foldl (fun a τ => les a (neaS c E 0 t (nI τ))) a ≤ d ↔ a ≤ d ∨ ∃ τ, τ ∈ l ∧ neaS c E 0 t (nI τ) ≤ d := by
    intro l
    induction l with
    | nil => intro a; simp
    | cons x l ih =>
      intro a
      rw [List.foldl_cons, ih, les_le]
      simp only [List.mem_cons, exists_eq_or_imp, or_assoc]
  rw [this]
  simp only [List.mem_range]
theorem cnt_nI {p : Nat → Bool} : ∀ (l : List Nat) (n : Nat), l.foldl (fun a τ => a + bI (p τ)) (nI n) = nI (n + l.countP p) := by
  intro l
  induction l with
  | nil => intro n; rfl
  | cons x l ih =>
    intro n
    rw [List.foldl_cons]
    cases h : p x with
    | true => rw [List.countP_cons_of_pos h, show bI true = nI 1 from rfl, nI_add, ih]; congr 1; omega
    | false => rw [List.countP_cons_of_neg (by simp [h]), show bI false = nI 0 from rfl, nI_add, ih]; congr 1
theorem twS_nI {c : SV} {E : Int32 → Int32} {t d : Int32} {e : Nat} : twS c E t d e = nI ((List.range (e + 1)).countP fun τ => decide (neaS c E 0 t (nI τ) ≤ d)) := by
  unfold twS
  rw [show (0 : Int32) = nI 0 from rfl, cnt_nI, Nat.zero_add]
theorem twS_0 {c : SV} {E : Int32 → Int32} {t d : Int32} {e : Nat} (he : e < 300) (hd : ¬ (99 : Int32) ≤ d) : (twS c E t d e = 0) ↔ ¬ miS c E t e ≤ d := by
  rw [twS_nI, miS_le]
  have hl := List.countP_le_length (p := fun τ => decide (neaS c E 0 t (nI τ) ≤ d)) (l := List.range (e + 1))
  rw [List.length_range] at hl
  have e0 : (nI ((List.range (e + 1)).countP fun τ => decide (neaS c E 0 t (nI τ) ≤ d)) = 0) ↔ ((List.range (e + 1)).countP fun τ => decide (neaS c E 0 t (nI τ) ≤ d)) = 0 := nI_eq (b := 0) (by omega) (by decide)
  rw [e0, List.countP_eq_zero]
  simp only [List.mem_range, decide_eq_true_eq]
  constructor
  · rintro h (q | ⟨τ, h1, h2⟩)
    · exact hd q
    · exact h τ h1 h2
  · intro h τ h1 h2
    exact h (Or.inr ⟨τ, h1, h2⟩)
theorem twS_pos {c : SV} {E : Int32 → Int32} {t d : Int32} {e : Nat} (he : e < 300) : (twS c E t d e ≤ 0) = (twS c E t d e = 0) := by
  rw [twS_nI]
  have hl := List.countP_le_length (p := fun τ => decide (neaS c E 0 t (nI τ) ≤ d)) (l := List.range (e + 1))
  rw [List.length_range] at hl
  apply propext
  constructor
  · intro h
    have := (nI_leI (a := List.countP (fun τ => decide (neaS c E 0 t (nI τ) ≤ d)) (List.range (e + 1))) (b := 0) (by omega) (by decide)).mp h
    rw [show List.countP (fun τ => decide (neaS c E 0 t (nI τ) ≤ d)) (List.range (e + 1)) = 0 by omega]; rfl
  · intro h; rw [h]; exact Int32.le_refl _
/-! the class -/
theorem cNearT {u : HS} {i : Nat} {c : SV} {t' : Nat} {tk : Nat → Int32} {kn : Int32} {m : Nat} {E : Int32 → Int32} {sz nr sl : Int32} (h : VX u i c t' tk kn m E sz nr sl) {t τ : Nat} (ht : t < sT c) (hτ : τ ≤ m) : mX7_nearInTenth u (nI t) (nI τ) = some (neaS c E 0 (nI t) (nI τ)) := by
  obtain ⟨⟨h1, h2, hm⟩, hS, -, -, hE⟩ := h
  obtain ⟨eE, rE⟩ := hE τ hτ
  have hc := hS.1.2.1
  unfold mX7_nearInTenth
  simp only [h1, cPl_in hS ht (show τ < 300 by omega), ob_q, cel_m1 hc (show τ < 300 by omega), ck_nI (show τ < 300 by omega) (show 300 < 2 ^ 31 by decide), eE]
  cases q1 : isT c (nI t) (nI τ) with
  | false => rw [if_pos rfl]; unfold neaS; rw [if_pos (Or.inr q1)]
  | true =>
    rw [if_neg (by decide)]
    by_cases q2 : E (nI τ) = -1
    · rw [if_pos q2]; unfold neaS; rw [if_pos (Or.inl q2)]
    · rw [if_neg q2, cFarE hc (by omega) rE 0 q1 q2]; rfl
theorem cWithin {u : HS} {i : Nat} {c : SV} {t' : Nat} {tk : Nat → Int32} {kn : Int32} {m : Nat} {E : Int32 → Int32} {sz nr sl : Int32} (h : VX u i c t' tk kn m E sz nr sl) (hm : endS c = nI m) (d : Int32) (hd : ¬ (99 : Int32) ≤ d) : mX7_tenthsWithin u d = some (if oddS c = -1 then 0 else twS c E (oddS c) d m) := by
  have hS := h.2.1
  have hm3 := h.1.2.2
  have he9 : gI u 3 (gR u 1) 9 = oddS c := by rw [h.1.1]; exact hS.2.1.2.2.2.2.1
  have he11 : gI u 3 (gR u 1) 11 = nI m := by rw [h.1.1, hS.2.1.2.2.2.2.2.2]; exact hm
  unfold mX7_tenthsWithin
  simp only [jp_q]
  have key : mX7_tenthsWithin_L4 u d (fun a => some a) FU 0 (nI 0) = some ((List.range (m + 1)).foldl (fun a τ => a + bI (decide (oddS c ≠ -1) && decide (neaS c E 0 (oddS c) (nI τ) ≤ d))) 0) := by
    refine (loopF0 (L := fun fu a y => mX7_tenthsWithin_L4 u d (fun a => some a) fu a y) (w := fun a => some a) (fun a τ => a + bI (decide (oddS c ≠ -1) && decide (neaS c E 0 (oddS c) (nI τ) ≤ d))) (n := m + 1) (o := 0) (FU_lt (by omega)) ?_ ?_ (a := 0) :)
    · intro fu a k hk
      show mX7_tenthsWithin_L4 u d _ (fu + 1) a (nI (0 + k)) = mX7_tenthsWithin_L4 u d _ fu _ (nI (0 + k + 1))
      rw [mX7_tenthsWithin_L4.eq_2, he11, Nat.zero_add, if_neg (nI_nlt (by omega) (by omega)), he9]
      rcases oddS_nI hS.1.2.1 with z | ⟨t, ht, et⟩
      · have e99 : mX7_nearInTenth u (-1) (nI k) = some 99 := by
          unfold mX7_nearInTenth; rw [cPl_m1]; simp only [ob_q]; rfl
        rw [z, e99]
        simp only [ob_q, bd_q, nI_1]
        rw [if_pos (Int32.not_le.mp hd)]
        simp [bI, ob_q]
      · have hne : oddS c ≠ -1 := by rw [et]; exact nI_m1 (by have := hS.1.2.2.2; omega)
        rw [et, cNearT h ht (show k ≤ m by omega)]
        rw [et] at hne
        simp only [ob_q, bd_q, nI_1]
        by_cases q : neaS c E 0 (nI t) (nI k) ≤ d
        · rw [if_neg (Int32.not_lt.mpr q)]; simp [q, hne, bI, ob_q]
        · rw [if_pos (Int32.not_le.mp q)]; simp [q, bI, ob_q]
    · intro fu a
      show mX7_tenthsWithin_L4 u d _ (fu + 1) a (nI (0 + (m + 1))) = _
      rw [mX7_tenthsWithin_L4.eq_2, he11, Nat.zero_add, if_pos (nI_lt (by omega) (by omega))]
  rw [show mX7_tenthsWithin_L4 u d (fun a => some a) FU 0 0 = _ from key]
  by_cases c0 : oddS c = -1
  · rw [if_pos c0]
    have : ∀ l : List Nat, l.foldl (fun a τ => a + bI (decide (oddS c ≠ -1) && decide (neaS c E 0 (oddS c) (nI τ) ≤ d))) 0 = 0 := by
      intro l
      induction l with
      | nil => rfl
      | cons x l ih => rw [List.foldl_cons]; simp only [c0, ne_eq, not_true_eq_false, decide_false, Bool.false_and, bI_f, Int32.add_zero] at ih ⊢; exact ih
    rw [this]
  · rw [if_neg c0]
    unfold twS
    simp only [ne_eq, c0, not_false_eq_true, decide_true, Bool.true_and]
theorem cDropped {u : HS} {i : Nat} {c : SV} {t' : Nat} {tk : Nat → Int32} {kn : Int32} {m : Nat} {E : Int32 → Int32} {sz nr sl : Int32} (h : VX u i c t' tk kn m E sz nr sl) (hm : endS c = nI m) {t : Nat} (ht : t < sT c) (et : oddS c = nI t) : mX7_isDropped u = some (bI (drpS c tk (nI t) m)) := by
  have hS := h.2.1
  have hm3 := h.1.2.2
  have he9 : gI u 3 (gR u 1) 9 = nI t := by rw [h.1.1, ← et]; exact hS.2.1.2.2.2.2.1
  have he11 : gI u 3 (gR u 1) 11 = nI m := by rw [h.1.1, hS.2.1.2.2.2.2.2.2]; exact hm
  have hc := hS.1.2.1
  unfold mX7_isDropped
  simp only [jp_q]
  refine (loopA0 (L := fun fu x => mX7_isDropped_L2 u (some 0) fu x) (no := some 0) (yes := some 1) (fun τ => isT c (nI t) (nI τ) && decide (((tk 1 >>> (colS c (nI t) (nI τ) &&& 31)) &&& 1) = 1)) (n := m + 1) (o := 0) (FU_lt (by omega)) ?_ ?_).trans ?_
  · intro fu k hk
    show mX7_isDropped_L2 u (some 0) (fu + 1) (nI (0 + k)) = if _ then _ else mX7_isDropped_L2 u (some 0) fu (nI (0 + k + 1))
    rw [mX7_isDropped_L2.eq_2, he11, Nat.zero_add, if_neg (nI_nlt (by omega) (by omega)), he9, h.1.1, cPl_in hS ht (by omega)]
    simp only [ob_q, jp_q, bd_q, nI_1, cel_m1 hc (show k < 300 by omega), cTi_in hS ht (show k < 300 by omega), h.1.2.1, h.2.2.1 1 (by decide)]
    cases isT c (nI t) (nI k) with
    | false => simp
    | true =>
      rw [and1]
      by_cases q : tk 1 >>> (colS c (nI t) (nI k) &&& 31) &&& 1 = 1 <;> simp [q, bI]
  · intro fu
    show mX7_isDropped_L2 u (some 0) (fu + 1) (nI (0 + (m + 1))) = _
    rw [mX7_isDropped_L2.eq_2, he11, Nat.zero_add, if_pos (nI_lt (by omega) (by omega))]
  · unfold drpS
    cases (List.range (m + 1)).any _ <;> rfl
/-- why it was not seen -/
def blS (c : SV) (tk : Nat → Int32) (E : Int32 → Int32) (far : Int32) (e : Nat) : Int32 := if oddS c = -1 then 0 else if drpS c tk (oddS c) e then 5 else if far ≤ miS c E (oddS c) e then 6 else if miS c E (oddS c) e ≤ 2 then 2 else 1
theorem cBlind {u : HS} {i : Nat} {c : SV} {t' : Nat} {tk : Nat → Int32} {kn : Int32} {m : Nat} {E : Int32 → Int32} {sz nr sl : Int32} (h : VX u i c t' tk kn m E sz nr sl) (hm : endS c = nI m) {f : Nat} (hf : 1 ≤ f) (hf2 : f < 100) : mX7_blindness u (nI f) = some (blS c tk E (nI f) m) := by
  have hS := h.2.1
  have hm3 := h.1.2.2
  have he9 : gI u 3 (gR u 1) 9 = oddS c := by rw [h.1.1]; exact hS.2.1.2.2.2.2.1
  unfold mX7_blindness blS
  rw [he9]
  rcases oddS_nI hS.1.2.1 with z | ⟨t, ht, et⟩
  · rw [if_pos z, if_pos z]
  · have hne : oddS c ≠ -1 := by rw [et]; exact nI_m1 (by have := hS.1.2.2.2; omega)
    rw [if_neg hne, if_neg hne, cDropped h hm ht et]
    simp only [ob_q, bI_0, ← et]
    cases drpS c tk (oddS c) m with
    | true => rfl
    | false =>
      have h99 : ¬ (99 : Int32) ≤ nI f - 1 := by
        rw [nI_s1 hf]; exact nI_ge (b := 99) (by omega) (by decide)
      simp only [if_true, Bool.false_eq_true, if_false]
      rw [cWithin h hm _ h99, if_neg hne]
      simp only [ob_q]
      have e1 : (twS c E (oddS c) (nI f - 1) m = 0) = (nI f ≤ miS c E (oddS c) m) := by
        apply propext
        rw [twS_0 hm3 h99, nI_s1 hf, Int32.not_le]
        rw [Int32.lt_iff_toInt_lt, Int32.le_iff_toInt_le, nI_toInt (by omega), nI_toInt (by omega)]
        omega
      simp only [e1]
      by_cases c1 : nI f ≤ miS c E (oddS c) m
      · rw [if_pos c1, if_pos c1]
      · rw [if_neg c1, if_neg c1, cWithin h hm 2 (by decide), if_neg hne]
        simp only [ob_q]
        by_cases c2 : miS c E (oddS c) m ≤ 2
        · rw [if_neg (fun q => (twS_0 hm3 (by decide)).mp q c2), if_pos c2]
        · rw [if_pos ((twS_0 hm3 (by decide)).mpr c2), if_neg c2]
/-! the reference -/
theorem rDropped {u : HS} {l : Nat} {c : SV} {tk : Nat → Int32} {kn : Int32} {E : Int32 → Int32} (h : LX u l c tk kn E) {m : Nat} (hm : endS c = nI m) (hm3 : m < 300) {t : Nat} (ht : t < sT c) : mX9_isDropped u (nI l) (nI t) = some (bI (drpS c tk (nI t) m)) := by
  obtain ⟨s, t', nr, nb, ⟨h0, h1, h2, h3, h4, h5⟩, e0, e1, e2, e3, e4, e5, e6⟩ := h
  unfold mX9_isDropped
  simp only [ck_nI h2 (show 15 < 2 ^ 31 by decide), c8_0, ob_q, bd_q, e0, jp_q]
  refine (loopA0 (L := fun fu x => mX9_isDropped_L12 u (nI s) (nI t) (nI l) (some 0) fu x) (no := some 0) (yes := some 1) (fun τ => isT c (nI t) (nI τ) && decide (((tk 1 >>> (colS c (nI t) (nI τ) &&& 31)) &&& 1) = 1)) (n := m + 1) (o := 0) (FU_lt (by omega)) ?_ ?_).trans ?_
  · intro fu k hk
    show mX9_isDropped_L12 u (nI s) (nI t) (nI l) (some 0) (fu + 1) (nI (0 + k)) = if _ then _ else mX9_isDropped_L12 u (nI s) (nI t) (nI l) (some 0) fu (nI (0 + k + 1))
    rw [mX9_isDropped_L12.eq_2, rEnd h0, hm, Nat.zero_add]
    simp only [ob_q]
    rw [if_neg (nI_nlt (by omega) (by omega))]
    simp only [rThere h0, ob_q, jp_q, bd_q, nI_1, ck_nI h2 (show 15 < 2 ^ 31 by decide), c8_1, e1, ck_nI h3 (show 6 < 2 ^ 31 by decide), c5_1, rCol h0 ht, e3, bI_0]
    cases isT c (nI t) (nI k) with
    | false => simp
    | true => by_cases q : tk 1 >>> (colS c (nI t) (nI k) &&& 31) &&& 1 = 1 <;> simp [q]
  · intro fu
    show mX9_isDropped_L12 u (nI s) (nI t) (nI l) (some 0) (fu + 1) (nI (0 + (m + 1))) = _
    rw [mX9_isDropped_L12.eq_2, rEnd h0, hm, Nat.zero_add]
    simp only [ob_q]
    rw [if_pos (nI_lt (by omega) (by omega))]
  · unfold drpS
    cases (List.range (m + 1)).any _ <;> rfl
theorem rNearest {u : HS} {l : Nat} {c : SV} {tk : Nat → Int32} {kn : Int32} {E : Int32 → Int32} (h : LX u l c tk kn E) (h39 : gI u 9 0 39 = 0) {m : Nat} (hm : endS c = nI m) (hm3 : m < 300) (t : Int32) : mX9_nearest u (nI l) t = some (miS c E t m) := by
  have hh := h
  obtain ⟨s, t', nr, nb, ⟨h0, h1, h2, h3, h4, h5⟩, e0, e1, e2, e3, e4, e5, e6⟩ := h
  unfold mX9_nearest
  simp only [jp_q]
  refine (loopF0 (L := fun fu a y => mX9_nearest_L6 (nI l) u t (fun a => some a) fu a y) (w := fun a => some a) (fun a τ => les a (neaS c E 0 t (nI τ))) (n := m + 1) (o := 0) (FU_lt (by omega)) ?_ ?_ (a := 99) :)
  · intro fu a k hk
    show mX9_nearest_L6 (nI l) u t _ (fu + 1) a (nI (0 + k)) = mX9_nearest_L6 (nI l) u t _ fu _ (nI (0 + k + 1))
    rw [mX9_nearest_L6.eq_2, ck_nI h2 (by decide), Nat.zero_add]
    simp only [ob_q, c8_0, e0, rEnd h0, hm]
    rw [if_neg (nI_nlt (by omega) (by omega))]
    simp only [rNear hh, h39, rLes, ob_q, bd_q, nI_1]
  · intro fu a
    show mX9_nearest_L6 (nI l) u t _ (fu + 1) a (nI (0 + (m + 1))) = _
    rw [mX9_nearest_L6.eq_2, ck_nI h2 (by decide), Nat.zero_add]
    simp only [ob_q, c8_0, e0, rEnd h0, hm]
    rw [if_pos (nI_lt (by omega) (by omega))]
