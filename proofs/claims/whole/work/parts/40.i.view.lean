/-! ===== the view that is open ===== -/
def Fvw (L : List Nat) (u v : HS) : Prop := (∀ r, r ∉ L → r ≠ 9 → gI v r = gI u r) ∧ (∀ k, gI v 9 0 k = gI u 9 0 k) ∧ gL v = gL u ∧ ∀ k, k ≠ 1 → k ≠ 2 → gR v k = gR u k
theorem Fvw.rf {L : List Nat} {u : HS} : Fvw L u u := ⟨fun _ _ _ => rfl, fun _ => rfl, rfl, fun _ _ _ => rfl⟩
theorem Fvw.tr {L : List Nat} {u v w : HS} (h : Fvw L u v) (h2 : Fvw L v w) : Fvw L u w :=
  ⟨fun r a b => (h2.1 r a b).trans (h.1 r a b), fun k => (h2.2.1 k).trans (h.2.1 k), h2.2.2.1.trans h.2.2.1, fun k a b => (h2.2.2.2 k a b).trans (h.2.2.2 k a b)⟩
theorem Fvw.mo {L L' : List Nat} {u v : HS} (h : Fvw L u v) (hL : ∀ r, r ∈ L → r ∈ L') : Fvw L' u v := ⟨fun r a b => h.1 r (fun q => a (hL r q)) b, h.2⟩
theorem Fr.fvw {L L' : List Nat} {u v : HS} (h : Fr L [] u v) (hL : ∀ r, r ∈ L → r ∈ L') : Fvw L' u v := ⟨fun r a b => h.1 r (fun q => a (hL r q)) b, fun k => h.2.1 k (by simp), h.2.2.1, fun k _ _ => by rw [h.2.2.2]⟩
theorem Fvw.sI {L : List Nat} {u v : HS} {r i k : Nat} {x : Int32} (h : Fvw L u v) (hr : r ∈ L) (h9 : r ≠ 9) : Fvw L u (wI v r i k x) :=
  ⟨fun r' a b => (gI_r (fun q => a (by rw [q]; exact hr))).trans (h.1 r' a b), fun k' => (by rw [gI_r (fun q => h9 q.symm)]; exact h.2.1 k'), h.2.2.1, h.2.2.2⟩
theorem Fvw.m1 {L : List Nat} {u v : HS} (h : Fvw L u v) {r : Nat} (hr : r ∉ L) (h9 : r ≠ 9) : gI v r = gI u r := h.1 r hr h9
theorem SO.fv {u v : HS} {i : Nat} {c : SV} {L : List Nat} (h : SO u i c) (hF : Fvw L u v) (hL : 3 ∉ L ∧ 38 ∉ L ∧ 40 ∉ L ∧ 41 ∉ L ∧ 42 ∉ L ∧ 43 ∉ L) : SO v i c := by
  obtain ⟨l3, l38, l40, l41, l42, l43⟩ := hL
  unfold SO
  rw [hF.m1 l3 (by decide), hF.m1 l38 (by decide), hF.m1 l40 (by decide), hF.m1 l41 (by decide), hF.m1 l42 (by decide), hF.m1 l43 (by decide), hF.2.2.2 (3 + i) (by omega) (by omega), hF.2.2.2 (10 + i) (by omega) (by omega)]
  exact h
def eR (x : Int32) : Prop := x = -1 ∨ ∃ X Y, X < 40 ∧ Y < 30 ∧ x = nI (X * 100 + Y)
theorem thrE_rng {c : SV} (hc : SWF c) (x : Int32) {τ : Nat} (hτ : τ < 300) : ∃ X Y, X < 40 ∧ Y < 30 ∧ thrE c x (nI τ) = nI (X * 100 + Y) := by
  unfold thrE
  cases hb : balO c x (nI τ) with
  | none => exact ⟨20, 15, by decide, by decide, rfl⟩
  | some q =>
    simp only [Option.elim]
    cases h : isT c (sC c q 2) (nI τ) with
    | false => exact ⟨20, 15, by decide, by decide, rfl⟩
    | true =>
      obtain ⟨X, Y, hX, hY, e1, e2⟩ := plc_in hc hτ h
      refine ⟨X, Y, hX, hY, ?_⟩
      rw [if_pos rfl, e1, e2, Int32.mul_comm, show (nI X * 100 : Int32) = nI (X * 100) from pk_mul X 100, nI_add]
theorem eyS_rng {ey bl : Nat → Nat → Int32} {nr nb l : Nat} {c : SV} (hc : SWF c) (hv : VE nr ey) (x : Int32) {τ : Nat} (hτ : τ < 300) : eR (eyS ey nr bl nb (nI l) c x (nI τ)) := by
  unfold eyS
  cases shutS bl nb (nI l) (nI τ) with
  | true => exact Or.inl rfl
  | false =>
    refine Or.inr ?_
    unfold lookS
    cases h : eyeO ey nr (nI l) (nI τ) with
    | none => exact thrE_rng hc x hτ
    | some q => exact hv.pl (show q < nr from (laO_lt (p := fun k => decide (ey k 0 = nI l)) (tm := fun k => ey k 1) h).1)
def VX (u : HS) (i : Nat) (c : SV) (t : Nat) (tk : Nat → Int32) (kn : Int32) (m : Nat) (E : Int32 → Int32) (sz nr sl : Int32) : Prop :=
  (gR u 1 = i ∧ gR u 2 = t ∧ m < 300) ∧ SO u i c ∧ (∀ j, j < 5 → gI u 6 t j = tk j) ∧ (gI u 7 0 2 = kn ∧ (kn = 0 ∨ kn = 1) ∧ gI u 7 0 7 = sz ∧ gI u 7 0 8 = nr ∧ gI u 7 0 9 = sl) ∧ ∀ τ, τ ≤ m → gI u 46 0 τ = E (nI τ) ∧ eR (E (nI τ))
theorem cBend (u : HS) (x y : Int32) : ∃ u', mX7_bend u x y = some u' ∧ Fr [7] [] u u' ∧ gI u' 7 0 2 = gI u 7 0 2 ∧ gI u' 7 0 7 = (if x = 0 then y else -1) ∧ gI u' 7 0 8 = (if x = 1 then y else 0) ∧ gI u' 7 0 9 = (if x = 2 ∧ ¬ y ≤ 0 then y else 1) := by
  unfold mX7_bend
  rw [show (if x = 0 then some y else some (-1) : Option Int32) = some (if x = 0 then y else -1) by split <;> rfl, show (if x = 1 then some y else some 0 : Option Int32) = some (if x = 1 then y else 0) by split <;> rfl]
  simp only [ob_q, bd_q, jp_q]
  rw [show (if x = 2 then (if y ≤ 0 then some 1 else some y) else some 1 : Option Int32) = some (if x = 2 ∧ ¬ y ≤ 0 then y else 1) by by_cases h : x = 2 <;> by_cases h2 : y ≤ 0 <;> simp [h, h2]]
  simp only [ob_q]
  refine ⟨_, rfl, ((Fr.rf.sI (by decide) (by decide)).sI (by decide) (by decide)).sI (by decide) (by decide), ?_, ?_, ?_, ?_⟩ <;> simp [gI_wI]
theorem cOpen {u : HS} {i t : Nat} {c : SV} {tk : Nat → Int32} {kn : Int32} {m : Nat} (hm : m < 300) (hS : SO u i c) (ht : ∀ j, j < 5 → gI u 6 t j = tk j) (hk : kn = 0 ∨ kn = 1) : ∃ u', mX7_open u i t kn (nI m) = some u' ∧ Fvw [7, 46, 47] u u' ∧ VX u' i c t tk kn m (thrE c (tk 2)) (-1) 0 1 := by
  unfold mX7_open
  simp only [bd_q, zb_ok hk, ob_q]
  obtain ⟨u1, e1, hF1, a2, a7, a8, a9⟩ := cBend (wI (wR (wR u 1 i) 2 t) 7 0 2 kn) (-1) 0
  rw [e1]
  simp only [ob_q]
  have hF0 : Fvw [7, 46, 47] u (wI (wR (wR u 1 i) 2 t) 7 0 2 kn) := by
    refine Fvw.sI ⟨fun _ _ _ => rfl, fun _ => rfl, rfl, fun k h1 h2 => ?_⟩ (by decide) (by decide)
    rw [gR_wR, if_neg h2, gR_wR, if_neg h1]
  have hF01 : Fvw [7, 46, 47] u u1 := hF0.tr (hF1.fvw (by decide))
  have hr1 : gR u1 1 = i := by rw [hF1.2.2.2]; rfl
  have hr2 : gR u1 2 = t := by rw [hF1.2.2.2]; rfl
  have g6 : gI u1 6 = gI u 6 := hF01.m1 (by decide) (by decide)
  obtain ⟨u2, e2, hF2, h2⟩ := cFollow (x := tk 2) hm (hS.fv hF01 (by decide)) hr1 hr2 (by rw [g6]; exact ht 2 (by decide))
  rw [e2]
  have hF02 : Fvw [7, 46, 47] u u2 := hF01.tr (hF2.fvw (by decide))
  have g7 : gI u2 7 = gI u1 7 := hF2.m1 (by decide) (by decide)
  refine ⟨u2, rfl, hF02, ⟨by rw [hF2.2.2.2, hr1], by rw [hF2.2.2.2, hr2], hm⟩, hS.fv hF02 (by decide), ?_, ⟨?_, hk, ?_, ?_, ?_⟩, ?_⟩
  · rw [hF02.m1 (show 6 ∉ [7, 46, 47] by decide) (by decide)]; exact ht
  · rw [g7, a2, gI_eq]
  · rw [g7, a7]; rfl
  · rw [g7, a8]; rfl
  · rw [g7, a9]; rfl
  · intro τ hτ
    exact ⟨h2 τ hτ, Or.inr (thrE_rng hS.1.2.1 _ (by omega))⟩
/-- looking as a looker -/
theorem cLook {u : HS} {l m n nr nb s t : Nat} {lk ey bl : Nat → Nat → Int32} {c : SV} {tk : Nat → Int32} (hm : m < 300) (hL : HL u 0 n lk) (hl : l < n) (hE : HE u 0 nr ey) (hv : VE nr ey) (hB : HB u 0 nb bl) (hvb : VB nb bl) (hs : s < 6) (hs2 : lk l 0 = nI s) (ht : t < 6) (ht2 : lk l 1 = nI t) (hk : lk l 2 = 0 ∨ lk l 2 = 1) (hS : SO u s c) (htk : ∀ j, j < 5 → gI u 6 t j = tk j) : ∃ u', mX8_lookAs u (nI l) (nI m) = some u' ∧ Fvw [4, 7, 46, 47] u u' ∧ VX u' s c t tk (lk l 2) m (eyS ey nr bl nb (nI l) c (tk 2)) (-1) 0 1 ∧ gI u' 4 0 3 = -1 ∧ gI u' 4 0 5 = 0 := by
  obtain ⟨h1, h2, h3⟩ := hL
  obtain ⟨e0, e1, e2, -⟩ := h3 l hl
  unfold mX8_lookAs mX8_sceneFor
  have k14 : ck 14 (nI l) = some l := ck_nI (by omega) (by decide)
  have kk : mX0_isKnowing u 0 (nI l) = some (lk l 2) := by
    unfold mX0_isKnowing
    rw [e2]
    rcases hk with h | h <;> rw [h] <;> rfl
  simp only [k14, ob_q, e0, hs2, ck_nI hs (show 6 < 2 ^ 31 by decide), e1, ht2, ck_nI ht (show 6 < 2 ^ 31 by decide), kk]
  obtain ⟨u1, f1, hF1, hV⟩ := cOpen (kn := lk l 2) hm hS htk hk
  rw [f1]
  simp only [ob_q]
  have hE1 : HE u1 0 nr ey := by unfold HE; rw [hF1.m1 (show 0 ∉ [7, 46, 47] by decide) (by decide), hF1.m1 (show 25 ∉ [7, 46, 47] by decide) (by decide), hF1.m1 (show 26 ∉ [7, 46, 47] by decide) (by decide), hF1.m1 (show 27 ∉ [7, 46, 47] by decide) (by decide)]; exact hE
  have hB1 : HB u1 0 nb bl := by unfold HB; rw [hF1.m1 (show 0 ∉ [7, 46, 47] by decide) (by decide), hF1.m1 (show 28 ∉ [7, 46, 47] by decide) (by decide), hF1.m1 (show 29 ∉ [7, 46, 47] by decide) (by decide), hF1.m1 (show 30 ∉ [7, 46, 47] by decide) (by decide)]; exact hB
  obtain ⟨u2, f2, hF2, h2'⟩ := cHeed (u := u1) (l := l) hm hE1 hv hB1 hvb
  rw [f2]
  simp only [ob_q]
  unfold mX4_plain
  simp only [bd_q, ob_q]
  have hF02 : Fvw [4, 7, 46, 47] u u2 := (hF1.mo (by decide)).tr (hF2.fvw (by decide))
  have hF : Fvw [4, 7, 46, 47] u (wI (wI u2 4 0 3 (-1)) 4 0 5 0) := (hF02.sI (by decide) (by decide)).sI (by decide) (by decide)
  refine ⟨_, rfl, hF, ⟨⟨?_, ?_, hm⟩, hS.fv hF (by decide), ?_, ⟨?_, hk, ?_, ?_, ?_⟩, ?_⟩, ?_, ?_⟩
  · show gR u2 1 = s; rw [hF2.2.2.2]; exact hV.1.1
  · show gR u2 2 = t; rw [hF2.2.2.2]; exact hV.1.2.1
  · rw [hF.m1 (show 6 ∉ [4, 7, 46, 47] by decide) (by decide)]; exact htk
  · rw [gI_r (by decide), gI_r (by decide), hF2.m1 (show 7 ∉ [46, 47] by decide) (by decide)]; exact hV.2.2.2.1.1
  · rw [gI_r (by decide), gI_r (by decide), hF2.m1 (show 7 ∉ [46, 47] by decide) (by decide)]; exact hV.2.2.2.1.2.2.1
  · rw [gI_r (by decide), gI_r (by decide), hF2.m1 (show 7 ∉ [46, 47] by decide) (by decide)]; exact hV.2.2.2.1.2.2.2.1
  · rw [gI_r (by decide), gI_r (by decide), hF2.m1 (show 7 ∉ [46, 47] by decide) (by decide)]; exact hV.2.2.2.1.2.2.2.2
  · intro τ hτ
    refine ⟨?_, eyS_rng hS.1.2.1 hv _ (by omega)⟩
    rw [gI_r (by decide), gI_r (by decide), h2' τ hτ, (hV.2.2.2.2 τ hτ).1]
    rfl
  · rw [gI_k (by decide), gI_eq]
  · rw [gI_eq]
theorem mor0 {a b : Int32} (hb : 0 ≤ b) : mor (mor 0 a) b = mor a b := by
  unfold mor
  by_cases h : 0 ≤ a
  · rw [if_pos h]
  · rw [if_neg h, if_pos hb, if_pos (Int32.le_of_lt (Int32.lt_of_lt_of_le (Int32.not_le.mp h) hb))]
theorem amt_pos {a b : Nat} (ha : a < 1000) (hb : b < 1000) : 0 ≤ amt (nI a - nI b) := by
  rw [amt_sub ha hb]; exact nI_pos' (by omega)
/-- how far a thing is from the eyes -/
theorem cFarE {c : SV} (hc : SWF c) {t τ : Nat} (hτ : τ < 300) {E : Int32 → Int32} (hE : eR (E (nI τ))) (nr : Int32) (h1 : isT c (nI t) (nI τ) = true) (h2 : E (nI τ) ≠ -1) : mX7_farther (cel c t τ) (E (nI τ)) nr = some (neaS c E nr (nI t) (nI τ)) := by
  obtain ⟨X, Y, hX, hY, e1, e2, e3⟩ := cel_nI hc hτ h1
  rcases hE with h | ⟨X', Y', hX', hY', e4⟩
  · exact absurd h h2
  · have d1 := d100 (X := X) (Y := Y) (by omega) (by omega)
    have d2 := d100 (X := X') (Y := Y') (by omega) (by omega)
    unfold neaS
    rw [cFar, if_neg (by rw [h1]; rintro (q | q); exact h2 q; cases q), e1, e2, e3, e4, d1.2, d2.2, d1.1, d2.1, mor0 (amt_pos (by omega) (by omega))]
theorem SO.w48 {u : HS} {i : Nat} {c : SV} {r i' k : Nat} {x : Int32} (h : SO u i c) (hr : r = 48 ∨ r = 7) : SO (wI u r i' k x) i c := by
  have e : ∀ q, q ≠ 48 → q ≠ 7 → gI (wI u r i' k x) q = gI u q := fun q a b => gI_r (by omega)
  unfold SO
  rw [e 3 (by decide) (by decide), e 38 (by decide) (by decide), e 40 (by decide) (by decide), e 41 (by decide) (by decide), e 42 (by decide) (by decide), e 43 (by decide) (by decide), gR_wI]
  exact h
theorem cRegard {u : HS} {i : Nat} {c : SV} {t' : Nat} {tk : Nat → Int32} {kn : Int32} {m : Nat} {E : Int32 → Int32} {sz nr sl sz' : Int32} (h : VX u i c t' tk kn m E sz nr sl) (hsl : sl ≠ 0) (hsz : (sz = -1 ∧ sz' = 0) ∨ (sz ≠ -1 ∧ sz = sz' ∧ ¬ sz' ≤ 0)) {t τ : Nat} (ht : t < sT c) (hτ : τ ≤ m) : ∃ u', mX7_regard u (nI t) (nI τ) = some u' ∧ Fvw [7, 48] u u' ∧ gR u' = gR u ∧ (∀ k, k ≠ 6 → gI u' 7 0 k = gI u 7 0 k) ∧ gI u' 7 0 6 = bI (isT c (nI t) (nI τ) && decide (E (nI τ) ≠ -1)) ∧ ∀ w, w < 11 → gI u' 48 0 w = nmS c tk kn E sz' nr sl (nI t) (nI τ) w := by
  obtain ⟨⟨h1, h2, hm⟩, hS, htk, ⟨hk1, hk2, hsz1, hnr, hsl1⟩, hE⟩ := h
  obtain ⟨eE, rE⟩ := hE τ hτ
  have hc := hS.1.2.1
  have hτ3 : τ < 300 := by omega
  have hcol := cTi_in hS ht hτ3
  have hpl := cPl_in hS ht hτ3
  have hk300 : ck 300 (nI τ) = some τ := ck_nI hτ3 (by decide)
  have k8 : ck 8 (nI t) = some t := ck_nI (by have := hS.1.2.2.2; omega) (by decide)
  -- the tenth ahead
  obtain ⟨pb, epb, hpb⟩ : ∃ pb, mX3_placeAt u i (nI t) (nI τ - 1) = some pb ∧ (if cel c t τ = -1 then some 0 else if pb = -1 then some 0 else (mX7_farther (cel c t τ) pb 0).bind fun x => some x : Option Int32) = some (pacS c (nI t) (nI τ)) := by
    have hp := cPace hS ht hτ3
    unfold mX3_paceAt at hp
    rw [hpl] at hp
    simp only [ob_q] at hp
    cases hb : mX3_placeAt u i (nI t) (nI τ - 1) with
    | none => rw [hb, on_q] at hp; cases hp
    | some pb => rw [hb] at hp; simp only [ob_q] at hp; exact ⟨pb, rfl, hp⟩
  have hpb2 : (if cel c t τ = -1 then some 0 else if pb = -1 then some 0 else (mX7_farther (cel c t τ) pb 0).bind fun x => some (x / sl) : Option Int32) = some (pacS c (nI t) (nI τ) / sl) := by
    by_cases q1 : cel c t τ = -1
    · rw [if_pos q1] at hpb ⊢; rw [← Option.some.inj hpb, Int32.zero_div]
    · rw [if_neg q1] at hpb ⊢
      by_cases q2 : pb = -1
      · rw [if_pos q2] at hpb ⊢; rw [← Option.some.inj hpb, Int32.zero_div]
      · rw [if_neg q2] at hpb ⊢
        cases hf : mX7_farther (cel c t τ) pb 0 with
        | none => rw [hf, on_q] at hpb; cases hpb
        | some z => rw [hf] at hpb; simp only [ob_q] at hpb ⊢; rw [← Option.some.inj hpb]
  unfold mX7_regard
  simp only [h1, h2, hpl, epb, hcol, hk300, ob_q, bd_q, jp_q, htk 0 (by decide), htk 3 (by decide), cCrowd hS tk hτ3, eE, cel_m1 hc hτ3]
  have hh : (if isT c (nI t) (nI τ) = false then some 0 else if E (nI τ) = -1 then some 0 else some 1 : Option Int32) = some (bI (isT c (nI t) (nI τ) && decide (E (nI τ) ≠ -1))) := by
    cases isT c (nI t) (nI τ) <;> by_cases q : E (nI τ) = -1 <;> simp [q, bI]
  rw [hh]
  simp only [ob_q, zb_bI, c11_0, c11_1, c11_2, c11_3, c11_4, c11_5, c11_6, c11_7, c11_8, c11_9, c11_10, gR_wI, h1, h2, gI_r (show (6 : Nat) ≠ 48 by decide), gI_r (show (6 : Nat) ≠ 7 by decide), htk 0 (by decide), htk 1 (by decide), htk 4 (by decide), gI_r (show (7 : Nat) ≠ 48 by decide), gI_eq, gI_k (show 8 ≠ 6 by decide), gI_k (show 7 ≠ 6 by decide), gI_k (show 9 ≠ 6 by decide), gI_k (show 2 ≠ 6 by decide), hnr, hsz1, hsl1, hk1, gI_r (show (38 : Nat) ≠ 48 by decide), gI_r (show (38 : Nat) ≠ 7 by decide), gI_r (show (3 : Nat) ≠ 48 by decide), gI_r (show (3 : Nat) ≠ 7 by decide), k8, nz_ok hsl]
  have hnear : (if bI (isT c (nI t) (nI τ) && decide (E (nI τ) ≠ -1)) = 0 then some 99 else (mX7_farther (cel c t τ) (E (nI τ)) nr).bind fun x180 => some x180 : Option Int32) = some (neaS c E nr (nI t) (nI τ)) := by
    cases q1 : isT c (nI t) (nI τ) with
    | false => unfold neaS; simp [q1, bI]
    | true =>
      by_cases q2 : E (nI τ) = -1
      · unfold neaS; simp [q2, bI]
      · rw [cFarE hc hτ3 rE nr q1 q2]; simp [q2, bI, ob_q]
  have hsize : (if sz = -1 then some (gI u 38 i t) else some sz : Option Int32) = some (if sz' ≤ 0 then sH c t 1 else sz') := by
    rw [hS.2.2.2.1 t ht]
    rcases hsz with ⟨q1, q2⟩ | ⟨q1, q2, q3⟩
    · rw [if_pos q1, q2]; rfl
    · rw [if_neg q1, if_neg q3, q2]
  have hful : ∀ z : Int32, (if z ≤ 0 then some 0 else some z : Option Int32) = some (mor 0 z) := by
    intro z
    unfold mor
    by_cases q : z ≤ 0
    · rw [if_pos q]
      by_cases q2 : 0 ≤ z
      · rw [if_pos q2, Int32.le_antisymm q q2]
      · rw [if_neg q2]
    · rw [if_neg q, if_pos (Int32.le_of_lt (Int32.not_le.mp q))]
  have hodd : (if nI t = gI u 3 i 9 then some 1 else some 0 : Option Int32) = some (bI (decide (oddS c = nI t))) := by
    rw [hS.2.1.2.2.2.2.1]
    by_cases q : oddS c = nI t
    · simp [q, bI]
    · simp [q, Ne.symm q, bI]
  have hkn : (if kn = 0 then some 0 else some 1 : Option Int32) = some kn := by rcases hk2 with q | q <;> rw [q] <;> rfl
  simp only [hnear, hsize, ob_q, hful, hodd, hkn, cel_m1 hc hτ3] at hpb2 ⊢
  rw [hpb2]
  simp only [ob_q, cTurn ((((((((((hS.w48 (Or.inr rfl)).w48 (Or.inl rfl)).w48 (Or.inl rfl)).w48 (Or.inl rfl)).w48 (Or.inl rfl)).w48 (Or.inl rfl)).w48 (Or.inl rfl)).w48 (Or.inl rfl)).w48 (Or.inl rfl))) (nI t) hτ3, bI_n]
  refine ⟨_, rfl, ?_, rfl, ?_, ?_, ?_⟩
  · have m : (48 : Nat) ∈ [7, 48] := by decide
    exact (((((((((((Fvw.rf.sI (show 7 ∈ [7, 48] by decide) (by decide)).sI m (by decide)).sI m (by decide)).sI m (by decide)).sI m (by decide)).sI m (by decide)).sI m (by decide)).sI m (by decide)).sI m (by decide)).sI m (by decide)).sI m (by decide)).sI m (by decide)
  · intro k hk
    simp only [gI_r (show (7 : Nat) ≠ 48 by decide)]
    rw [gI_k hk]
  · simp only [gI_r (show (7 : Nat) ≠ 48 by decide)]
    rw [gI_eq]
  · intro w hw
    match w, hw with
    | 0, _ => simp [gI_wI, nmS]
    | 1, _ => simp [gI_wI, nmS]
    | 2, _ => simp [gI_wI, nmS]
    | 3, _ => simp [gI_wI, nmS, nI_clamp (show t < 2 ^ 31 by have := hS.1.2.2.2; omega)]
    | 4, _ => simp [gI_wI, nmS]
    | 5, _ => simp [gI_wI, nmS, fulS]
    | 6, _ => simp [gI_wI, nmS]
    | 7, _ => simp [gI_wI, nmS]
    | 8, _ => simp [gI_wI, nmS]
    | 9, _ => simp [gI_wI, nmS]
    | 10, _ => simp [gI_wI, nmS]
    | w + 11, q => exact absurd q (by omega)
