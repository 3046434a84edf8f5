/-- is the odd one seen, bent so -/
def leP (p : IP) (u : HS) (q l what v : Nat) : Bool := (fiS (pW p q) (fun τ => nmS (pC p (loS u l)) (pT p (loT u l)) (lkF u l 2) (loE p u l) (if what = 0 then nI v else 0) (if what = 1 then nI v else 0) (if what = 2 then nI v else 1) (oddS (pC p (loS u l))) τ) (hrS (pC p (loS u l)) (loE p u l) (oddS (pC p (loS u l)))) (endS (pC p (loS u l))).toNatClampNeg).isSome
/-- the first number from lo to hi that fits, or none -/
def fst1 (P : Nat → Bool) (lo hi : Nat) (r : Int32) : Prop := (∃ v, lo ≤ v ∧ v ≤ hi ∧ P v = true ∧ (∀ j, lo ≤ j → j < v → P j = false) ∧ r = nI v) ∨ ((∀ j, lo ≤ j → j ≤ hi → P j = false) ∧ r = -1)
theorem fst1.eq {P : Nat → Bool} {lo hi : Nat} {r r' : Int32} (h : fst1 P lo hi r) (h' : fst1 P lo hi r') : r = r' := by
  rcases h with ⟨v, a1, a2, a3, a4, a5⟩ | ⟨a1, a2⟩
  · rcases h' with ⟨v', b1, b2, b3, b4, b5⟩ | ⟨b1, b2⟩
    · have : v = v' := by
        rcases Nat.lt_trichotomy v v' with z | z | z
        · rw [b4 v a1 z] at a3; cases a3
        · exact z
        · rw [a4 v' b1 z] at b3; cases b3
      rw [a5, b5, this]
    · rw [b1 v a1 a2] at a3; cases a3
  · rcases h' with ⟨v', b1, b2, b3, b4, b5⟩ | ⟨b1, b2⟩
    · rw [a1 v' b1 b2] at b3; cases b3
    · rw [a2, b2]
theorem VX.bend {u v : HS} {i : Nat} {c : SV} {t : Nat} {tk : Nat → Int32} {kn : Int32} {m : Nat} {E : Int32 → Int32} {sz nr sl : Int32} (h : VX u i c t tk kn m E sz nr sl) (hF : Fr [7] [] u v) (h2 : gI v 7 0 2 = gI u 7 0 2) : VX v i c t tk kn m E (gI v 7 0 7) (gI v 7 0 8) (gI v 7 0 9) := by
  obtain ⟨h1, h3, h4, ⟨a1, a2, -⟩, h5⟩ := h
  refine ⟨by rw [hF.2.2.2]; exact h1, h3.fr hF (by decide), by rw [hF.m1 (show 6 ∉ [7] by decide) (by decide)]; exact h4, ⟨h2.trans a1, a2, rfl, rfl, rfl⟩, by rw [hF.m1 (show 46 ∉ [7] by decide) (by decide)]; exact h5⟩
theorem IV.leastC {p : IP} {u : HS} (h : IVc p u) {l q what lo hi : Nat} (hl : l < pN p) (hq : q < pNl p) (hw3 : what < 3) (hlo : what ≠ 1 → 1 ≤ lo) (hhi : hi ≤ 20) (hlh : lo ≤ hi + 1) {u1 : HS} {e t : Nat} (he3 : e < 300) (he : endS (pC p (loS u l)) = nI e) (ht : t < sT (pC p (loS u l))) (et : oddS (pC p (loS u l)) = nI t) (hV : VX u1 (loS u l) (pC p (loS u l)) (loT u l) (pT p (loT u l)) (lkF u l 2) e (loE p u l) (-1) 0 1) (hLC : LC u1 q (pW p q)) (h43 : gI u1 4 0 3 = -1) (h45 : gI u1 4 0 5 = 0) : ∃ r u', mX8_least_L81 (nI hi) (nI what) (nI q) (loS u l) (fun v => some (0, -1, v)) FU (nI lo) u1 = some (0, r, u') ∧ fst1 (leP p u q l what) lo hi r ∧ QF u1 u' ∧ gI u' 54 = gI u1 54 := by
  obtain ⟨lr, lc, lw⟩ := h.law hq
  have q4 := h.1.1.2.2.1
  have hem : (endS (pC p (loS u l))).toNatClampNeg = e := by rw [he, nI_clamp (by omega)]
  refine loopR (fun fu (a : HS) y => mX8_least_L81 (nI hi) (nI what) (nI q) (loS u l) (fun v => some (0, -1, v)) fu y a) (hi + 1) lo (fun k a => (∃ sz nr sl, VX a (loS u l) (pC p (loS u l)) (loT u l) (pT p (loT u l)) (lkF u l 2) e (loE p u l) sz nr sl) ∧ LC a q (pW p q) ∧ gI a 4 0 3 = -1 ∧ gI a 4 0 5 = 0 ∧ QF u1 a ∧ gI a 54 = gI u1 54 ∧ ∀ j, lo ≤ j → j < k → leP p u q l what j = false) (fun o => ∃ r u', o = some (0, r, u') ∧ fst1 (leP p u q l what) lo hi r ∧ QF u1 u' ∧ gI u' 54 = gI u1 54) ?_ ?_ (hi + 1 - lo) lo u1 FU (Nat.le_refl _) (by omega) (FU_lt (by omega)) ⟨⟨_, _, _, hV⟩, hLC, h43, h45, QF.rf, rfl, fun j a b => absurd b (by omega)⟩
  · intro fu a k hlk hk ⟨⟨sz, nr, sl, hVa⟩, hLa, g3, g5, hQ, g54, hno⟩ ih
    show ∃ r u', mX8_least_L81 (nI hi) (nI what) (nI q) (loS u l) (fun v => some (0, -1, v)) (fu + 1) (nI k) a = _ ∧ _
    obtain ⟨a1, e1, f1, b2, b7, b8, b9⟩ := cBend a (nI what) (nI k)
    have hV1 := hVa.bend f1 b2
    have q1 : QF a a1 := (f1.fvw (L' := [4, 7, 44, 46, 47, 48, 54]) (by decide)).qf (fun r hr => hr)
    have t9 : gI a1 3 (loS u l) 9 = nI t := by rw [hV1.2.1.2.1.2.2.2.2.1, et]
    rw [mX8_least_L81.eq_2, if_neg (nI_nlt (by omega) (by omega)), e1]
    simp only [ob_q]
    rw [ck_nI (show q < 4 by omega) (by decide)]
    simp only [ob_q, t9]
    have hk0 : what ≠ 1 → ¬ nI k ≤ 0 := fun z => nI_nle (by have := hlo z; omega) (by omega)
    have hsz : (gI a1 7 0 7 = -1 ∧ (if what = 0 then nI k else 0) = (0 : Int32)) ∨ (gI a1 7 0 7 ≠ -1 ∧ gI a1 7 0 7 = (if what = 0 then nI k else 0) ∧ ¬ (if what = 0 then nI k else 0) ≤ (0 : Int32)) := by
      rw [b7]
      by_cases z : what = 0
      · subst z
        rw [if_pos (show nI 0 = 0 from rfl), if_pos rfl]
        exact Or.inr ⟨nI_m1 (by omega), rfl, hk0 (by decide)⟩
      · rw [if_neg (show ¬ nI what = 0 from fun y => z ((nI_eq (b := 0) (by omega) (by decide)).mp y)), if_neg z]
        exact Or.inl ⟨rfl, rfl⟩
    have hnr : gI a1 7 0 8 = if what = 1 then nI k else 0 := by
      rw [b8]
      by_cases z : what = 1
      · subst z; rw [if_pos (show nI 1 = 1 from rfl), if_pos rfl]
      · rw [if_neg (show ¬ nI what = 1 from fun y => z ((nI_eq (b := 1) (by omega) (by decide)).mp y)), if_neg z]
    have hsl : gI a1 7 0 9 = if what = 2 then nI k else 1 := by
      rw [b9]
      by_cases z : what = 2
      · subst z; rw [if_pos ⟨show nI 2 = 2 from rfl, hk0 (by decide)⟩, if_pos rfl]
      · rw [if_neg (show ¬ (nI what = 2 ∧ ¬ nI k ≤ 0) from fun y => z ((nI_eq (b := 2) (by omega) (by decide)).mp y.1)), if_neg z]
    have hsl0 : gI a1 7 0 9 ≠ 0 := by
      rw [hsl]
      by_cases z : what = 2
      · rw [if_pos z]; exact nI_ne0 (by have := hlo (by omega); omega) (by omega)
      · rw [if_neg z]; decide
    have g4 : gI a1 4 = gI a 4 := f1.m1 (by decide) (by decide)
    have hL1 : LC a1 q (pW p q) := hLa.fr f1 (by decide)
    obtain ⟨a2, e2, f2, -⟩ := cFirst (noise := 0) (chg := false) hV1 hL1 lw hsl0 hsz ht (Or.inl ⟨by rw [g4]; exact g3, rfl⟩) (by rw [g4]; exact g5) (fun z => by cases z) he
    rw [fsS_seed (Int32.le_refl 0) (e + 1) 0 0 (gI a1 4 0 4) 0, hnr, hsl] at e2
    rw [e2]
    simp only [ob_q, bd_q, nI_1]
    have hP : leP p u q l what k = (fsS (pW p q) (fun τ => nmS (pC p (loS u l)) (pT p (loT u l)) (lkF u l 2) (loE p u l) (if what = 0 then nI k else 0) (if what = 1 then nI k else 0) (if what = 2 then nI k else 1) (nI t) τ) (hrS (pC p (loS u l)) (loE p u l) (nI t)) false 0 (e + 1) 0 (0, 0)).1.isSome := by
      unfold leP fiS; rw [hem, et]
    have hQ2 : QF u1 a2 := (hQ.tr q1).tr f2.qf
    have h542 : gI a2 54 = gI u1 54 := (f2.g54.trans (f1.m1 (by decide) (by decide))).trans g54
    cases hf : (fsS (pW p q) (fun τ => nmS (pC p (loS u l)) (pT p (loT u l)) (lkF u l 2) (loE p u l) (if what = 0 then nI k else 0) (if what = 1 then nI k else 0) (if what = 2 then nI k else 1) (nI t) τ) (hrS (pC p (loS u l)) (loE p u l) (nI t)) false 0 (e + 1) 0 (0, 0)).1 with
    | none =>
      rw [hf] at hP
      rw [if_pos (show (none : Option Nat).elim (-1) nI = -1 from rfl)]
      refine ih a2 ⟨⟨_, _, _, hV1.fs f2⟩, hL1.fs f2, by rw [f2.2.2.2 3 (by decide) (by decide), g4]; exact g3, by rw [f2.2.2.2 5 (by decide) (by decide), g4]; exact g5, hQ2, h542, fun j a b => ?_⟩
      by_cases c : j = k
      · rw [c, hP]; rfl
      · exact hno j a (by omega)
    | some f =>
      rw [hf] at hP
      have hfm := fiS_lt (show fiS (pW p q) (fun τ => nmS (pC p (loS u l)) (pT p (loT u l)) (lkF u l 2) (loE p u l) (if what = 0 then nI k else 0) (if what = 1 then nI k else 0) (if what = 2 then nI k else 1) (nI t) τ) (hrS (pC p (loS u l)) (loE p u l) (nI t)) e = some f from hf)
      rw [if_neg (show ¬ (some f).elim (-1) nI = -1 from nI_m1 (by omega))]
      exact ⟨nI k, a2, rfl, Or.inl ⟨k, hlk, by omega, hP, fun j a b => hno j a b, rfl⟩, hQ2, h542⟩
  · intro fu a ⟨_, _, _, _, hQ, g54, hno⟩
    show ∃ r u', mX8_least_L81 (nI hi) (nI what) (nI q) (loS u l) (fun v => some (0, -1, v)) (fu + 1) (nI (hi + 1)) a = _ ∧ _
    rw [mX8_least_L81.eq_2, if_pos (nI_lt (by omega) (by omega))]
    exact ⟨-1, a, rfl, Or.inr ⟨fun j a b => hno j a (by omega), rfl⟩, hQ, g54⟩
theorem IV.leastR {p : IP} {u : HS} (h : IVc p u) {l q what lo hi : Nat} (hl : l < pN p) (hq : q < pNl p) (hw3 : what < 3) (hlo : what ≠ 1 → 1 ≤ lo) (hlh : lo ≤ hi + 1) (hhi : hi = if what = 1 then 20 else 9) {e t : Nat} (he3 : e < 300) (he : endS (pC p (loS u l)) = nI e) (ht : t < sT (pC p (loS u l))) (et : oddS (pC p (loS u l)) = nI t) : ∃ r u', mX9_least_L87 (nI t) (nI what) (nI q) (nI l) (fun x v => some (x, v)) FU (-1) (nI lo) u = some (r, u') ∧ fst1 (leP p u q l what) lo hi r ∧ Fr [78, 79] [38, 39, 40, 41, 42] u u' := by
  obtain ⟨lr, lc, lw⟩ := h.law hq
  have hy := h.ly hl
  obtain ⟨l14, ls, lt, -⟩ := h.lk hl
  have hc := (h.2.2.1 _ ls).2.1.2.1
  have hT8 := (h.2.2.1 _ ls).2.1.2.2.2
  have hem : (endS (pC p (loS u l))).toNatClampNeg = e := by rw [he, nI_clamp (by omega)]
  have hhi2 : hi ≤ 20 := by rw [hhi]; split <;> omega
  have hix : (if nI what = 1 then some 20 else some 9 : Option Int32) = some (nI hi) := by
    rw [hhi]
    by_cases z : what = 1
    · subst z; rfl
    · rw [if_neg (show ¬ nI what = 1 from fun y => z ((nI_eq (b := 1) (by omega) (by decide)).mp y)), if_neg z]; rfl
  have w0 : ∀ x : Int32, (if nI what = 0 then some x else some 0 : Option Int32) = some (if what = 0 then x else 0) := by
    intro x
    by_cases z : what = 0
    · subst z; rfl
    · rw [if_neg (show ¬ nI what = 0 from fun y => z ((nI_eq (b := 0) (by omega) (by decide)).mp y)), if_neg z]
  have w1 : ∀ x : Int32, (if nI what = 1 then some x else some 0 : Option Int32) = some (if what = 1 then x else 0) := by
    intro x
    by_cases z : what = 1
    · subst z; rfl
    · rw [if_neg (show ¬ nI what = 1 from fun y => z ((nI_eq (b := 1) (by omega) (by decide)).mp y)), if_neg z]
  have w2 : ∀ x : Int32, (if nI what = 2 then some x else some 1 : Option Int32) = some (if what = 2 then x else 1) := by
    intro x
    by_cases z : what = 2
    · subst z; rfl
    · rw [if_neg (show ¬ nI what = 2 from fun y => z ((nI_eq (b := 2) (by omega) (by decide)).mp y)), if_neg z]
  refine loopR (fun fu (a : Int32 × HS) y => mX9_least_L87 (nI t) (nI what) (nI q) (nI l) (fun x v => some (x, v)) fu a.1 y a.2) (hi + 1) lo (fun k a => Fr [78, 79] [38, 39, 40, 41, 42] u a.2 ∧ ((a.1 = -1 ∧ ∀ j, lo ≤ j → j < k → leP p u q l what j = false) ∨ (a.1 ≠ -1 ∧ fst1 (leP p u q l what) lo hi a.1))) (fun o => ∃ r u', o = some (r, u') ∧ fst1 (leP p u q l what) lo hi r ∧ Fr [78, 79] [38, 39, 40, 41, 42] u u') ?_ ?_ (hi + 1 - lo) lo (-1, u) FU (Nat.le_refl _) (by omega) (FU_lt (by omega)) ⟨Fr.rf, Or.inl ⟨rfl, fun j a b => absurd b (by omega)⟩⟩
  · intro fu ⟨r, a⟩ k hlk hk ⟨hF, hr⟩ ih
    show ∃ r' u', mX9_least_L87 (nI t) (nI what) (nI q) (nI l) (fun x v => some (x, v)) (fu + 1) r (nI k) a = _ ∧ _
    have hF' : Fr [78, 79] [38, 39, 40, 41, 42] u a := hF
    rw [mX9_least_L87.eq_2, if_neg (nI_m1 (by omega))]
    rcases hr with ⟨hr, hno⟩ | ⟨hr, hf⟩
    · have hr' : r = -1 := hr
      rw [if_pos hr', hix]
      simp only [ob_q]
      rw [if_neg (nI_nlt (by omega) (by omega)), w0, w1, w2]
      simp only [ob_q, bd_q, nI_1]
      have hF3 : Fr [78, 79] [38, 39, 40, 41, 42] u (wI (wI (wI a 9 0 38 (if what = 0 then nI k else 0)) 9 0 39 (if what = 1 then nI k else 0)) 9 0 40 (if what = 2 then nI k else 1)) := ((hF'.w9 (by decide)).w9 (by decide)).w9 (by decide)
      have g38 : gI (wI (wI (wI a 9 0 38 (if what = 0 then nI k else 0)) 9 0 39 (if what = 1 then nI k else 0)) 9 0 40 (if what = 2 then nI k else 1)) 9 0 38 = if what = 0 then nI k else 0 := by rw [gI_k (by decide), gI_k (by decide), gI_eq]
      have g39 : gI (wI (wI (wI a 9 0 38 (if what = 0 then nI k else 0)) 9 0 39 (if what = 1 then nI k else 0)) 9 0 40 (if what = 2 then nI k else 1)) 9 0 39 = if what = 1 then nI k else 0 := by rw [gI_k (by decide), gI_eq]
      have g40 : gI (wI (wI (wI a 9 0 38 (if what = 0 then nI k else 0)) 9 0 39 (if what = 1 then nI k else 0)) 9 0 40 (if what = 2 then nI k else 1)) 9 0 40 = if what = 2 then nI k else 1 := gI_eq
      have hsl : (if what = 2 then nI k else 1 : Int32) ≠ 0 := by
        by_cases z : what = 2
        · rw [if_pos z]; exact nI_ne0 (by have := hlo (by omega); omega) (by omega)
        · rw [if_neg z]; decide
      obtain ⟨a1, e1, f1, -, -⟩ := rSeenOf (hy.fr hF3 (by decide) (by decide)) hc (lr.fr hF3 (by decide)) lw (by rw [g40]; exact hsl) ht he he3
      rw [g38, g39, g40] at e1
      rw [e1]
      simp only [ob_q]
      have hP : leP p u q l what k = (fiS (pW p q) (fun τ => nmS (pC p (loS u l)) (pT p (loT u l)) (lkF u l 2) (loE p u l) (if what = 0 then nI k else 0) (if what = 1 then nI k else 0) (if what = 2 then nI k else 1) (nI t) τ) (hrS (pC p (loS u l)) (loE p u l) (nI t)) e).isSome := by
        unfold leP; rw [hem, et]
      have hF4 : Fr [78, 79] [38, 39, 40, 41, 42] u a1 := hF3.tr (f1.mo (by decide) (by decide))
      cases hf : fiS (pW p q) (fun τ => nmS (pC p (loS u l)) (pT p (loT u l)) (lkF u l 2) (loE p u l) (if what = 0 then nI k else 0) (if what = 1 then nI k else 0) (if what = 2 then nI k else 1) (nI t) τ) (hrS (pC p (loS u l)) (loE p u l) (nI t)) e with
      | none =>
        rw [hf] at hP
        rw [if_pos (show (none : Option Nat).elim (-1) nI = -1 from rfl)]
        simp only [ob_q]
        refine ih (-1, a1) ⟨hF4, Or.inl ⟨rfl, fun j a b => ?_⟩⟩
        by_cases c : j = k
        · rw [c, hP]; rfl
        · exact hno j a (by omega)
      | some f =>
        have hfm := fiS_lt hf
        rw [hf] at hP
        rw [if_neg (show ¬ (some f).elim (-1) nI = -1 from nI_m1 (by omega))]
        simp only [ob_q]
        exact ih (nI k, a1) ⟨hF4, Or.inr ⟨nI_m1 (by omega), Or.inl ⟨k, hlk, by omega, hP, fun j a b => hno j a b, rfl⟩⟩⟩
    · have hr' : ¬ r = -1 := hr
      rw [if_neg hr']
      exact ⟨r, a, rfl, hf, hF'⟩
  · intro fu ⟨r, a⟩ ⟨hF, hr⟩
    show ∃ r' u', mX9_least_L87 (nI t) (nI what) (nI q) (nI l) (fun x v => some (x, v)) (fu + 1) r (nI (hi + 1)) a = _ ∧ _
    rw [mX9_least_L87.eq_2, if_neg (nI_m1 (by omega))]
    rcases hr with ⟨hr, hno⟩ | ⟨hr, hf⟩
    · have hr' : r = -1 := hr
      rw [if_pos hr', hix]
      simp only [ob_q]
      rw [if_pos (nI_lt (by omega) (by omega))]
      exact ⟨r, a, rfl, Or.inr ⟨fun j a b => hno j a (by omega), hr'⟩, hF⟩
    · have hr' : ¬ r = -1 := hr
      rw [if_neg hr']
      exact ⟨r, a, rfl, hf, hF⟩
theorem QF.le {p : IP} {u v : HS} (hF : QF u v) (q l w : Nat) : leP p v q l w = leP p u q l w := by
  funext j
  have h := hF.lo (p := p) q l
  unfold leP
  rw [h.1, h.2.1, h.2.2.1, hF.2.1]
-- least
set_option maxHeartbeats 2000000 in
theorem s_least (x1 x2 x3 : Int32) : Step [3, 1] (fun u => mX8_least u x1 x2 x3) (fun u => mX9_least u x1 x2 x3) := by
  intro u hI
  have ⟨p, h, hv⟩ := hI
  have hw := w0c h
  have n6 := h.1.1.1
  have t6 := h.1.1.2.1
  have q4 := h.1.1.2.2.1
  have n14 := h.2.2.2.2.2.1.2.1.1.1
  cases b1 : inB x1 (pNl p) with
  | false =>
    refine Step.bad hI (k := 3) (v := 0) (b := 0) (c := 1) ?_ ?_ (by decide)
    · unfold mX8_least; simp only [bd_q, jp_q, ob_q, on_q, if_true, if_false, Bool.false_eq_true, Bool.true_eq_false, Bool.not_true, Bool.not_false, pr99, pr9, pr8, cReqS h, cReqT h, cReqQ h, cReqL h, cReqB, cReq0, cReq1, cTenthB, cAskB, cFitB, xqz, xq1, xq2, xq3, pl2, pl3, pl4, pl5, pl14, pl40, pl50, pl100, pl999, pe3, pe11, pe30, pe40, pe300, bI_if, bI_0, b1]
    · show mX9_least u x1 x2 x3 = _
      unfold mX9_least; simp only [bd_q, jp_q, ob_q, on_q, if_true, if_false, Bool.false_eq_true, Bool.true_eq_false, Bool.not_true, Bool.not_false, ir99, ir9, ir8, w0e, rIsS hw, rIsT hw, rIsQ hw, rIsL hw, rBad w00 _ (show (1 : Int32) ≠ 0 by decide), rBad w00 _ (show (2 : Int32) ≠ 0 by decide), rBad w00 _ (show (3 : Int32) ≠ 0 by decide), rBad1 w00 (show (1 : Int32) ≠ 0 by decide), rBad1 w00 (show (2 : Int32) ≠ 0 by decide), rBad1 w00 (show (3 : Int32) ≠ 0 by decide), rBad0 w00 (show (1 : Int32) ≠ 0 by decide), rBad0 w00 (show (2 : Int32) ≠ 0 by decide), rBad0 w00 (show (3 : Int32) ≠ 0 by decide), e10, in2, in3, in4, in5, in10, in14, in29, in39, in40, in50, in100, in299, in999, bI_nn, bI_0, b1]
  | true =>
  obtain ⟨q, hq, rfl⟩ := inB_t (by omega) b1
  obtain ⟨lr, lc, lw⟩ := h.law hq
  cases b2 : inB x2 (pN p) with
  | false =>
    refine Step.bad hI (k := 1) (v := 0) (b := 0) (c := 2) ?_ ?_ (by decide)
    · unfold mX8_least; simp only [bd_q, jp_q, ob_q, on_q, if_true, if_false, Bool.false_eq_true, Bool.true_eq_false, Bool.not_true, Bool.not_false, pr99, pr9, pr8, cReqS h, cReqT h, cReqQ h, cReqL h, cReqB, cReq0, cReq1, cTenthB, cAskB, cFitB, xqz, xq1, xq2, xq3, pl2, pl3, pl4, pl5, pl14, pl40, pl50, pl100, pl999, pe3, pe11, pe30, pe40, pe300, bI_if, bI_0, b1, b2]
    · show mX9_least u (nI q) x2 x3 = _
      unfold mX9_least; simp only [bd_q, jp_q, ob_q, on_q, if_true, if_false, Bool.false_eq_true, Bool.true_eq_false, Bool.not_true, Bool.not_false, ir99, ir9, ir8, w0e, rIsS hw, rIsT hw, rIsQ hw, rIsL hw, rBad w00 _ (show (1 : Int32) ≠ 0 by decide), rBad w00 _ (show (2 : Int32) ≠ 0 by decide), rBad w00 _ (show (3 : Int32) ≠ 0 by decide), rBad1 w00 (show (1 : Int32) ≠ 0 by decide), rBad1 w00 (show (2 : Int32) ≠ 0 by decide), rBad1 w00 (show (3 : Int32) ≠ 0 by decide), rBad0 w00 (show (1 : Int32) ≠ 0 by decide), rBad0 w00 (show (2 : Int32) ≠ 0 by decide), rBad0 w00 (show (3 : Int32) ≠ 0 by decide), e10, in2, in3, in4, in5, in10, in14, in29, in39, in40, in50, in100, in299, in999, bI_nn, bI_0, b1, b2]
  | true =>
  obtain ⟨l, hl, rfl⟩ := inB_t (by omega) b2
  obtain ⟨l14, ls, lt, l0, l1, l2, l3, lf⟩ := h.lk hl
  have ls6 : loS u l < 6 := by omega
  obtain ⟨r, s2⟩ := h.2.2.1 _ ls
  have hc := s2.1.2.1
  have hT8 := s2.1.2.2.2
  have s3 := s2
  obtain ⟨-, ⟨a0, a1, a2, a3, a4, a5, a6⟩, -⟩ := s3
  have hy := hw.ly hl
  have hqf := QF.w0 (u := u) (c := 0)
  rw [w0e] at hqf
  have hlo := hqf.lo (p := p) 0 l
  rw [hlo.1, hlo.2.1, hqf.2.1, hlo.2.2.1] at hy
  have rT : ∀ x, mX9_isThing (w0 u) (nI l) x = some (bI (inB x (sT (pC p (loS u l))))) := fun x => by rw [rThing hw hl x, hlo.1]
  cases b3 : inB x3 3 with
  | false =>
    refine Step.bad hI (k := 1) (v := 0) (b := 0) (c := 2) ?_ ?_ (by decide)
    · unfold mX8_least; simp only [bd_q, jp_q, ob_q, on_q, if_true, if_false, Bool.false_eq_true, Bool.true_eq_false, Bool.not_true, Bool.not_false, pr99, pr9, pr8, cReqS h, cReqT h, cReqQ h, cReqL h, cReqB, cReq0, cReq1, cTenthB, cAskB, cFitB, xqz, xq1, xq2, xq3, pl2, pl3, pl4, pl5, pl14, pl40, pl50, pl100, pl999, pe3, pe11, pe30, pe40, pe300, bI_if, bI_0, b1, b2, b3, h.sceneFor hl, a0, pc1, rT]
    · show mX9_least u (nI q) (nI l) x3 = _
      unfold mX9_least; simp only [bd_q, jp_q, ob_q, on_q, if_true, if_false, Bool.false_eq_true, Bool.true_eq_false, Bool.not_true, Bool.not_false, ir99, ir9, ir8, w0e, rIsS hw, rIsT hw, rIsQ hw, rIsL hw, rBad w00 _ (show (1 : Int32) ≠ 0 by decide), rBad w00 _ (show (2 : Int32) ≠ 0 by decide), rBad w00 _ (show (3 : Int32) ≠ 0 by decide), rBad1 w00 (show (1 : Int32) ≠ 0 by decide), rBad1 w00 (show (2 : Int32) ≠ 0 by decide), rBad1 w00 (show (3 : Int32) ≠ 0 by decide), rBad0 w00 (show (1 : Int32) ≠ 0 by decide), rBad0 w00 (show (2 : Int32) ≠ 0 by decide), rBad0 w00 (show (3 : Int32) ≠ 0 by decide), e10, in2, in3, in4, in5, in10, in14, in29, in39, in40, in50, in100, in299, in999, bI_nn, bI_0, b1, b2, b3, h.sceneFor hl, a0, pc1, rT]
  | true =>
  obtain ⟨what, hwt, rfl⟩ := inB_t (by decide) b3
  obtain ⟨e, he3, he⟩ := endS_nI hc
  rcases oddS_nI hc with z | ⟨t, ht, et⟩
  · obtain ⟨hw1, hy1, m38, m39, m40⟩ := ref_ctx h QF.rf hl
    obtain ⟨s', hs', e81⟩ := hy1.1.rs
    refine Step.ask h (u1 := u) (u2 := wI (wI (wI (w0 u) 9 0 38 0) 9 0 39 0) 9 0 40 1) (v := -1) ?_ ?_ QF.rf hv ?_ ?_ ?_
    · unfold mX8_least; simp only [bd_q, jp_q, ob_q, on_q, if_true, if_false, Bool.false_eq_true, Bool.true_eq_false, Bool.not_true, Bool.not_false, pr99, pr9, pr8, cReqS h, cReqT h, cReqQ h, cReqL h, cReqB, cReq0, cReq1, cTenthB, cAskB, cFitB, xqz, xq1, xq2, xq3, pl2, pl3, pl4, pl5, pl14, pl40, pl50, pl100, pl999, pe3, pe11, pe30, pe40, pe300, bI_if, bI_0, b1, b2, b3, h.sceneFor hl, a0, pc1, rT, a4, z]
    · show mX9_least u (nI q) (nI l) (nI what) = _
      have hlp : ∀ x : Int32, mX9_least_L87 (-1) (nI what) (nI q) (nI l) (fun x127 u128 => some (x127, wI (wI (wI u128 9 0 38 0) 9 0 39 0) 9 0 40 1)) FU (-1) x (w0 u) = some (-1, wI (wI (wI (w0 u) 9 0 38 0) 9 0 39 0) 9 0 40 1) := fun x => by rw [show FU = 4095 + 1 from rfl, mX9_least_L87.eq_2, if_pos rfl]
      unfold mX9_least; simp only [bd_q, jp_q, ob_q, on_q, if_true, if_false, Bool.false_eq_true, Bool.true_eq_false, Bool.not_true, Bool.not_false, ir99, ir9, ir8, w0e, rIsS hw, rIsT hw, rIsQ hw, rIsL hw, rBad w00 _ (show (1 : Int32) ≠ 0 by decide), rBad w00 _ (show (2 : Int32) ≠ 0 by decide), rBad w00 _ (show (3 : Int32) ≠ 0 by decide), rBad1 w00 (show (1 : Int32) ≠ 0 by decide), rBad1 w00 (show (2 : Int32) ≠ 0 by decide), rBad1 w00 (show (3 : Int32) ≠ 0 by decide), rBad0 w00 (show (1 : Int32) ≠ 0 by decide), rBad0 w00 (show (2 : Int32) ≠ 0 by decide), rBad0 w00 (show (3 : Int32) ≠ 0 by decide), e10, in2, in3, in4, in5, in10, in14, in29, in39, in40, in50, in100, in299, in999, bI_nn, bI_0, b1, b2, b3, h.sceneFor hl, a0, pc1, rT, ck_nI (show l < 15 by omega) (show 15 < 2 ^ 31 by decide), c8_0, e81, rOdd hs', z]
      by_cases c1 : nI what = 1
      · rw [if_pos c1]; simp only [ob_q]; exact hlp 0
      · rw [if_neg c1]; simp only [ob_q]; exact hlp 1
    · refine ⟨fun r a b => ?_, ?_, fun k hk => ?_, fun _ _ _ => rfl⟩
      · rw [gI_r b, gI_r b, gI_r b]; exact gI_r b
      · unfold lkF w0; rw [gI_r (by decide), gI_r (by decide), gI_r (by decide), gI_r (by decide)]
      · by_cases d40 : k = 40
        · rw [d40, gI_eq]; exact h.2.2.2.2.2.2.2.2.2.symm
        · rw [gI_k d40]
          by_cases d39 : k = 39
          · rw [d39, gI_eq]; exact h.2.2.2.2.2.2.2.2.1.symm
          · rw [gI_k d39]
            by_cases d38 : k = 38
            · rw [d38, gI_eq]; exact h.2.2.2.2.2.2.2.1.symm
            · rw [gI_k d38]; exact gI_k (fun q => hk (by rw [q]; decide))
    · rw [gI_r (by decide), gI_r (by decide), gI_r (by decide), w054]
    · rw [gI_k (by decide), gI_k (by decide), gI_k (by decide), w00]
  · have hne : ¬ oddS (pC p (loS u l)) = -1 := by rw [et]; exact nI_m1 (by omega)
    obtain ⟨u1, e1, f1, hV, v43, v45⟩ := h.look hl he3
    have q1 := f1.qf (by decide)
    have lox : (if nI what = 1 then some 0 else some 1 : Option Int32) = some (nI (if what = 1 then 0 else 1)) := by
      by_cases z : what = 1
      · subst z; rfl
      · rw [if_neg (show ¬ nI what = 1 from fun y => z ((nI_eq (b := 1) (by omega) (by decide)).mp y)), if_neg z]; rfl
    have hix : (if nI what = 1 then some 20 else some 9 : Option Int32) = some (nI (if what = 1 then 20 else 9)) := by
      by_cases z : what = 1
      · subst z; rfl
      · rw [if_neg (show ¬ nI what = 1 from fun y => z ((nI_eq (b := 1) (by omega) (by decide)).mp y)), if_neg z]; rfl
    have hlo : what ≠ 1 → 1 ≤ (if what = 1 then 0 else 1) := fun z => by rw [if_neg z]; omega
    have hlh : (if what = 1 then 0 else 1) ≤ (if what = 1 then 20 else 9) + 1 := by split <;> omega
    obtain ⟨r, u2, e2, r2', q2, g54⟩ := IV.leastC h hl hq hwt hlo (hi := if what = 1 then 20 else 9) (by split <;> omega) hlh he3 he ht et hV (lc.fvw f1) v43 v45
    have q3 := q1.tr q2
    obtain ⟨hw1, hy1, m38, m39, m40⟩ := ref_ctx h q3 hl
    obtain ⟨s', hs', e81⟩ := hy1.1.rs
    have qw : QF u (w0 u2) := q3.tr QF.w0
    have lw1 := qw.lo (p := p) q l
    obtain ⟨r', u4, e4, r4, f4⟩ := IV.leastR hw1 hl hq hwt hlo hlh rfl he3 (by rw [lw1.1]; exact he) (by rw [lw1.1]; exact ht) (by rw [lw1.1]; exact et)
    rw [qw.le] at r4
    have hrr := r2'.eq r4
    subst hrr
    -- the loop's own end is behind the loop
    have hcont : ∀ (fu : Nat) (a : Int32) (x : Int32) (v : HS), mX9_least_L87 (nI t) (nI what) (nI q) (nI l) (fun x127 u128 => some (x127, wI (wI (wI u128 9 0 38 0) 9 0 39 0) 9 0 40 1)) fu a x v = (mX9_least_L87 (nI t) (nI what) (nI q) (nI l) (fun x v => some (x, v)) fu a x v).bind fun z => some (z.1, wI (wI (wI z.2 9 0 38 0) 9 0 39 0) 9 0 40 1) := by
      intro fu
      induction fu with
      | zero => intro a x v; rfl
      | succ fu ih =>
        intro a x v
        rw [mX9_least_L87.eq_2, mX9_least_L87.eq_2]
        by_cases c1 : nI t = -1
        · rw [if_pos c1, if_pos c1]; rfl
        · rw [if_neg c1, if_neg c1]
          by_cases c2 : a = -1
          · rw [if_pos c2, if_pos c2]
            simp only [ih]
            cases h1 : (if nI what = 1 then some 20 else some 9 : Option Int32) with
            | none => rfl
            | some y =>
              simp only [ob_q]
              by_cases c3 : y < x
              · rw [if_pos c3, if_pos c3]; rfl
              · rw [if_neg c3, if_neg c3]
                cases h2 : (if nI what = 0 then some x else some 0 : Option Int32) with
                | none => rfl
                | some y2 =>
                  simp only [ob_q, bd_q]
                  cases h3 : (if nI what = 1 then some x else some 0 : Option Int32) with
                  | none => rfl
                  | some y3 =>
                    simp only [ob_q]
                    cases h4 : (if nI what = 2 then some x else some 1 : Option Int32) with
                    | none => rfl
                    | some y4 =>
                      simp only [ob_q]
                      cases h5 : mX9_seenOf (wI (wI (wI v 9 0 38 y2) 9 0 39 y3) 9 0 40 y4) (nI q) (nI l) (nI t) with
                      | none => rfl
                      | some z5 =>
                        simp only [ob_q]
                        cases h6 : (if z5.1 = -1 then some (-1) else some x : Option Int32) with
                        | none => rfl
                        | some y6 => simp only [ob_q]
          · rw [if_neg c2, if_neg c2]; rfl
    have e5 : mX9_least_L87 (nI t) (nI what) (nI q) (nI l) (fun x127 u128 => some (x127, wI (wI (wI u128 9 0 38 0) 9 0 39 0) 9 0 40 1)) FU (-1) (nI (if what = 1 then 0 else 1)) (w0 u2) = some (r, wI (wI (wI u4 9 0 38 0) 9 0 39 0) 9 0 40 1) := by
      rw [hcont, e4]; rfl
    refine Step.ask h (u1 := u2) (u2 := wI (wI (wI u4 9 0 38 0) 9 0 39 0) 9 0 40 1) (v := r) ?_ ?_ q3 (q3.s (g54.trans (f1.m1 (by decide) (by decide))) hv) ?_ ?_ ?_
    · unfold mX8_least; simp only [bd_q, jp_q, ob_q, on_q, if_true, if_false, Bool.false_eq_true, Bool.true_eq_false, Bool.not_true, Bool.not_false, pr99, pr9, pr8, cReqS h, cReqT h, cReqQ h, cReqL h, cReqB, cReq0, cReq1, cTenthB, cAskB, cFitB, xqz, xq1, xq2, xq3, pl2, pl3, pl4, pl5, pl14, pl40, pl50, pl100, pl999, pe3, pe11, pe30, pe40, pe300, bI_if, bI_0, b1, b2, b3, h.sceneFor hl, a0, pc1, rT, a4, hne, a6, he, e1, hix, lox, e2]
    · show mX9_least u2 (nI q) (nI l) (nI what) = _
      have hw := hw1
      unfold mX9_least; simp only [bd_q, jp_q, ob_q, on_q, if_true, if_false, Bool.false_eq_true, Bool.true_eq_false, Bool.not_true, Bool.not_false, ir99, ir9, ir8, w0e, rIsS hw, rIsT hw, rIsQ hw, rIsL hw, rBad w00 _ (show (1 : Int32) ≠ 0 by decide), rBad w00 _ (show (2 : Int32) ≠ 0 by decide), rBad w00 _ (show (3 : Int32) ≠ 0 by decide), rBad1 w00 (show (1 : Int32) ≠ 0 by decide), rBad1 w00 (show (2 : Int32) ≠ 0 by decide), rBad1 w00 (show (3 : Int32) ≠ 0 by decide), rBad0 w00 (show (1 : Int32) ≠ 0 by decide), rBad0 w00 (show (2 : Int32) ≠ 0 by decide), rBad0 w00 (show (3 : Int32) ≠ 0 by decide), e10, in2, in3, in4, in5, in10, in14, in29, in39, in40, in50, in100, in299, in999, bI_nn, bI_0, b1, b2, b3, h.sceneFor hl, a0, pc1, rT, ck_nI (show l < 15 by omega) (show 15 < 2 ^ 31 by decide), c8_0, e81, rOdd hs', et, lox, e5]
    · refine ⟨fun r a b => ?_, ?_, fun k hk => ?_, fun k _ _ => ?_⟩
      · rw [gI_r b, gI_r b, gI_r b, f4.m1 (fun y => a (by simp only [List.mem_cons, List.not_mem_nil, or_false] at y ⊢; omega)) b]; exact gI_r b
      · unfold lkF; rw [gI_r (by decide), gI_r (by decide), gI_r (by decide), f4.m1 (by decide) (by decide)]; unfold w0; rw [gI_r (by decide)]
      · have hm := (q3.c h).2.2.2.2.2.2.2
        by_cases d40 : k = 40
        · rw [d40, gI_eq]; exact hm.2.2.symm
        · rw [gI_k d40]
          by_cases d39 : k = 39
          · rw [d39, gI_eq]; exact hm.2.1.symm
          · rw [gI_k d39]
            by_cases d38 : k = 38
            · rw [d38, gI_eq]; exact hm.1.symm
            · rw [gI_k d38, f4.2.1 k (by simp only [List.mem_cons, List.not_mem_nil, or_false] at hk ⊢; omega)]
              exact gI_k (fun q => hk (by rw [q]; decide))
      · show gR u4 k = _; rw [f4.2.2.2]; rfl
    · rw [gI_r (by decide), gI_r (by decide), gI_r (by decide), f4.m1 (by decide) (by decide), w054]
    · rw [gI_k (by decide), gI_k (by decide), gI_k (by decide), f4.2.1 0 (by decide), w00]
