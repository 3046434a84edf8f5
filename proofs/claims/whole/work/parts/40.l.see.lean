/-! ===== what gets in, tenth by tenth ===== -/
def gnS (w : LT) (Nm : Int32 → Nat → Int32) (Hr : Int32 → Bool) (τ : Int32) : Int32 := if Hr τ = true then getS w (Nm τ) else 0
def liS (w : LT) (nm : Nat → Int32) : Int32 := lasS w nm 1 1 100000 100
def drS (noise x : Int32) : Int32 := ((x >>> ((16 : Int32) &&& 31)) &&& 32767) - ((x >>> ((16 : Int32) &&& 31)) &&& 32767) / (noise + 1) * (noise + 1)
/-- what a tenth adds, and the seed behind it -/
def adS (w : LT) (Nm : Int32 → Nat → Int32) (Hr : Int32 → Bool) (noise τ x : Int32) : Int32 × Int32 := if Hr τ = true ∧ ¬ noise ≤ 0 then (gnS w Nm Hr τ + drS noise (x * 1103515245 + 12345), x * 1103515245 + 12345) else (gnS w Nm Hr τ, x)
def goS (w : LT) (Nm : Int32 → Nat → Int32) (Hr : Int32 → Bool) (chg : Bool) (noise : Int32) (s : Int32 × Int32 × Int32) (k : Nat) : Int32 × Int32 × Int32 :=
  if chg = true ∧ Nm (nI k) 8 = 0 then (s.1, s.2.1, (adS w Nm Hr noise (nI k) s.2.2).2)
  else (if s.1 = -1 ∧ ¬ s.2.1 + (adS w Nm Hr noise (nI k) s.2.2).1 < liS w (Nm (nI k)) then nI k else s.1, s.2.1 + (adS w Nm Hr noise (nI k) s.2.2).1, (adS w Nm Hr noise (nI k) s.2.2).2)
/-- the reference's looker, and that its eyes are shut just where E says so -/
def LY (u : HS) (l : Nat) (c : SV) (tk : Nat → Int32) (kn : Int32) (E : Int32 → Int32) : Prop := LX u l c tk kn E ∧ ∃ nb, gI u 9 0 30 = nI nb ∧ nb ≤ 40 ∧ ∀ τ, τ < 300 → shutS (gI u 85) nb (nI l) (nI τ) = decide (E (nI τ) = -1)
theorem LY.fr {u v : HS} {l : Nat} {c : SV} {tk : Nat → Int32} {kn : Int32} {E : Int32 → Int32} {L K : List Nat} (h : LY u l c tk kn E) (hF : Fr L K u v) (hL : ∀ r, r ∈ L → r ≠ 65 ∧ r ≠ 66 ∧ r ≠ 67 ∧ r ≠ 69 ∧ r ≠ 71 ∧ r ≠ 81 ∧ r ≠ 83 ∧ r ≠ 85) (hK : ∀ r, r ∈ K → r ≠ 29 ∧ r ≠ 30) : LY v l c tk kn E := by
  obtain ⟨h1, nb, h2, h3, h4⟩ := h
  refine ⟨h1.fr hF hL hK, nb, ?_, h3, ?_⟩
  · rw [hF.2.1 30 (fun q => (hK _ q).2 rfl)]; exact h2
  · rw [hF.m1 (fun q => (hL _ q).2.2.2.2.2.2.2 rfl) (by decide)]; exact h4
def hrS (c : SV) (E : Int32 → Int32) (t τ : Int32) : Bool := isT c t τ && decide (E τ ≠ -1)
/-- the reference: GETS in a tenth -/
theorem rGetsIn {u : HS} {l q : Nat} {c : SV} {tk : Nat → Int32} {kn : Int32} {E : Int32 → Int32} {w : LT} (h : LY u l c tk kn E) (hq : LR u q w) (hw : LWF w) (hsl : gI u 9 0 40 ≠ 0) {t τ : Nat} (ht : t < sT c) (hτ : τ < 300) : ∃ u', mX9_getsIn u (nI q) (nI l) (nI t) (nI τ) = some (gnS w (fun τ => nmS c tk kn E (gI u 9 0 38) (gI u 9 0 39) (gI u 9 0 40) (nI t) τ) (hrS c E (nI t)) (nI τ), u') ∧ Fr [78, 79] [] u u' ∧ ∀ j, j < 11 → gI u' 79 0 j = nmS c tk kn E (gI u 9 0 38) (gI u 9 0 39) (gI u 9 0 40) (nI t) (nI τ) j := by
  have hh := h
  obtain ⟨h1, nb, h2, h3, h4⟩ := h
  obtain ⟨u1, e1, hF1, hn1⟩ := rNames h1 hsl ht (nI τ)
  obtain ⟨h1', nb', h2', h3', h4'⟩ := hh.fr hF1 (by decide) (by decide)
  unfold mX9_getsIn
  rw [e1]
  simp only [ob_q]
  have hl : l < 15 := by obtain ⟨s, t, nr, nb, ⟨a0, a1, a2, a3⟩, _⟩ := h1; exact a2
  obtain ⟨s, hs, e81⟩ := h1'.rs
  rw [rShut h2' h3', h4' τ hτ]
  simp only [ob_q, ck_nI hl (show 15 < 2 ^ 31 by decide), c8_0, e81, rThere hs, bI_0]
  unfold gnS hrS
  by_cases c1 : E (nI τ) = -1
  · simp only [c1, decide_true, Bool.true_eq_false, if_false, ne_eq, not_true_eq_false, decide_false, Bool.and_false, Bool.false_eq_true]
    exact ⟨u1, rfl, hF1.mo (by decide) (by decide), hn1⟩
  · simp only [c1, decide_false, if_true, ne_eq, not_false_eq_true, decide_true, Bool.and_true]
    cases c2 : isT c (nI t) (nI τ) with
    | false =>
      simp only [if_true, Bool.false_eq_true, if_false]
      exact ⟨u1, rfl, hF1.mo (by decide) (by decide), hn1⟩
    | true =>
      simp only [Bool.true_eq_false, if_false, if_true]
      obtain ⟨u2, e2, hF2⟩ := rGets (hq.fr hF1 (by decide)) hw hn1
      rw [e2]
      simp only [ob_q, bd_q]
      exact ⟨u2, rfl, (hF1.mo (by decide) (by decide)).tr (hF2.mo (by decide) (by decide)), fun j hj => by rw [hF2.m1 (by decide) (by decide)]; exact hn1 j hj⟩
theorem c1103 (x : Int32) (noise : Int32) (h : ¬ noise ≤ 0) (h2 : noise ≤ 50) : noise + 1 ≠ 0 := by
  obtain ⟨n, hn, e⟩ := nI_of2 (M := 50) (n := 50) rfl (fun q => h (Int32.le_of_lt q)) h2
  rw [e, nI_1]; exact nI_ne0 (by omega) (by omega)
set_option maxHeartbeats 2000000 in
theorem rGoes {u : HS} {l q : Nat} {c : SV} {tk : Nat → Int32} {kn : Int32} {E : Int32 → Int32} {w : LT} (h : LY u l c tk kn E) (hc : SWF c) (hq : LR u q w) (hw : LWF w) (hsl : gI u 9 0 40 ≠ 0) {t : Nat} (ht : t < sT c) (noise seed : Int32) (hno : noise ≤ 50) (chg : Bool) {e : Nat} (he : endS c = nI e) (he3 : e < 300) : ∃ u', mX9_goes u (nI q) (nI l) (nI t) noise seed (bI chg) = some u' ∧ Fr [78, 79] [41, 42] u u' ∧ gI u' 9 0 41 = ((List.range (e + 1)).foldl (goS w (fun τ => nmS c tk kn E (gI u 9 0 38) (gI u 9 0 39) (gI u 9 0 40) (nI t) τ) (hrS c E (nI t)) chg noise) (-1, 0, seed)).1 ∧ gI u' 9 0 42 = ((List.range (e + 1)).foldl (goS w (fun τ => nmS c tk kn E (gI u 9 0 38) (gI u 9 0 39) (gI u 9 0 40) (nI t) τ) (hrS c E (nI t)) chg noise) (-1, 0, seed)).2.1 := by
  have hh := h
  have hl : l < 15 := by obtain ⟨⟨s, t, nr, nb, ⟨a0, a1, a2, a3⟩, _⟩, -⟩ := h; exact a2
  obtain ⟨s, hs, e81⟩ := h.1.rs
  unfold mX9_goes
  simp only [ck_nI hl (show 15 < 2 ^ 31 by decide), c8_0, ob_q, e81, rEnd hs, he, bd_q, jp_q]
  have hF0 : Fr [78, 79] [41, 42] u (wI (wI u 9 0 41 (-1)) 9 0 42 0) := (Fr.rf.w9 (by decide)).w9 (by decide)
  obtain ⟨S0, eS0⟩ : ∃ S0 : Int32 × Int32 × Int32, S0 = (-1, 0, seed) := ⟨_, rfl⟩
  obtain ⟨f, ef⟩ : ∃ f, f = goS w (fun τ => nmS c tk kn E (gI u 9 0 38) (gI u 9 0 39) (gI u 9 0 40) (nI t) τ) (hrS c E (nI t)) chg noise := ⟨_, rfl⟩
  rw [← eS0, ← ef]
  refine loopR (fun fu (a : Int32 × HS) y => mX9_goes_L31 (nI e) (nI q) (nI l) (nI t) (bI chg) noise (fun u110 => some u110) fu a.1 y a.2) (e + 1) 0 (fun k a => Fr [78, 79] [41, 42] u a.2 ∧ gI a.2 9 0 41 = ((List.range k).foldl f S0).1 ∧ gI a.2 9 0 42 = ((List.range k).foldl f S0).2.1 ∧ a.1 = ((List.range k).foldl f S0).2.2) (fun o => ∃ u', o = some u' ∧ Fr [78, 79] [41, 42] u u' ∧ gI u' 9 0 41 = ((List.range (e + 1)).foldl f S0).1 ∧ gI u' 9 0 42 = ((List.range (e + 1)).foldl f S0).2.1) ?_ ?_ (e + 1) 0 (seed, wI (wI u 9 0 41 (-1)) 9 0 42 0) FU (Nat.le_refl _) (by omega) (FU_lt (by omega)) ⟨hF0, by rw [eS0]; show gI (wI (wI u 9 0 41 (-1)) 9 0 42 0) 9 0 41 = -1; rw [gI_k (by decide), gI_eq], by rw [eS0]; show gI (wI (wI u 9 0 41 (-1)) 9 0 42 0) 9 0 42 = 0; rw [gI_eq], by rw [eS0]; rfl⟩
  · intro fu ⟨x, a⟩ k _ hk ⟨hF, h41, h42, hx⟩ ih
    show ∃ u', mX9_goes_L31 (nI e) (nI q) (nI l) (nI t) (bI chg) noise (fun u110 => some u110) (fu + 1) x (nI k) a = some u' ∧ _
    have hF' : Fr [78, 79] [41, 42] u a := hF
    have hYa : LY a l c tk kn E := hh.fr hF' (by decide) (by decide)
    have hqa : LR a q w := hq.fr hF' (by decide)
    have f38 : gI a 9 0 38 = gI u 9 0 38 := hF'.2.1 38 (by decide)
    have f39 : gI a 9 0 39 = gI u 9 0 39 := hF'.2.1 39 (by decide)
    have f40 : gI a 9 0 40 = gI u 9 0 40 := hF'.2.1 40 (by decide)
    obtain ⟨a1, e1, hF1, hn1⟩ := rGetsIn (t := t) (τ := k) hYa hqa hw (by rw [f40]; exact hsl) ht (by omega)
    rw [f38, f39, f40] at e1 hn1
    have hF01 : Fr [78, 79] [41, 42] u a1 := hF'.tr (hF1.mo (by decide) (by decide))
    have hY1 : LY a1 l c tk kn E := hh.fr hF01 (by decide) (by decide)
    obtain ⟨hX1, nb, b2, b3, b4⟩ := hY1
    obtain ⟨s1, hs1, e811⟩ := hX1.rs
    rw [mX9_goes_L31.eq_2, if_neg (nI_nlt (by omega) (by omega)), e1]
    simp only [ob_q, bd_q, jp_q, rShut b2 b3, b4 k (show k < 300 by omega), ck_nI hl (show 15 < 2 ^ 31 by decide), c8_0, e811, rThere hs1, bI_0, c11_8, hn1 8 (by decide), nI_1]
    obtain ⟨Nm, eNm⟩ : ∃ Nm : Int32 → Nat → Int32, Nm = fun τ => nmS c tk kn E (gI u 9 0 38) (gI u 9 0 39) (gI u 9 0 40) (nI t) τ := ⟨_, rfl⟩
    have hNk : ∀ j, nmS c tk kn E (gI u 9 0 38) (gI u 9 0 39) (gI u 9 0 40) (nI t) (nI k) j = Nm (nI k) j := fun j => by rw [eNm]
    rw [← eNm] at ef ⊢
    rw [hNk 8]
    have hnmj : ∀ j, j < 11 → gI a1 79 0 j = Nm (nI k) j := fun j hj => by rw [hn1 j hj, hNk j]
    -- what is drawn
    have hdraw : ∀ K : Int32 → Int32 → Option HS, (if noise ≤ 0 then K x (gnS w Nm (hrS c E (nI t)) (nI k)) else if decide (E (nI k) = -1) = false then (if isT c (nI t) (nI k) = false then K x (gnS w Nm (hrS c E (nI t)) (nI k)) else (nz (noise + 1)).bind fun _ => K (x * 1103515245 + 12345) (gnS w Nm (hrS c E (nI t)) (nI k) + ((((x * 1103515245 + 12345) >>> ((16 : Int32) &&& 31)) &&& 32767) - (((x * 1103515245 + 12345) >>> ((16 : Int32) &&& 31)) &&& 32767) / (noise + 1) * (noise + 1)))) else K x (gnS w Nm (hrS c E (nI t)) (nI k))) = K (adS w Nm (hrS c E (nI t)) noise (nI k) x).2 (adS w Nm (hrS c E (nI t)) noise (nI k) x).1 := by
      intro K
      unfold adS
      by_cases c0 : noise ≤ 0
      · rw [if_pos c0, if_neg (fun z => z.2 c0)]
      · rw [if_neg c0]
        by_cases c1 : E (nI k) = -1
        · rw [if_neg (by simp [c1]), if_neg (fun z => by have := z.1; unfold hrS at this; simp [c1] at this)]
        · rw [if_pos (by simp [c1])]
          cases c2 : isT c (nI t) (nI k) with
          | false => rw [if_pos rfl, if_neg (fun z => by have := z.1; unfold hrS at this; simp [c2] at this)]
          | true =>
            rw [if_neg (by simp), if_pos ⟨by unfold hrS; simp [c1, c2], c0⟩, nz_ok (c1103 x noise c0 hno)]
            simp only [ob_q]
            rfl
    rw [hdraw (fun x116 x117 => (if chg = false then (if gI (wI a1 9 0 42 (gI a1 9 0 42 + x117)) 9 0 41 = -1 then (mX9_lineNow (wI a1 9 0 42 (gI a1 9 0 42 + x117)) (nI q)).bind fun z => if gI (wI a1 9 0 42 (gI a1 9 0 42 + x117)) 9 0 42 < z.1 then some z.2 else some (wI z.2 9 0 41 (nI k)) else some (wI a1 9 0 42 (gI a1 9 0 42 + x117))) else if Nm (nI k) 8 = 0 then some a1 else (if gI (wI a1 9 0 42 (gI a1 9 0 42 + x117)) 9 0 41 = -1 then (mX9_lineNow (wI a1 9 0 42 (gI a1 9 0 42 + x117)) (nI q)).bind fun z => if gI (wI a1 9 0 42 (gI a1 9 0 42 + x117)) 9 0 42 < z.1 then some z.2 else some (wI z.2 9 0 41 (nI k)) else some (wI a1 9 0 42 (gI a1 9 0 42 + x117))) : Option HS).bind fun u119 => mX9_goes_L31 (nI e) (nI q) (nI l) (nI t) (bI chg) noise (fun u110 => some u110) fu x116 (nI (k + 1)) u119)]
    obtain ⟨A, eA⟩ : ∃ A, A = adS w Nm (hrS c E (nI t)) noise (nI k) x := ⟨_, rfl⟩
    rw [← eA]
    have hstep : (List.range (k + 1)).foldl f S0 = f ((List.range k).foldl f S0) k := by rw [List.range_succ, List.foldl_append]; rfl
    obtain ⟨S, eS⟩ : ∃ S, S = (List.range k).foldl f S0 := ⟨_, rfl⟩
    have h41' : gI a 9 0 41 = S.1 := by rw [eS]; exact h41
    have h42' : gI a 9 0 42 = S.2.1 := by rw [eS]; exact h42
    have hx' : x = S.2.2 := by rw [eS]; exact hx
    have hfS : f S k = if chg = true ∧ Nm (nI k) 8 = 0 then (S.1, S.2.1, A.2) else (if S.1 = -1 ∧ ¬ S.2.1 + A.1 < liS w (Nm (nI k)) then nI k else S.1, S.2.1 + A.1, A.2) := by
      rw [ef, eA, hx']; rfl
    rw [← eS] at hstep
    have g41 : gI a1 9 0 41 = S.1 := by rw [hF1.2.1 41 (by simp)]; exact h41'
    have g42 : gI a1 9 0 42 = S.2.1 := by rw [hF1.2.1 42 (by simp)]; exact h42'
    -- the tenth counts, or it doesn't
    have hfin : ∃ a2, (if chg = false then (if gI (wI a1 9 0 42 (gI a1 9 0 42 + A.1)) 9 0 41 = -1 then (mX9_lineNow (wI a1 9 0 42 (gI a1 9 0 42 + A.1)) (nI q)).bind fun z => if gI (wI a1 9 0 42 (gI a1 9 0 42 + A.1)) 9 0 42 < z.1 then some z.2 else some (wI z.2 9 0 41 (nI k)) else some (wI a1 9 0 42 (gI a1 9 0 42 + A.1))) else if Nm (nI k) 8 = 0 then some a1 else (if gI (wI a1 9 0 42 (gI a1 9 0 42 + A.1)) 9 0 41 = -1 then (mX9_lineNow (wI a1 9 0 42 (gI a1 9 0 42 + A.1)) (nI q)).bind fun z => if gI (wI a1 9 0 42 (gI a1 9 0 42 + A.1)) 9 0 42 < z.1 then some z.2 else some (wI z.2 9 0 41 (nI k)) else some (wI a1 9 0 42 (gI a1 9 0 42 + A.1))) : Option HS) = some a2 ∧ Fr [78, 79] [41, 42] u a2 ∧ gI a2 9 0 41 = (f S k).1 ∧ gI a2 9 0 42 = (f S k).2.1 ∧ A.2 = (f S k).2.2 := by
      have hcnt : ¬ (chg = true ∧ Nm (nI k) 8 = 0) → ∃ a2, (if gI (wI a1 9 0 42 (gI a1 9 0 42 + A.1)) 9 0 41 = -1 then (mX9_lineNow (wI a1 9 0 42 (gI a1 9 0 42 + A.1)) (nI q)).bind fun z => if gI (wI a1 9 0 42 (gI a1 9 0 42 + A.1)) 9 0 42 < z.1 then some z.2 else some (wI z.2 9 0 41 (nI k)) else some (wI a1 9 0 42 (gI a1 9 0 42 + A.1)) : Option HS) = some a2 ∧ Fr [78, 79] [41, 42] u a2 ∧ gI a2 9 0 41 = (f S k).1 ∧ gI a2 9 0 42 = (f S k).2.1 ∧ A.2 = (f S k).2.2 := by
        intro hn
        rw [hfS, if_neg hn, gI_k (show 41 ≠ 42 by decide), gI_eq, g41, g42]
        have hF2 : Fr [78, 79] [41, 42] u (wI a1 9 0 42 (S.2.1 + A.1)) := hF01.w9 (by decide)
        by_cases c1 : S.1 = -1
        · rw [if_pos c1]
          obtain ⟨a3, e3, hF3⟩ := rLast (u := wI a1 9 0 42 (S.2.1 + A.1)) (nm := Nm (nI k)) (hq.fr hF2 (by decide)) hw (fun j hj => by rw [gI_r (by decide)]; exact hnmj j hj) 1 1 100000 100
          have hF4 : Fr [78, 79] [41, 42] u a3 := hF2.tr (hF3.mo (by decide) (by decide))
          have i41 : gI a3 9 0 41 = S.1 := by rw [hF3.2.1 41 (by simp), gI_k (by decide)]; exact g41
          have i42 : gI a3 9 0 42 = S.2.1 + A.1 := by rw [hF3.2.1 42 (by simp), gI_eq]
          unfold mX9_lineNow
          rw [e3]
          simp only [ob_q, bd_q]
          rw [show lasS w (Nm (nI k)) 1 1 100000 100 = liS w (Nm (nI k)) from rfl]
          by_cases c2 : S.2.1 + A.1 < liS w (Nm (nI k))
          · rw [if_pos c2]
            exact ⟨a3, rfl, hF4, by rw [i41, if_neg (fun z => z.2 c2)], i42, trivial⟩
          · rw [if_neg c2]
            refine ⟨_, rfl, hF4.w9 (by decide), ?_, ?_, trivial⟩
            · rw [gI_eq, if_pos ⟨c1, c2⟩]
            · rw [gI_k (by decide)]; exact i42
        · rw [if_neg c1]
          refine ⟨_, rfl, hF2, ?_, ?_, rfl⟩
          · rw [gI_k (by decide), g41, if_neg (fun z => c1 z.1)]
          · rw [gI_eq]
      cases hch : chg with
      | false => rw [if_pos rfl]; exact hcnt (by rw [hch]; simp)
      | true =>
        rw [if_neg (by decide)]
        by_cases c8 : Nm (nI k) 8 = 0
        · rw [if_pos c8]
          refine ⟨a1, rfl, hF01, ?_, ?_, ?_⟩ <;> rw [hfS, if_pos ⟨hch, c8⟩]
          · exact g41
          · exact g42
        · rw [if_neg c8]; exact hcnt (fun z => c8 z.2)
    obtain ⟨a2, q1, q2, q3, q4, q5⟩ := hfin
    rw [q1]
    simp only [ob_q]
    exact ih (A.2, a2) ⟨q2, by rw [hstep]; exact q3, by rw [hstep]; exact q4, by rw [hstep]; exact q5⟩
  · intro fu ⟨x, a⟩ ⟨hF, h41, h42, hx⟩
    show ∃ u', mX9_goes_L31 (nI e) (nI q) (nI l) (nI t) (bI chg) noise (fun u110 => some u110) (fu + 1) x (nI (e + 1)) a = some u' ∧ _
    rw [mX9_goes_L31.eq_2, if_pos (nI_lt (by omega) (by omega))]
    exact ⟨a, rfl, hF, h41, h42⟩
