/-! ===== seen, forgotten, unsure ===== -/
theorem adS_0 {w : LT} {Nm : Int32 → Nat → Int32} {Hr : Int32 → Bool} {noise : Int32} (h : noise ≤ 0) (τ x : Int32) : adS w Nm Hr noise τ x = (gnS w Nm Hr τ, x) := by
  unfold adS; rw [if_neg (fun z => z.2 h)]
theorem fsS_seed {w : LT} {Nm : Int32 → Nat → Int32} {Hr : Int32 → Bool} {chg : Bool} {noise : Int32} (h : noise ≤ 0) : ∀ (d k : Nat) (s x y : Int32), fsS w Nm Hr chg noise d k (s, x) = fsS w Nm Hr chg noise d k (s, y) := by
  intro d
  induction d with
  | zero => intro k s x y; rfl
  | succ d ih =>
    intro k s x y
    unfold fsS
    simp only [adS_0 h]
    rw [ih (k + 1) s x y, ih (k + 1) (s + gnS w Nm Hr (nI k)) x y]
theorem fs_sum {w : LT} {Nm : Int32 → Nat → Int32} {Hr : Int32 → Bool} {noise : Int32} (h : noise ≤ 0) : ∀ (d k : Nat) (s x : Int32) (f : Nat), (fsS w Nm Hr false noise d k (s, x)).1 = some f → k ≤ f ∧ f < k + d ∧ (fsS w Nm Hr false noise d k (s, x)).2 = suS w Nm Hr k (f + 1 - k) s := by
  intro d
  induction d with
  | zero => intro k s x f hf; cases hf
  | succ d ih =>
    intro k s x f hf
    have e : fsS w Nm Hr false noise (d + 1) k (s, x) = if s + gnS w Nm Hr (nI k) < liS w (Nm (nI k)) then fsS w Nm Hr false noise d (k + 1) (s + gnS w Nm Hr (nI k), x) else (some k, s + gnS w Nm Hr (nI k)) := by
      conv => lhs; unfold fsS
      simp only [adS_0 h, Bool.false_eq_true, false_and, if_false]
    rw [e] at hf ⊢
    by_cases c : s + gnS w Nm Hr (nI k) < liS w (Nm (nI k))
    · rw [if_pos c] at hf ⊢
      obtain ⟨h1, h2, h3⟩ := ih (k + 1) _ x f hf
      refine ⟨by omega, by omega, ?_⟩
      rw [h3]
      have : suS w Nm Hr k (f + 1 - k) s = suS w Nm Hr (k + 1) (f + 1 - (k + 1)) (suS w Nm Hr k 1 s) := by
        rw [suS_add]; congr 1; omega
      rw [this]; rfl
    · rw [if_neg c] at hf ⊢
      have e2 : k = f := Option.some.inj hf
      subst e2
      refine ⟨Nat.le_refl _, by omega, ?_⟩
      rw [show k + 1 - k = 1 by omega]; rfl
theorem go_seen {w : LT} {Nm : Int32 → Nat → Int32} {Hr : Int32 → Bool} {chg : Bool} {noise : Int32} : ∀ (l : List Nat) (s : Int32 × Int32 × Int32), s.1 ≠ -1 → (l.foldl (goS w Nm Hr chg noise) s).1 = s.1 := by
  intro l
  induction l with
  | nil => intro s _; rfl
  | cons k l ih =>
    intro s hs
    rw [List.foldl_cons]
    have e : (goS w Nm Hr chg noise s k).1 = s.1 := by
      unfold goS
      split
      · rfl
      · exact if_neg (fun z => hs z.1)
    rw [ih _ (by rw [e]; exact hs), e]
theorem go_fs {w : LT} {Nm : Int32 → Nat → Int32} {Hr : Int32 → Bool} {chg : Bool} {noise : Int32} (h : chg = true → noise ≤ 0) : ∀ (d k : Nat) (s x : Int32), k + d < 2 ^ 31 → ((List.range' k d).foldl (goS w Nm Hr chg noise) (-1, s, x)).1 = (fsS w Nm Hr chg noise d k (s, x)).1.elim (-1) nI := by
  intro d
  induction d with
  | zero => intro k s x _; rfl
  | succ d ih =>
    intro k s x hk
    have eg : goS w Nm Hr chg noise (-1, s, x) k = if chg = true ∧ Nm (nI k) 8 = 0 then (-1, s, (adS w Nm Hr noise (nI k) x).2) else (if (-1 : Int32) = -1 ∧ ¬ s + (adS w Nm Hr noise (nI k) x).1 < liS w (Nm (nI k)) then nI k else -1, s + (adS w Nm Hr noise (nI k) x).1, (adS w Nm Hr noise (nI k) x).2) := rfl
    have ef : fsS w Nm Hr chg noise (d + 1) k (s, x) = if chg = true ∧ Nm (nI k) 8 = 0 then fsS w Nm Hr chg noise d (k + 1) (s, x) else if s + (adS w Nm Hr noise (nI k) x).1 < liS w (Nm (nI k)) then fsS w Nm Hr chg noise d (k + 1) (s + (adS w Nm Hr noise (nI k) x).1, (adS w Nm Hr noise (nI k) x).2) else (some k, s + (adS w Nm Hr noise (nI k) x).1) := rfl
    rw [List.range'_succ, List.foldl_cons, eg, ef]
    by_cases c : chg = true ∧ Nm (nI k) 8 = 0
    · rw [if_pos c, if_pos c]
      simp only [adS_0 (h c.1)]
      exact ih (k + 1) s x (by omega)
    · rw [if_neg c, if_neg c]
      by_cases c2 : s + (adS w Nm Hr noise (nI k) x).1 < liS w (Nm (nI k))
      · rw [if_pos c2, if_neg (fun z => z.2 c2)]
        exact ih (k + 1) _ _ (by omega)
      · rw [if_neg c2, if_pos ⟨rfl, c2⟩]
        rw [go_seen _ _ (show nI k ≠ -1 from nI_m1 (by omega))]
        rfl
theorem go_sum {w : LT} {Nm : Int32 → Nat → Int32} {Hr : Int32 → Bool} {noise : Int32} (h : noise ≤ 0) : ∀ (d k : Nat) (r s x : Int32), ((List.range' k d).foldl (goS w Nm Hr false noise) (r, s, x)).2.1 = suS w Nm Hr k d s := by
  intro d
  induction d with
  | zero => intro k r s x; rfl
  | succ d ih =>
    intro k r s x
    have eg : goS w Nm Hr false noise (r, s, x) k = (if r = -1 ∧ ¬ s + gnS w Nm Hr (nI k) < liS w (Nm (nI k)) then nI k else r, s + gnS w Nm Hr (nI k), x) := by
      unfold goS; simp only [Bool.false_eq_true, false_and, if_false, adS_0 h]
    rw [List.range'_succ, List.foldl_cons, eg, ih]
    unfold suS
    rw [List.range'_succ, List.foldl_cons]
def fiS (w : LT) (Nm : Int32 → Nat → Int32) (Hr : Int32 → Bool) (e : Nat) : Option Nat := (fsS w Nm Hr false 0 (e + 1) 0 (0, 0)).1
def totS (w : LT) (Nm : Int32 → Nat → Int32) (Hr : Int32 → Bool) (e : Nat) : Int32 := suS w Nm Hr 0 (e + 1) 0
theorem fiS_lt {w : LT} {Nm : Int32 → Nat → Int32} {Hr : Int32 → Bool} {e f : Nat} (h : fiS w Nm Hr e = some f) : f ≤ e := by
  have := (fs_sum (Int32.le_refl 0) (e + 1) 0 0 0 f h).2.1
  omega
def foS (w : LT) (Nm : Int32 → Nat → Int32) (e f : Nat) : Bool := !decide (nI e - nI f ≤ lasS w (Nm (nI e)) 2 0 999 999)
def unS (w : LT) (Nm : Int32 → Nat → Int32) (Hr : Int32 → Bool) (e : Nat) : Bool := !decide (lasS w (Nm (nI e)) 3 0 100000 0 ≤ totS w Nm Hr e)
def juS (w : LT) (Nm : Int32 → Nat → Int32) (Hr : Int32 → Bool) (e : Nat) : Int32 := (fiS w Nm Hr e).elim 0 fun f => if foS w Nm e f then (if unS w Nm Hr e then 7 else 3) else (if unS w Nm Hr e then 5 else 1)
/-- the state of the odd one to a looker by a law -/
def jdS (w : LT) (c : SV) (tk : Nat → Int32) (kn : Int32) (E : Int32 → Int32) : Int32 := if oddS c = -1 then 0 else juS w (fun τ => nmS c tk kn E 0 0 1 (oddS c) τ) (hrS c E (oddS c)) (endS c).toNatClampNeg
def yeS (st : Int32) : Nat → Bool
  | 0 => decide (st = 1)
  | 1 => decide (st &&& 5 = 1)
  | _ => !decide (st &&& 1 = 0)
theorem cYes (st : Int32) {a : Nat} (ha : a < 3) : mX8_isYes st (nI a) = some (bI (yeS st a)) := by
  unfold mX8_isYes
  match a, ha with
  | 0, _ => rw [if_pos (show nI 0 = 0 from rfl)]; unfold yeS; by_cases q : st = 1 <;> simp [q, bI]
  | 1, _ => rw [if_neg (by decide), if_pos (show nI 1 = 1 from rfl)]; unfold yeS; by_cases q : st &&& 5 = 1 <;> simp [q, bI]
  | 2, _ => rw [if_neg (by decide), if_neg (by decide)]; unfold yeS; by_cases q : st &&& 1 = 0 <;> simp [q, bI]
theorem Fs.sw {u v : HS} (h : Fs u v) : Fs u v := h
theorem cJudge {u : HS} {i q : Nat} {c : SV} {t' : Nat} {tk : Nat → Int32} {kn : Int32} {m : Nat} {E : Int32 → Int32} {w : LT} (h : VX u i c t' tk kn m E (-1) 0 1) (hq : LC u q w) (hw : LWF w) (h3 : gI u 4 0 3 = -1) (h5 : gI u 4 0 5 = 0) (hm : endS c = nI m) : ∃ u', mX4_judge u q = some (jdS w c tk kn E, u') ∧ Fs u u' := by
  have hm3 := h.1.2.2
  have hS := h.2.1
  have hc := hS.1.2.1
  have he9 : gI u 3 (gR u 1) 9 = oddS c := by rw [h.1.1]; exact hS.2.1.2.2.2.2.1
  have he11 : gI u 3 (gR u 1) 11 = nI m := by rw [h.1.1, hS.2.1.2.2.2.2.2.2]; exact hm
  have hem : (endS c).toNatClampNeg = m := by rw [hm, nI_clamp (by omega)]
  unfold mX4_judge jdS
  simp only [bd_q, jp_q, he9, he11, hem]
  by_cases c0 : oddS c = -1
  · rw [if_pos c0, if_pos c0, if_pos trivial]
    exact ⟨u, rfl, Fs.rf⟩
  · rw [if_neg c0, if_neg c0]
    rcases oddS_nI hc with z | ⟨t, ht, et⟩
    · exact absurd z c0
    · rw [et]
      have hsz : ((-1 : Int32) = -1 ∧ (0 : Int32) = 0) ∨ ((-1 : Int32) ≠ -1 ∧ (-1 : Int32) = 0 ∧ ¬ (0 : Int32) ≤ 0) := Or.inl ⟨rfl, rfl⟩
      obtain ⟨u1, e1, f1, g1⟩ := cFirst (noise := 0) (chg := false) h hq hw (by decide) hsz ht (Or.inl ⟨h3, rfl⟩) h5 (fun z => by cases z) hm
      obtain ⟨Nm, eNm⟩ : ∃ Nm : Int32 → Nat → Int32, Nm = fun τ => nmS c tk kn E 0 0 1 (nI t) τ := ⟨_, rfl⟩
      obtain ⟨Hr, eHr⟩ : ∃ Hr, Hr = hrS c E (nI t) := ⟨_, rfl⟩
      rw [← eNm, ← eHr] at e1 g1 ⊢
      rw [fsS_seed (Int32.le_refl 0) (m + 1) 0 0 (gI u 4 0 4) 0] at e1 g1
      unfold juS
      rw [show (fsS w Nm Hr false 0 (m + 1) 0 (0, 0)).1 = fiS w Nm Hr m from rfl] at e1
      cases hf : fiS w Nm Hr m with
      | none =>
        rw [hf] at e1
        rw [show (none : Option Nat).elim (-1) nI = -1 from rfl] at e1
        rw [e1]
        simp only [ob_q]
        rw [if_pos trivial]
        exact ⟨u1, rfl, f1⟩
      | some f =>
        rw [hf, show (some f).elim (-1) nI = nI f from rfl] at e1
        rw [e1]
        simp only [ob_q]
        have hfm := fiS_lt hf
        obtain ⟨-, -, s3⟩ := fs_sum (Int32.le_refl 0) (m + 1) 0 0 0 f hf
        rw [s3] at g1
        simp only [Option.elim]
        rw [if_neg (show ¬ nI f = -1 from nI_m1 (by omega)), nI_1]
        obtain ⟨u2, e2, f2, -, g2⟩ := cAdd (h.fs f1) (hq.fs f1) hw (by decide) hsz ht (a := f + 1) (b := m) (Nat.le_refl _) (by omega)
        rw [← eNm, ← eHr, g1] at g2
        have hF2 := f1.tr f2
        have htot : gI u2 4 0 2 = totS w Nm Hr m := by
          rw [g2]
          unfold totS
          have := suS_add (w := w) (Nm := Nm) (Hr := Hr) (a := 0) (d := f + 1 - 0) (d' := m + 1 - (f + 1)) (s := 0)
          rw [show 0 + (f + 1 - 0) = f + 1 by omega, show f + 1 - 0 + (m + 1 - (f + 1)) = m + 1 by omega] at this
          exact this
        rw [e2]
        simp only [ob_q]
        obtain ⟨u3, -, e3, f3, g3, -, n3, -⟩ := cTenth (h.fs hF2) (hq.fs hF2) hw (by decide) hsz ht (Nat.le_refl m)
        have hF3 := hF2.tr f3
        rw [e3]
        simp only [ob_q]
        have n3' : ∀ j, j < 11 → gI u3 48 0 j = Nm (nI m) j := fun j hj => by rw [n3 j hj, eNm]
        obtain ⟨u4, e4, f4⟩ := cLast (nm := Nm (nI m)) (hq.fs hF3) hw n3' 2 0 999 999 (by decide)
        have hF4 := hF3.tr (Fs.of44 f4)
        rw [e4]
        simp only [ob_q]
        obtain ⟨u5, e5, f5⟩ := cLast (nm := Nm (nI m)) (hq.fs hF4) hw (fun j hj => by rw [f4.m1 (by decide) (by decide)]; exact n3' j hj) 3 0 100000 0 (by decide)
        have hF5 := hF4.tr (Fs.of44 f5)
        have hs4 : gI u4 4 0 2 = totS w Nm Hr m := by rw [f4.m1 (by decide) (by decide), g3]; exact htot
        refine ⟨u5, ?_, hF5⟩
        unfold foS unS
        by_cases c1 : nI m - nI f ≤ lasS w (Nm (nI m)) 2 0 999 999
        · rw [if_pos c1]
          simp only [ob_q]
          rw [e5]
          simp only [ob_q, hs4]
          by_cases c2 : lasS w (Nm (nI m)) 3 0 100000 0 ≤ totS w Nm Hr m
          · simp [c1, c2, show (1 : Int32) ||| 4 = 5 from rfl, show (1 : Int32) ||| 2 = 3 from rfl, show (3 : Int32) ||| 4 = 7 from rfl]
          · simp [c1, c2, show (1 : Int32) ||| 4 = 5 from rfl, show (1 : Int32) ||| 2 = 3 from rfl, show (3 : Int32) ||| 4 = 7 from rfl]
        · rw [if_neg c1]
          simp only [ob_q]
          rw [e5]
          simp only [ob_q, hs4]
          by_cases c2 : lasS w (Nm (nI m)) 3 0 100000 0 ≤ totS w Nm Hr m
          · simp [c1, c2, show (1 : Int32) ||| 4 = 5 from rfl, show (1 : Int32) ||| 2 = 3 from rfl, show (3 : Int32) ||| 4 = 7 from rfl]
          · simp [c1, c2, show (1 : Int32) ||| 4 = 5 from rfl, show (1 : Int32) ||| 2 = 3 from rfl, show (3 : Int32) ||| 4 = 7 from rfl]
/-! the reference -/
theorem rSeenOf {u : HS} {l q : Nat} {c : SV} {tk : Nat → Int32} {kn : Int32} {E : Int32 → Int32} {w : LT} (h : LY u l c tk kn E) (hc : SWF c) (hq : LR u q w) (hw : LWF w) (hsl : gI u 9 0 40 ≠ 0) {t : Nat} (ht : t < sT c) {e : Nat} (he : endS c = nI e) (he3 : e < 300) : ∃ u', mX9_seenOf u (nI q) (nI l) (nI t) = some ((fiS w (fun τ => nmS c tk kn E (gI u 9 0 38) (gI u 9 0 39) (gI u 9 0 40) (nI t) τ) (hrS c E (nI t)) e).elim (-1) nI, u') ∧ Fr [78, 79] [41, 42] u u' ∧ gI u' 9 0 41 = (fiS w (fun τ => nmS c tk kn E (gI u 9 0 38) (gI u 9 0 39) (gI u 9 0 40) (nI t) τ) (hrS c E (nI t)) e).elim (-1) nI ∧ gI u' 9 0 42 = totS w (fun τ => nmS c tk kn E (gI u 9 0 38) (gI u 9 0 39) (gI u 9 0 40) (nI t) τ) (hrS c E (nI t)) e := by
  unfold mX9_seenOf
  obtain ⟨u1, e1, f1, g1, g2⟩ := rGoes h hc hq hw hsl ht 0 0 (by decide) false he he3
  rw [show bI false = 0 from rfl] at e1
  rw [e1]
  simp only [ob_q]
  rw [List.range_eq_range', go_fs (fun z => by cases z) (e + 1) 0 0 0 (by omega)] at g1
  rw [List.range_eq_range', go_sum (Int32.le_refl 0)] at g2
  exact ⟨u1, by rw [g1]; rfl, f1, g1, g2⟩
theorem rForg {u : HS} {l q : Nat} {c : SV} {tk : Nat → Int32} {kn : Int32} {E : Int32 → Int32} {w : LT} (h : LY u l c tk kn E) (hq : LR u q w) (hw : LWF w) (hsl : gI u 9 0 40 ≠ 0) {t : Nat} (ht : t < sT c) (ho : oddS c = nI t) {e f : Nat} (he : endS c = nI e) (hf : gI u 9 0 41 = nI f) : ∃ u', mX9_isForgotten u (nI q) (nI l) = some (bI (foS w (fun τ => nmS c tk kn E (gI u 9 0 38) (gI u 9 0 39) (gI u 9 0 40) (nI t) τ) e f), u') ∧ Fr [78, 79] [] u u' := by
  have hl : l < 15 := by obtain ⟨⟨s, t, nr, nb, ⟨a0, a1, a2, a3⟩, _⟩, -⟩ := h; exact a2
  obtain ⟨s, hs, e81⟩ := h.1.rs
  unfold mX9_isForgotten
  obtain ⟨u1, e1, f1, n1⟩ := rNames h.1 hsl ht (nI e)
  simp only [ck_nI hl (show 15 < 2 ^ 31 by decide), c8_0, ob_q, e81, rEnd hs, rOdd hs, he, ho, e1]
  obtain ⟨u2, e2, f2⟩ := rLast (hq.fr f1 (by decide)) hw n1 2 0 999 999
  rw [e2]
  simp only [ob_q, bd_q]
  rw [f1.2.1 41 (by simp), hf]
  unfold foS
  refine ⟨u2, ?_, (f1.mo (by decide) (by decide)).tr (f2.mo (by decide) (by decide))⟩
  by_cases c1 : nI e - nI f ≤ lasS w (nmS c tk kn E (gI u 9 0 38) (gI u 9 0 39) (gI u 9 0 40) (nI t) (nI e)) 2 0 999 999 <;> simp [c1, bI]
theorem rUns {u : HS} {l q : Nat} {c : SV} {tk : Nat → Int32} {kn : Int32} {E : Int32 → Int32} {w : LT} (h : LY u l c tk kn E) (hq : LR u q w) (hw : LWF w) (hsl : gI u 9 0 40 ≠ 0) {t : Nat} (ht : t < sT c) (ho : oddS c = nI t) {e : Nat} (he : endS c = nI e) (hg : gI u 9 0 42 = totS w (fun τ => nmS c tk kn E (gI u 9 0 38) (gI u 9 0 39) (gI u 9 0 40) (nI t) τ) (hrS c E (nI t)) e) : ∃ u', mX9_isUnsure u (nI q) (nI l) = some (bI (unS w (fun τ => nmS c tk kn E (gI u 9 0 38) (gI u 9 0 39) (gI u 9 0 40) (nI t) τ) (hrS c E (nI t)) e), u') ∧ Fr [78, 79] [] u u' := by
  have hl : l < 15 := by obtain ⟨⟨s, t, nr, nb, ⟨a0, a1, a2, a3⟩, _⟩, -⟩ := h; exact a2
  obtain ⟨s, hs, e81⟩ := h.1.rs
  unfold mX9_isUnsure
  obtain ⟨u1, e1, f1, n1⟩ := rNames h.1 hsl ht (nI e)
  simp only [ck_nI hl (show 15 < 2 ^ 31 by decide), c8_0, ob_q, e81, rEnd hs, rOdd hs, he, ho, e1]
  obtain ⟨u2, e2, f2⟩ := rLast (hq.fr f1 (by decide)) hw n1 3 0 100000 0
  rw [e2]
  simp only [ob_q, bd_q]
  rw [f1.2.1 42 (by simp), hg]
  unfold unS
  refine ⟨u2, ?_, (f1.mo (by decide) (by decide)).tr (f2.mo (by decide) (by decide))⟩
  by_cases c1 : lasS w (nmS c tk kn E (gI u 9 0 38) (gI u 9 0 39) (gI u 9 0 40) (nI t) (nI e)) 3 0 100000 0 ≤ totS w (fun τ => nmS c tk kn E (gI u 9 0 38) (gI u 9 0 39) (gI u 9 0 40) (nI t) τ) (hrS c E (nI t)) e <;> simp [c1, bI]
theorem rSays {u : HS} {l q : Nat} {c : SV} {tk : Nat → Int32} {kn : Int32} {E : Int32 → Int32} {w : LT} (h : LY u l c tk kn E) (hc : SWF c) (hq : LR u q w) (hw : LWF w) (h38 : gI u 9 0 38 = 0) (h39 : gI u 9 0 39 = 0) (h40 : gI u 9 0 40 = 1) {a : Nat} (ha : a < 3) : ∃ u', mX9_saysBy u (nI q) (nI l) (nI a) = some (bI (yeS (jdS w c tk kn E) a), u') ∧ Fr [78, 79] [41, 42] u u' := by
  have hh := h
  have hl : l < 15 := by obtain ⟨⟨s, t, nr, nb, ⟨a0, a1, a2, a3⟩, _⟩, -⟩ := h; exact a2
  obtain ⟨s, hs, e81⟩ := h.1.rs
  obtain ⟨e, he3, he⟩ := endS_nI hc
  have hem : (endS c).toNatClampNeg = e := by rw [he, nI_clamp (by omega)]
  unfold mX9_saysBy jdS
  simp only [ck_nI hl (show 15 < 2 ^ 31 by decide), c8_0, ob_q, bd_q, e81, rOdd hs, hem]
  rcases oddS_nI hc with z | ⟨t, ht, et⟩
  · rw [z, if_pos rfl, if_pos rfl]
    refine ⟨u, ?_, Fr.rf⟩
    match a, ha with
    | 0, _ => rfl
    | 1, _ => rfl
    | 2, _ => rfl
  · rw [et, if_neg (nI_m1 (by have := hs.2.2.1; omega)), if_neg (nI_m1 (by have := hs.2.2.1; omega))]
    obtain ⟨u1, e1, f1, g1, g2⟩ := rSeenOf h hc hq hw (by rw [h40]; decide) ht he he3
    have k38 : gI u1 9 0 38 = 0 := by rw [f1.2.1 38 (by simp)]; exact h38
    have k39 : gI u1 9 0 39 = 0 := by rw [f1.2.1 39 (by simp)]; exact h39
    have k40 : gI u1 9 0 40 = 1 := by rw [f1.2.1 40 (by simp)]; exact h40
    rw [h38, h39, h40] at e1 g1 g2
    obtain ⟨Nm, eNm⟩ : ∃ Nm : Int32 → Nat → Int32, Nm = fun τ => nmS c tk kn E 0 0 1 (nI t) τ := ⟨_, rfl⟩
    obtain ⟨Hr, eHr⟩ : ∃ Hr, Hr = hrS c E (nI t) := ⟨_, rfl⟩
    rw [← eNm, ← eHr] at e1 g1 g2 ⊢
    rw [e1]
    simp only [ob_q]
    unfold juS
    cases hf : fiS w Nm Hr e with
    | none =>
      rw [if_pos (show (none : Option Nat).elim (-1) nI = -1 from rfl)]
      refine ⟨u1, ?_, f1⟩
      simp only [Option.elim]
      match a, ha with
      | 0, _ => rfl
      | 1, _ => rfl
      | 2, _ => rfl
    | some f =>
      have hfe := fiS_lt hf
      rw [if_neg (show ¬ (some f).elim (-1) nI = -1 from nI_m1 (by omega))]
      rw [hf] at g1
      have hY1 : LY u1 l c tk kn E := hh.fr f1 (by decide) (by decide)
      have hq1 : LR u1 q w := hq.fr f1 (by decide)
      by_cases ca : a = 2
      · subst ca
        rw [if_pos (show nI 2 = 2 from rfl)]
        refine ⟨u1, ?_, f1⟩
        simp only [Option.elim]
        cases foS w Nm e f <;> cases unS w Nm Hr e <;> rfl
      · rw [if_neg (show ¬ nI a = 2 from fun y => ca ((nI_eq (b := 2) (by omega) (by decide)).mp y))]
        obtain ⟨u2, e2, f2⟩ := rUns hY1 hq1 hw (by rw [k40]; decide) ht et he (by rw [k38, k39, k40, ← eNm, ← eHr]; exact g2)
        rw [k38, k39, k40, ← eNm, ← eHr] at e2
        have f02 := f1.tr (f2.mo (L' := [78, 79]) (K' := [41, 42]) (by decide) (by decide))
        rw [e2]
        simp only [ob_q, bI_0]
        cases hu : unS w Nm Hr e with
        | true =>
          rw [if_neg (by decide)]
          refine ⟨u2, ?_, f02⟩
          simp only [Option.elim]
          have h01 : a = 0 ∨ a = 1 := by omega
          rcases h01 with rfl | rfl
          · cases foS w Nm e f <;> rfl
          · cases foS w Nm e f <;> rfl
        | false =>
          rw [if_pos rfl]
          by_cases ca1 : a = 1
          · subst ca1
            rw [if_pos (show nI 1 = 1 from rfl)]
            refine ⟨u2, ?_, f02⟩
            simp only [Option.elim]
            cases foS w Nm e f <;> rfl
          · have ca0 : a = 0 := by omega
            subst ca0
            rw [if_neg (by decide)]
            have hY2 : LY u2 l c tk kn E := hh.fr f02 (by decide) (by decide)
            have k38' : gI u2 9 0 38 = 0 := by rw [f02.2.1 38 (by simp)]; exact h38
            have k39' : gI u2 9 0 39 = 0 := by rw [f02.2.1 39 (by simp)]; exact h39
            have k40' : gI u2 9 0 40 = 1 := by rw [f02.2.1 40 (by simp)]; exact h40
            obtain ⟨u3, e3, f3⟩ := rForg hY2 (hq.fr f02 (by decide)) hw (by rw [k40']; decide) ht et he (f := f) (by rw [f2.2.1 41 (by simp), g1]; rfl)
            rw [k38', k39', k40', ← eNm] at e3
            rw [e3]
            simp only [ob_q, bI_0]
            refine ⟨u3, ?_, f02.tr (f3.mo (by decide) (by decide))⟩
            simp only [Option.elim]
            cases foS w Nm e f <;> rfl
