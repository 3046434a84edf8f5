/-! ===== the class's hall: lookers, eyes, blinks ===== -/
def HL (u : HS) (i n : Nat) (lk : Nat → Nat → Int32) : Prop := n ≤ 14 ∧ gI u 0 i 0 = nI n ∧ ∀ l, l < n → gI u 20 i l = lk l 0 ∧ gI u 21 i l = lk l 1 ∧ ((gI u 0 i 3 >>> (nI l &&& 31)) &&& 1) = lk l 2 ∧ (∀ a, a < 3 → gI u 22 i (3 * l + a) = lk l (3 + a)) ∧ gI u 23 i l = lk l 6 ∧ gI u 24 i l = lk l 7
def HE (u : HS) (i n : Nat) (ey : Nat → Nat → Int32) : Prop := n ≤ 60 ∧ gI u 0 i 7 = nI n ∧ ∀ r, r < n → gI u 25 i r = ey r 0 ∧ gI u 26 i r = ey r 1 ∧ gI u 27 i r = 100 * ey r 2 + ey r 3
def HB (u : HS) (i n : Nat) (bl : Nat → Nat → Int32) : Prop := n ≤ 40 ∧ gI u 0 i 11 = nI n ∧ ∀ b, b < n → gI u 28 i b = bl b 0 ∧ gI u 29 i b = bl b 1 ∧ gI u 30 i b = bl b 2
def HW (u : HS) (i : Nat) (wt : Nat → Int32) (sl : Int32) : Prop := (∀ l, l < 4 → gI u 31 i l = wt l) ∧ gI u 0 i 16 = sl
def VL (ns nt n : Nat) (lk : Nat → Nat → Int32) : Prop := ∀ l, l < n → (∃ s, s < ns ∧ lk l 0 = nI s) ∧ (∃ t, t < nt ∧ lk l 1 = nI t) ∧ (lk l 2 = 0 ∨ lk l 2 = 1) ∧ (∀ a, a < 3 → lk l (3 + a) = -1 ∨ lk l (3 + a) = 0 ∨ lk l (3 + a) = 1) ∧ (lk l 6 = -1 ∨ ∃ v, v < 1000 ∧ lk l 6 = nI v) ∧ (lk l 7 = -1 ∨ ∃ v, v < 101 ∧ lk l 7 = nI v)
def VE (nr : Nat) (ey : Nat → Nat → Int32) : Prop := ∀ r, r < nr → (∃ l, l < 14 ∧ ey r 0 = nI l) ∧ (∃ a, a < 300 ∧ ey r 1 = nI a) ∧ (∃ x, x < 40 ∧ ey r 2 = nI x) ∧ ∃ y, y < 30 ∧ ey r 3 = nI y
def VB (nb : Nat) (bl : Nat → Nat → Int32) : Prop := ∀ b, b < nb → (∃ l, l < 14 ∧ bl b 0 = nI l) ∧ ∃ a z, a ≤ z ∧ z < 300 ∧ bl b 1 = nI a ∧ bl b 2 = nI z
theorem VE.pl {nr : Nat} {ey : Nat → Nat → Int32} (h : VE nr ey) {r : Nat} (hr : r < nr) : ∃ X Y, X < 40 ∧ Y < 30 ∧ 100 * ey r 2 + ey r 3 = nI (X * 100 + Y) := by
  obtain ⟨-, -, ⟨x, hx, e1⟩, ⟨y, hy, e2⟩⟩ := h r hr
  exact ⟨x, y, hx, hy, by rw [e1, e2, Int32.mul_comm, show (nI x * 100 : Int32) = nI (x * 100) from pk_mul x 100, nI_add]⟩
theorem cShut {u : HS} {s e : Nat} (he : e < 300) (hs : s < 300) : ∃ u', mX7_shut u (nI s) (nI e) = some u' ∧ Fr [46] [] u u' ∧ ∀ τ, gI u' 46 0 τ = if s ≤ τ ∧ τ ≤ e then -1 else gI u 46 0 τ := by
  unfold mX7_shut
  simp only [jp_q]
  by_cases hse : s ≤ e + 1
  · refine loopR (fun fu a x => mX7_shut_L2 (nI e) (fun a => some a) fu x a) (e + 1) s (fun k a => Fr [46] [] u a ∧ ∀ τ, gI a 46 0 τ = if s ≤ τ ∧ τ < k then -1 else gI u 46 0 τ) (fun o => ∃ u', o = some u' ∧ Fr [46] [] u u' ∧ ∀ τ, gI u' 46 0 τ = if s ≤ τ ∧ τ ≤ e then -1 else gI u 46 0 τ) ?_ ?_ (e + 1 - s) s u FU (Nat.le_refl _) (by omega) (FU_lt (by omega)) ⟨Fr.rf, fun τ => by rw [if_neg (by omega)]⟩
    · intro fu a k hk0 hk ⟨h1, h2⟩ ih
      show ∃ u', mX7_shut_L2 (nI e) (fun a => some a) (fu + 1) (nI k) a = some u' ∧ _
      rw [mX7_shut_L2.eq_2, if_neg (n1le he hk), if_neg (n300' (by omega)), ck_nI (show k < 300 by omega) (by decide)]
      simp only [ob_q, bd_q, nI_1]
      refine ih _ ⟨h1.sI (by decide) (by decide), fun τ => ?_⟩
      rw [gI_wI]
      by_cases c : τ = k
      · rw [if_pos ⟨rfl, rfl, c⟩, if_pos (by omega)]
      · rw [if_neg (fun q => c q.2.2), h2 τ]
        by_cases c2 : s ≤ τ ∧ τ < k
        · rw [if_pos c2, if_pos (by omega)]
        · rw [if_neg c2, if_neg (by omega)]
    · intro fu a ⟨h1, h2⟩
      show ∃ u', mX7_shut_L2 (nI e) (fun a => some a) (fu + 1) (nI (e + 1)) a = some u' ∧ _
      rw [mX7_shut_L2.eq_2, if_pos (nI_lt (by omega) (by omega))]
      refine ⟨a, rfl, h1, fun τ => ?_⟩
      rw [h2 τ]
      by_cases c2 : s ≤ τ ∧ τ < e + 1
      · rw [if_pos c2, if_pos (by omega)]
      · rw [if_neg c2, if_neg (by omega)]
  · refine ⟨u, ?_, Fr.rf, fun τ => by rw [if_neg (by omega)]⟩
    rw [show FU = 4095 + 1 from rfl, mX7_shut_L2.eq_2, if_pos (nI_lt (by omega) (by omega))]
theorem min_nI {a b : Nat} (ha : a < 2 ^ 31) (hb : b < 2 ^ 31) : (if nI a < nI b then nI a else nI b) = nI (min a b) := by
  by_cases h : a < b
  · rw [if_pos (nI_lt h hb), Nat.min_eq_left (by omega)]
  · rw [if_neg (nI_nlt (by omega) ha), Nat.min_eq_right (by omega)]
theorem HE.fr {u v : HS} {i n : Nat} {ey : Nat → Nat → Int32} {L K : List Nat} (h : HE u i n ey) (hF : Fr L K u v) (hL : 0 ∉ L ∧ 25 ∉ L ∧ 26 ∉ L ∧ 27 ∉ L) : HE v i n ey := by
  unfold HE; rw [hF.m1 hL.1 (by decide), hF.m1 hL.2.1 (by decide), hF.m1 hL.2.2.1 (by decide), hF.m1 hL.2.2.2 (by decide)]; exact h
theorem HB.fr {u v : HS} {i n : Nat} {bl : Nat → Nat → Int32} {L K : List Nat} (h : HB u i n bl) (hF : Fr L K u v) (hL : 0 ∉ L ∧ 28 ∉ L ∧ 29 ∉ L ∧ 30 ∉ L) : HB v i n bl := by
  unfold HB; rw [hF.m1 hL.1 (by decide), hF.m1 hL.2.1 (by decide), hF.m1 hL.2.2.1 (by decide), hF.m1 hL.2.2.2 (by decide)]; exact h
theorem cHeedT {u : HS} {l m nr : Nat} {ey : Nat → Nat → Int32} (w : HS → Option HS) (hm : m < 300) (h : HE u 0 nr ey) (hv : VE nr ey) (h0 : ∀ τ, τ ≤ m → gI u 47 0 τ = -1) : ∃ u', mX7_heed_L8 0 (nI l) w FU 0 u = w u' ∧ Fr [47] [] u u' ∧ ∀ τ, τ ≤ m → gI u' 47 0 τ = (exO (fun k => decide (ey k 0 = nI l)) (fun k => ey k 1) nr τ).elim (-1) fun k => 100 * ey k 2 + ey k 3 := by
  have hh := h
  obtain ⟨h1, h2, h3⟩ := h
  have key : ∃ u', mX7_heed_L8 0 (nI l) w FU (nI 0) u = w u' ∧ Fr [47] [] u u' ∧ ∀ τ, τ ≤ m → gI u' 47 0 τ = (List.range nr).foldl (fun v k => if (decide (ey k 0 = nI l) && decide (ey k 1 = nI τ)) = true then 100 * ey k 2 + ey k 3 else v) (-1) := by
    refine loopR (fun fu a y => mX7_heed_L8 0 (nI l) w fu y a) nr 0 (fun j a => Fr [47] [] u a ∧ ∀ τ, τ ≤ m → gI a 47 0 τ = (List.range j).foldl (fun v k => if (decide (ey k 0 = nI l) && decide (ey k 1 = nI τ)) = true then 100 * ey k 2 + ey k 3 else v) (-1)) (fun o => ∃ u', o = w u' ∧ Fr [47] [] u u' ∧ ∀ τ, τ ≤ m → gI u' 47 0 τ = (List.range nr).foldl (fun v k => if (decide (ey k 0 = nI l) && decide (ey k 1 = nI τ)) = true then 100 * ey k 2 + ey k 3 else v) (-1)) ?_ ?_ nr 0 u FU (Nat.le_refl _) (by omega) (FU_lt (by omega)) ⟨Fr.rf, fun τ hτ => by rw [h0 τ hτ]; rfl⟩
    · intro fu a k _ hk ⟨hF, hT⟩ ih
      show ∃ u', mX7_heed_L8 0 (nI l) w (fu + 1) (nI k) a = w u' ∧ _
      obtain ⟨q1, q2, q3⟩ := hh.fr hF (by decide)
      obtain ⟨e1, e2, e3⟩ := q3 k hk
      obtain ⟨-, ⟨b, hb, f1⟩, -⟩ := hv k hk
      rw [mX7_heed_L8.eq_2, q2, if_neg (nI_ge hk (by omega)), ck_nI (show k < 60 by omega) (by decide)]
      simp only [ob_q, bd_q, nI_1, e1, e2, e3, f1, ck_nI hb (show 300 < 2 ^ 31 by decide)]
      by_cases c : ey k 0 = nI l
      · rw [if_pos c]
        simp only [ob_q]
        refine ih _ ⟨hF.sI (by decide) (by decide), fun τ hτ => ?_⟩
        rw [List.range_succ, List.foldl_append]
        simp only [List.foldl_cons, List.foldl_nil, c, decide_true, Bool.true_and, decide_eq_true_eq, f1]
        rw [gI_wI]
        by_cases c1 : τ = b
        · rw [if_pos ⟨rfl, rfl, c1⟩, if_pos (by rw [c1])]
        · rw [if_neg (fun q => c1 q.2.2), if_neg (fun q => c1 ((nI_eq (by omega) (by omega)).mp q).symm)]; exact hT τ hτ
      · rw [if_neg c]
        simp only [ob_q]
        refine ih a ⟨hF, fun τ hτ => ?_⟩
        rw [List.range_succ, List.foldl_append, hT τ hτ]
        simp only [List.foldl_cons, List.foldl_nil, c, decide_false, Bool.false_and, Bool.false_eq_true, if_false]
    · intro fu a ⟨hF, hT⟩
      show ∃ u', mX7_heed_L8 0 (nI l) w (fu + 1) (nI nr) a = w u' ∧ _
      obtain ⟨q1, q2, q3⟩ := hh.fr hF (by decide)
      rw [mX7_heed_L8.eq_2, q2, if_pos (nI_le (Nat.le_refl _) (by omega))]
      exact ⟨a, rfl, hF, hT⟩
  obtain ⟨u', q1, q2, q3⟩ := key
  refine ⟨u', q1, q2, fun τ hτ => ?_⟩
  rw [q3 τ hτ]
  exact foldl_elim (P := fun k => decide (ey k 0 = nI l) && decide (ey k 1 = nI τ)) (f := fun k => 100 * ey k 2 + ey k 3) (d := -1) _ none
theorem cHeed {u : HS} {l m nr nb : Nat} {ey bl : Nat → Nat → Int32} (hm : m < 300) (h : HE u 0 nr ey) (hv : VE nr ey) (hB : HB u 0 nb bl) (hvb : VB nb bl) : ∃ u', mX7_heed u 0 (nI l) (nI m) = some u' ∧ Fr [46, 47] [] u u' ∧ ∀ τ, τ ≤ m → gI u' 46 0 τ = if shutS bl nb (nI l) (nI τ) then -1 else (eyeO ey nr (nI l) (nI τ)).elim (gI u 46 0 τ) fun k => 100 * ey k 2 + ey k 3 := by
  unfold mX7_heed
  obtain ⟨u1, e1, hF1, h1⟩ := cClear (u := u) hm
  rw [e1]
  simp only [ob_q, jp_q]
  have h47 : (46 : Nat) ∉ [47] := by decide
  obtain ⟨u2, e2, hF2, h2⟩ := cHeedT (l := l) (fun u105 => mX7_heed_L59 (nI m) (fun u110 => mX7_heed_L132 0 (nI l) (nI m) (fun u114 => some u114) FU 0 u110) FU (-1) 0 u105) hm (h.fr hF1 (by decide)) hv h1
  rw [e2]
  have hF12 : Fr [46, 47] [] u u2 := (hF1.mo (by decide) (by decide)).tr (hF2.mo (by decide) (by decide))
  have g46 : gI u2 46 = gI u 46 := (hF2.m1 h47 (by decide)).trans (hF1.m1 h47 (by decide))
  have htm : ∀ k, k < nr → (fun k => decide (ey k 0 = nI l)) k = true → ∃ a, a < 300 ∧ (fun k => ey k 1) k = nI a := fun k hk _ => (hv k hk).2.1
  -- what rows tell
  have key : ∃ u3, mX7_heed_L59 (nI m) (fun u110 => mX7_heed_L132 0 (nI l) (nI m) (fun u114 => some u114) FU 0 u110) FU (-1) (nI 0) u2 = mX7_heed_L132 0 (nI l) (nI m) (fun u114 => some u114) FU 0 u3 ∧ Fr [46] [] u2 u3 ∧ ∀ τ, τ ≤ m → gI u3 46 0 τ = (eyeO ey nr (nI l) (nI τ)).elim (gI u 46 0 τ) fun k => 100 * ey k 2 + ey k 3 := by
    refine loopR (fun fu (a : Int32 × HS) y => mX7_heed_L59 (nI m) (fun u110 => mX7_heed_L132 0 (nI l) (nI m) (fun u114 => some u114) FU 0 u110) fu a.1 y a.2) (m + 1) 0 (fun k a => a.1 = (if k = 0 then -1 else (laO (fun k => decide (ey k 0 = nI l)) (fun k => ey k 1) nr (nI (k - 1))).elim (-1) fun k => 100 * ey k 2 + ey k 3) ∧ Fr [46] [] u2 a.2 ∧ (∀ τ, τ < k → gI a.2 46 0 τ = (eyeO ey nr (nI l) (nI τ)).elim (gI u 46 0 τ) fun k => 100 * ey k 2 + ey k 3) ∧ ∀ τ, k ≤ τ → gI a.2 46 0 τ = gI u 46 0 τ) (fun o => ∃ u3, o = mX7_heed_L132 0 (nI l) (nI m) (fun u114 => some u114) FU 0 u3 ∧ Fr [46] [] u2 u3 ∧ ∀ τ, τ ≤ m → gI u3 46 0 τ = (eyeO ey nr (nI l) (nI τ)).elim (gI u 46 0 τ) fun k => 100 * ey k 2 + ey k 3) ?_ ?_ (m + 1) 0 (-1, u2) FU (Nat.le_refl _) (by omega) (FU_lt (by omega)) ⟨rfl, Fr.rf, fun τ h => absurd h (by omega), fun τ _ => by show gI u2 46 0 τ = _; rw [g46]⟩
    · intro fu ⟨H, a⟩ k _ hk ⟨hH, hFa, hE, hO⟩ ih
      show ∃ u', mX7_heed_L59 (nI m) _ (fu + 1) H (nI k) a = mX7_heed_L132 0 (nI l) (nI m) (fun u114 => some u114) FU 0 u' ∧ _
      have g47 : gI a 47 = gI u2 47 := hFa.m1 (by decide) (by decide)
      rw [mX7_heed_L59.eq_2, if_neg (n1le hm hk), if_neg (n300' (by omega)), ck_nI (show k < 300 by omega) (by decide)]
      simp only [ob_q, bd_q, nI_1, g47]
      have hst := held_step (p := fun k => decide (ey k 0 = nI l)) (tm := fun k => ey k 1) (N := nr) htm (f := fun k => 100 * ey k 2 + ey k 3) (fun q hq _ => by obtain ⟨X, Y, hX, hY, e⟩ := hv.pl hq; rw [e]; exact nI_m1 (by omega)) (τ := k) (by omega) (T := gI u2 47 0 k) (H := H) (h2 k (by omega)) hH
      rw [show (if gI u2 47 0 k = -1 then some H else some (gI u2 47 0 k) : Option Int32) = some (if gI u2 47 0 k = -1 then H else gI u2 47 0 k) by split <;> rfl, hst]
      simp only [ob_q]
      have hp : (if (laO (fun k => decide (ey k 0 = nI l)) (fun k => ey k 1) nr (nI k)).elim (-1) (fun k => 100 * ey k 2 + ey k 3) = -1 then some (gI a 46 0 k) else some ((laO (fun k => decide (ey k 0 = nI l)) (fun k => ey k 1) nr (nI k)).elim (-1) fun k => 100 * ey k 2 + ey k 3) : Option Int32) = some ((eyeO ey nr (nI l) (nI k)).elim (gI u 46 0 k) fun k => 100 * ey k 2 + ey k 3) := by
        have ee : eyeO ey nr (nI l) (nI k) = laO (fun k => decide (ey k 0 = nI l)) (fun k => ey k 1) nr (nI k) := rfl
        rw [ee]
        cases hl : laO (fun k => decide (ey k 0 = nI l)) (fun k => ey k 1) nr (nI k) with
        | none =>
          simp only [Option.elim, if_true]
          rw [show gI a 46 0 k = gI u 46 0 k from hO k (Nat.le_refl _)]
        | some q =>
          obtain ⟨X, Y, hX, hY, e⟩ := hv.pl (laO_lt hl).1
          exact if_neg (show ¬ (100 * ey q 2 + ey q 3 = -1) by rw [e]; exact nI_m1 (by omega))
      rw [hp]
      simp only [ob_q]
      refine ih (_, _) ⟨?_, hFa.sI (by decide) (by decide), fun τ hτ => ?_, fun τ hτ => ?_⟩
      · show (laO (fun k => decide (ey k 0 = nI l)) (fun k => ey k 1) nr (nI k)).elim (-1) (fun k => 100 * ey k 2 + ey k 3) = _
        rw [if_neg (by omega), Nat.add_sub_cancel]
      · show gI (wI a 46 0 k _) 46 0 τ = _
        rw [gI_wI]
        by_cases c1 : τ = k
        · rw [if_pos ⟨rfl, rfl, c1⟩, c1]
        · rw [if_neg (fun q => c1 q.2.2)]; exact hE τ (by omega)
      · show gI (wI a 46 0 k _) 46 0 τ = _
        rw [gI_wI, if_neg (fun q => by omega)]; exact hO τ (by omega)
    · intro fu ⟨H, a⟩ ⟨hH, hFa, hE, hO⟩
      show ∃ u', mX7_heed_L59 (nI m) _ (fu + 1) H (nI (m + 1)) a = mX7_heed_L132 0 (nI l) (nI m) (fun u114 => some u114) FU 0 u' ∧ _
      rw [mX7_heed_L59.eq_2, if_pos (nI_lt (by omega) (by omega))]
      exact ⟨a, rfl, hFa, fun τ h => hE τ (by omega)⟩
  obtain ⟨u3, e3, hF3, h3⟩ := key
  rw [show mX7_heed_L59 (nI m) (fun u110 => mX7_heed_L132 0 (nI l) (nI m) (fun u114 => some u114) FU 0 u110) FU (-1) 0 u2 = mX7_heed_L132 0 (nI l) (nI m) (fun u114 => some u114) FU 0 u3 from e3]
  have hF13 : Fr [46, 47] [] u u3 := hF12.tr (hF3.mo (by decide) (by decide))
  -- blinks
  refine loopR (fun fu a y => mX7_heed_L132 0 (nI l) (nI m) (fun u114 => some u114) fu y a) nb 0 (fun j a => Fr [46] [] u3 a ∧ ∀ τ, τ ≤ m → gI a 46 0 τ = if shutS bl j (nI l) (nI τ) then -1 else gI u3 46 0 τ) (fun o => ∃ u', o = some u' ∧ Fr [46, 47] [] u u' ∧ ∀ τ, τ ≤ m → gI u' 46 0 τ = if shutS bl nb (nI l) (nI τ) then -1 else (eyeO ey nr (nI l) (nI τ)).elim (gI u 46 0 τ) fun k => 100 * ey k 2 + ey k 3) ?_ ?_ nb 0 u3 FU (Nat.le_refl _) (by omega) (FU_lt (by have := hB.1; omega)) ⟨Fr.rf, fun τ hτ => rfl⟩
  · intro fu a k _ hk ⟨hF, hT⟩ ih
    show ∃ u', mX7_heed_L132 0 (nI l) (nI m) (fun u114 => some u114) (fu + 1) (nI k) a = some u' ∧ _
    obtain ⟨q1, q2, q3⟩ := (hB.fr hF13 (by decide)).fr hF (by decide)
    obtain ⟨e1, e2, e3⟩ := q3 k hk
    obtain ⟨-, s, z, hsz, hz, f1, f2⟩ := hvb k hk
    rw [mX7_heed_L132.eq_2, q2, if_neg (nI_ge hk (by omega)), ck_nI (show k < 40 by omega) (by decide)]
    simp only [ob_q, bd_q, nI_1, e1, e2, e3, f1, f2]
    have hsucc : ∀ τ, shutS bl (k + 1) (nI l) (nI τ) = (shutS bl k (nI l) (nI τ) || (decide (bl k 0 = nI l) && decide (bl k 1 ≤ nI τ) && decide (nI τ ≤ bl k 2))) := by
      intro τ; unfold shutS; rw [List.range_succ, List.any_append]; simp
    by_cases c : bl k 0 = nI l
    · rw [if_pos c, min_nI (by omega) (by omega)]
      obtain ⟨u4, e4, hF4, h4⟩ := cShut (u := a) (s := s) (e := min z m) (by omega) (by omega)
      rw [e4]
      simp only [ob_q]
      refine ih u4 ⟨hF.tr hF4, fun τ hτ => ?_⟩
      have h5 : gI u4 46 0 τ = if s ≤ τ ∧ τ ≤ z then -1 else gI a 46 0 τ := by
        rw [h4 τ]
        by_cases q : s ≤ τ ∧ τ ≤ z
        · rw [if_pos q, if_pos (by omega)]
        · rw [if_neg q, if_neg (by omega)]
      rw [h5, hT τ hτ, hsucc, f1, f2, c]
      simp only [decide_true, Bool.true_and]
      rw [show decide (nI s ≤ nI τ) = decide (s ≤ τ) from decide_eq_decide.mpr (nI_leI (by omega) (by omega)), show decide (nI τ ≤ nI z) = decide (τ ≤ z) from decide_eq_decide.mpr (nI_leI (by omega) (by omega))]
      cases shutS bl k (nI l) (nI τ) <;> by_cases c1 : s ≤ τ <;> by_cases c2 : τ ≤ z <;> simp [c1, c2, hτ]
    · rw [if_neg c]
      simp only [ob_q]
      refine ih a ⟨hF, fun τ hτ => ?_⟩
      rw [hT τ hτ, hsucc]
      simp only [c, decide_false, Bool.false_and, Bool.or_false]
  · intro fu a ⟨hF, hT⟩
    show ∃ u', mX7_heed_L132 0 (nI l) (nI m) (fun u114 => some u114) (fu + 1) (nI nb) a = some u' ∧ _
    obtain ⟨q1, q2, q3⟩ := (hB.fr hF13 (by decide)).fr hF (by decide)
    rw [mX7_heed_L132.eq_2, q2, if_pos (nI_le (Nat.le_refl _) (by omega))]
    refine ⟨a, rfl, hF13.tr (hF.mo (by decide) (by decide)), fun τ hτ => ?_⟩
    rw [hT τ hτ, h3 τ hτ]
