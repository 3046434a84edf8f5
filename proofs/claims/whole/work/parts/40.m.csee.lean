/-! ===== the class: what is seen ===== -/
def Fs (u v : HS) : Prop := Fvw [4, 7, 44, 48] u v ∧ gR v = gR u ∧ (∀ k, k ≠ 6 → gI v 7 0 k = gI u 7 0 k) ∧ ∀ k, k ≠ 2 → k ≠ 4 → gI v 4 0 k = gI u 4 0 k
theorem Fs.rf {u : HS} : Fs u u := ⟨Fvw.rf, rfl, fun _ _ => rfl, fun _ _ _ => rfl⟩
theorem Fs.tr {u v w : HS} (h : Fs u v) (h2 : Fs v w) : Fs u w := ⟨h.1.tr h2.1, h2.2.1.trans h.2.1, fun k a => (h2.2.2.1 k a).trans (h.2.2.1 k a), fun k a b => (h2.2.2.2 k a b).trans (h.2.2.2 k a b)⟩
theorem Fs.of44 {u v : HS} (h : Fr [44] [] u v) : Fs u v := ⟨h.fvw (by decide), h.2.2.2, fun k _ => by rw [h.m1 (by decide) (by decide)], fun k _ _ => by rw [h.m1 (by decide) (by decide)]⟩
theorem Fs.w2 {u v : HS} {x : Int32} (h : Fs u v) : Fs u (wI v 4 0 2 x) := ⟨h.1.sI (by decide) (by decide), h.2.1, fun k a => by rw [gI_r (by decide)]; exact h.2.2.1 k a, fun k a b => by rw [gI_k a]; exact h.2.2.2 k a b⟩
theorem Fs.w4 {u v : HS} {x : Int32} (h : Fs u v) : Fs u (wI v 4 0 4 x) := ⟨h.1.sI (by decide) (by decide), h.2.1, fun k a => by rw [gI_r (by decide)]; exact h.2.2.1 k a, fun k a b => by rw [gI_k b]; exact h.2.2.2 k a b⟩
theorem VX.fs {u v : HS} {i : Nat} {c : SV} {t : Nat} {tk : Nat → Int32} {kn : Int32} {m : Nat} {E : Int32 → Int32} {sz nr sl : Int32} (h : VX u i c t tk kn m E sz nr sl) (hF : Fs u v) : VX v i c t tk kn m E sz nr sl := by
  obtain ⟨h1, h2, h3, h4, h5⟩ := h
  refine ⟨by rw [hF.2.1]; exact h1, h2.fv hF.1 (by decide), by rw [hF.1.m1 (show 6 ∉ [4, 7, 44, 48] by decide) (by decide)]; exact h3, ?_, ?_⟩
  · rw [hF.2.2.1 2 (by decide), hF.2.2.1 7 (by decide), hF.2.2.1 8 (by decide), hF.2.2.1 9 (by decide)]; exact h4
  · rw [hF.1.m1 (show 46 ∉ [4, 7, 44, 48] by decide) (by decide)]; exact h5
theorem LC.fs {u v : HS} {q : Nat} {w : LT} (h : LC u q w) (hF : Fs u v) : LC v q w := by
  have e : ∀ r, r = 1 ∨ r = 32 ∨ r = 33 ∨ r = 34 ∨ r = 35 ∨ r = 36 → gI v r = gI u r := fun r hr => hF.1.m1 (by simp; omega) (by omega)
  unfold LC; rw [e 1 (by omega), e 32 (by omega), e 33 (by omega), e 34 (by omega), e 35 (by omega), e 36 (by omega)]; exact h
/-- a tenth is regarded, and what gets in -/
theorem cTenth {u : HS} {i q : Nat} {c : SV} {t' : Nat} {tk : Nat → Int32} {kn : Int32} {m : Nat} {E : Int32 → Int32} {sz nr sl sz' : Int32} {w : LT} (h : VX u i c t' tk kn m E sz nr sl) (hq : LC u q w) (hw : LWF w) (hsl : sl ≠ 0) (hsz : (sz = -1 ∧ sz' = 0) ∨ (sz ≠ -1 ∧ sz = sz' ∧ ¬ sz' ≤ 0)) {t τ : Nat} (ht : t < sT c) (hτ : τ ≤ m) : ∃ u1 u2, mX7_regard u (nI t) (nI τ) = some u1 ∧ Fs u u1 ∧ (∀ k, gI u1 4 0 k = gI u 4 0 k) ∧ gI u1 7 0 6 = bI (hrS c E (nI t) (nI τ)) ∧ (∀ j, j < 11 → gI u1 48 0 j = nmS c tk kn E sz' nr sl (nI t) (nI τ) j) ∧ mX4_getsNow u1 q = some (gnS w (fun τ => nmS c tk kn E sz' nr sl (nI t) τ) (hrS c E (nI t)) (nI τ), u2) ∧ Fs u u2 ∧ (∀ k, gI u2 4 0 k = gI u 4 0 k) ∧ gI u2 7 0 6 = bI (hrS c E (nI t) (nI τ)) ∧ ∀ j, j < 11 → gI u2 48 0 j = nmS c tk kn E sz' nr sl (nI t) (nI τ) j := by
  obtain ⟨u1, e1, hF1, hr1, h71, h6, hn⟩ := cRegard h hsl hsz ht hτ
  have g4 : gI u1 4 = gI u 4 := hF1.m1 (by decide) (by decide)
  have hs1 : Fs u u1 := ⟨hF1.mo (by decide), hr1, h71, fun k _ _ => by rw [g4]⟩
  obtain ⟨u2, e2, hF2⟩ := cGets (hq.fs hs1) hw hn
  have hs2 : Fs u u2 := hs1.tr (Fs.of44 hF2)
  refine ⟨u1, u2, e1, hs1, fun k => by rw [g4], h6, hn, ?_, hs2, fun k => by rw [hF2.m1 (by decide) (by decide), g4], by rw [hF2.m1 (by decide) (by decide)]; exact h6, fun j hj => by rw [hF2.m1 (by decide) (by decide)]; exact hn j hj⟩
  rw [e2, h6]
  unfold gnS
  simp only [bI_0]
  rw [show (isT c (nI t) (nI τ) && decide (E (nI τ) ≠ -1)) = hrS c E (nI t) (nI τ) from rfl]
  cases hrS c E (nI t) (nI τ) <;> rfl
def suS (w : LT) (Nm : Int32 → Nat → Int32) (Hr : Int32 → Bool) (a d : Nat) (s : Int32) : Int32 := (List.range' a d).foldl (fun s k => s + gnS w Nm Hr (nI k)) s
theorem suS_succ {w : LT} {Nm : Int32 → Nat → Int32} {Hr : Int32 → Bool} {a d : Nat} {s : Int32} : suS w Nm Hr a (d + 1) s = suS w Nm Hr a d s + gnS w Nm Hr (nI (a + d)) := by
  unfold suS; rw [List.range'_concat, List.foldl_append, Nat.one_mul]; rfl
theorem suS_add {w : LT} {Nm : Int32 → Nat → Int32} {Hr : Int32 → Bool} {a d d' : Nat} {s : Int32} : suS w Nm Hr (a + d) d' (suS w Nm Hr a d s) = suS w Nm Hr a (d + d') s := by
  induction d' with
  | zero => rfl
  | succ d' ih => rw [suS_succ, ih, ← Nat.add_assoc, suS_succ, Nat.add_assoc]
theorem cAdd {u : HS} {i q : Nat} {c : SV} {t' : Nat} {tk : Nat → Int32} {kn : Int32} {m : Nat} {E : Int32 → Int32} {sz nr sl sz' : Int32} {w : LT} (h : VX u i c t' tk kn m E sz nr sl) (hq : LC u q w) (hw : LWF w) (hsl : sl ≠ 0) (hsz : (sz = -1 ∧ sz' = 0) ∨ (sz ≠ -1 ∧ sz = sz' ∧ ¬ sz' ≤ 0)) {t : Nat} (ht : t < sT c) {a b : Nat} (hb : b ≤ m) (hab : a ≤ b + 1) : ∃ u', mX4_addFrom u q (nI t) (nI a) (nI b) = some u' ∧ Fs u u' ∧ gI u' 4 0 4 = gI u 4 0 4 ∧ gI u' 4 0 2 = suS w (fun τ => nmS c tk kn E sz' nr sl (nI t) τ) (hrS c E (nI t)) a (b + 1 - a) (gI u 4 0 2) := by
  have hm3 := h.1.2.2
  unfold mX4_addFrom
  simp only [jp_q]
  refine loopR (fun fu v y => mX4_addFrom_L3 (nI b) (nI t) q (fun a => some a) fu y v) (b + 1) a (fun k v => Fs u v ∧ gI v 4 0 4 = gI u 4 0 4 ∧ gI v 4 0 2 = suS w (fun τ => nmS c tk kn E sz' nr sl (nI t) τ) (hrS c E (nI t)) a (k - a) (gI u 4 0 2)) (fun o => ∃ u', o = some u' ∧ Fs u u' ∧ gI u' 4 0 4 = gI u 4 0 4 ∧ gI u' 4 0 2 = suS w (fun τ => nmS c tk kn E sz' nr sl (nI t) τ) (hrS c E (nI t)) a (b + 1 - a) (gI u 4 0 2)) ?_ ?_ (b + 1 - a) a u FU (Nat.le_refl _) (by omega) (FU_lt (by omega)) ⟨Fs.rf, rfl, by rw [Nat.sub_self]; rfl⟩
  · intro fu v k hak hk ⟨hF, h4, h2⟩ ih
    show ∃ u', mX4_addFrom_L3 (nI b) (nI t) q (fun a => some a) (fu + 1) (nI k) v = some u' ∧ _
    obtain ⟨u1, u2, e1, f1, g1, -, -, e2, f2, g2, -, -⟩ := cTenth (h.fs hF) (hq.fs hF) hw hsl hsz ht (show k ≤ m by omega)
    rw [mX4_addFrom_L3.eq_2, if_neg (nI_nlt (by omega) (by omega)), e1]
    simp only [ob_q, e2, bd_q, nI_1]
    refine ih _ ⟨(hF.tr f2).w2, ?_, ?_⟩
    · rw [gI_k (by decide), g2]; exact h4
    · rw [gI_eq, g1, h2, show k + 1 - a = (k - a) + 1 by omega, suS_succ, show a + (k - a) = k by omega]
  · intro fu v ⟨hF, h4, h2⟩
    show ∃ u', mX4_addFrom_L3 (nI b) (nI t) q (fun a => some a) (fu + 1) (nI (b + 1)) v = some u' ∧ _
    rw [mX4_addFrom_L3.eq_2, if_pos (nI_lt (by omega) (by omega))]
    exact ⟨v, rfl, hF, h4, h2⟩
/-! draws -/
theorem m15 : ∀ j : Fin 32, ¬ j.1 < 15 → (32767#32)[j.1] = false := by decide
theorem ushr_mask (x : Int32) : ushr x 16 &&& 32767 = (x >>> ((16 : Int32) &&& 31)) &&& 32767 := by
  apply Int32.toBitVec_inj.mp
  have e1 : (ushr x 16).toBitVec = x.toBitVec >>> 16 := rfl
  have e2 : (x >>> ((16 : Int32) &&& 31)).toBitVec = x.toBitVec.sshiftRight 16 := rfl
  rw [Int32.toBitVec_and, Int32.toBitVec_and, e1, e2]
  have e3 : (32767 : Int32).toBitVec = 32767#32 := rfl
  rw [e3]
  ext j hj
  rw [BitVec.getElem_and, BitVec.getElem_and, BitVec.getElem_ushiftRight, BitVec.getElem_sshiftRight]
  by_cases c : j < 15
  · rw [dif_pos (show 16 + j < 32 by omega), BitVec.getLsbD_eq_getElem (show 16 + j < 32 by omega)]
  · rw [show (32767#32)[j] = false from m15 ⟨j, hj⟩ c, Bool.and_false, Bool.and_false]
theorem drS_0 (x : Int32) : drS 0 x = 0 := by
  unfold drS
  rw [Int32.zero_add, Int32.div_one, Int32.mul_one, Int32.sub_self]
theorem cDraw {u : HS} {w : LT} {Nm : Int32 → Nat → Int32} {Hr : Int32 → Bool} {noise τ sd : Int32} (hno : (gI u 4 0 3 = -1 ∧ noise = 0) ∨ (gI u 4 0 3 = noise ∧ 0 ≤ noise ∧ noise ≤ 50)) (h6 : gI u 7 0 6 = bI (Hr τ)) (hsd : ¬ noise ≤ 0 → gI u 4 0 4 = sd) : ∃ dv u', mX4_drawNow u = some (dv, u') ∧ Fs u u' ∧ gI u' 4 0 2 = gI u 4 0 2 ∧ (∀ j, gI u' 48 0 j = gI u 48 0 j) ∧ gnS w Nm Hr τ + dv = (adS w Nm Hr noise τ sd).1 ∧ (¬ noise ≤ 0 → gI u' 4 0 4 = (adS w Nm Hr noise τ sd).2) := by
  unfold mX4_drawNow adS
  rcases hno with ⟨h1, h2⟩ | ⟨h1, h2, h3⟩
  · rw [if_pos h1, h2, if_neg (fun z => z.2 (Int32.le_refl 0))]
    exact ⟨0, u, rfl, Fs.rf, rfl, fun _ => rfl, Int32.add_zero _, fun z => absurd (Int32.le_refl 0) z⟩
  · have hne : ¬ gI u 4 0 3 = -1 := by rw [h1]; intro z; rw [z] at h2; exact absurd h2 (by decide)
    rw [if_neg hne, h6]
    simp only [bI_0]
    cases hH : Hr τ with
    | false =>
      simp only [if_true, Bool.false_eq_true, false_and, if_false]
      exact ⟨0, u, rfl, Fs.rf, rfl, fun _ => rfl, Int32.add_zero _, hsd⟩
    | true =>
      simp only [Bool.true_eq_false, if_false, bd_q, true_and]
      rw [gI_k (show 3 ≠ 4 by decide), gI_eq, h1]
      have hnz : noise + 1 ≠ 0 := by
        by_cases c0 : noise ≤ 0
        · rw [Int32.le_antisymm c0 h2]; decide
        · exact c1103 0 noise c0 h3
      rw [nz_ok hnz]
      simp only [ob_q]
      refine ⟨_, _, rfl, Fs.rf.w4, by rw [gI_k (by decide)], fun j => by rw [gI_r (by decide)], ?_, ?_⟩
      · rw [ushr_mask, show ∀ y : Int32, ((y >>> ((16 : Int32) &&& 31)) &&& 32767) - ((y >>> ((16 : Int32) &&& 31)) &&& 32767) / (noise + 1) * (noise + 1) = drS noise y from fun _ => rfl]
        by_cases c0 : noise ≤ 0
        · rw [if_neg (fun z => z c0), Int32.le_antisymm c0 h2, drS_0, Int32.add_zero]
        · rw [if_pos c0, hsd c0]
      · intro c0
        rw [gI_eq, if_pos c0, hsd c0]
/-! the first tenth in which it is seen -/
def fsS (w : LT) (Nm : Int32 → Nat → Int32) (Hr : Int32 → Bool) (chg : Bool) (noise : Int32) : Nat → Nat → Int32 × Int32 → Option Nat × Int32
  | 0, _, s => (none, s.1)
  | d + 1, k, s =>
    if chg = true ∧ Nm (nI k) 8 = 0 then fsS w Nm Hr chg noise d (k + 1) s
    else if s.1 + (adS w Nm Hr noise (nI k) s.2).1 < liS w (Nm (nI k)) then fsS w Nm Hr chg noise d (k + 1) (s.1 + (adS w Nm Hr noise (nI k) s.2).1, (adS w Nm Hr noise (nI k) s.2).2)
    else (some k, s.1 + (adS w Nm Hr noise (nI k) s.2).1)
theorem wiS_ge {v lo hi : Int32} (h : lo ≤ hi) : lo ≤ wiS v lo hi := by
  unfold wiS
  by_cases h1 : lo ≤ v
  · rw [if_pos h1]
    by_cases h2 : v ≤ hi
    · rw [if_pos h2]; exact h1
    · rw [if_neg h2]; exact h
  · rw [if_neg h1]; exact Int32.le_refl _
theorem lasS_ge {w : LT} {nm : Nat → Int32} {x lo hi d : Int32} (h : lo ≤ hi) (hd : lo ≤ d) : lo ≤ lasS w nm x lo hi d := by
  unfold lasS
  have : ∀ (l : List Nat) (d : Int32), lo ≤ d → lo ≤ l.foldl (lasF w nm x lo hi) d := by
    intro l
    induction l with
    | nil => intro d hd; exact hd
    | cons y l ih =>
      intro d hd
      refine ih _ ?_
      unfold lasF
      split
      · exact wiS_ge h
      · exact hd
  exact this _ d hd
theorem liS_pos (w : LT) (nm : Nat → Int32) : 1 ≤ liS w nm := lasS_ge (by decide) (by decide)
set_option maxHeartbeats 2000000 in
theorem cFirst {u : HS} {i q : Nat} {c : SV} {t' : Nat} {tk : Nat → Int32} {kn : Int32} {m : Nat} {E : Int32 → Int32} {sz nr sl sz' : Int32} {w : LT} (h : VX u i c t' tk kn m E sz nr sl) (hq : LC u q w) (hw : LWF w) (hsl : sl ≠ 0) (hsz : (sz = -1 ∧ sz' = 0) ∨ (sz ≠ -1 ∧ sz = sz' ∧ ¬ sz' ≤ 0)) {t : Nat} (ht : t < sT c) {noise : Int32} (hno : (gI u 4 0 3 = -1 ∧ noise = 0) ∨ (gI u 4 0 3 = noise ∧ 0 ≤ noise ∧ noise ≤ 50)) {chg : Bool} (hch : gI u 4 0 5 = bI chg) (hcn : chg = true → noise ≤ 0) (hm : endS c = nI m) : ∃ u', mX4_firstSeen u q (nI t) = some ((fsS w (fun τ => nmS c tk kn E sz' nr sl (nI t) τ) (hrS c E (nI t)) chg noise (m + 1) 0 (0, gI u 4 0 4)).1.elim (-1) nI, u') ∧ Fs u u' ∧ gI u' 4 0 2 = (fsS w (fun τ => nmS c tk kn E sz' nr sl (nI t) τ) (hrS c E (nI t)) chg noise (m + 1) 0 (0, gI u 4 0 4)).2 := by
  have hm3 := h.1.2.2
  obtain ⟨Nm, eNm⟩ : ∃ Nm : Int32 → Nat → Int32, Nm = fun τ => nmS c tk kn E sz' nr sl (nI t) τ := ⟨_, rfl⟩
  obtain ⟨Hr, eHr⟩ : ∃ Hr, Hr = hrS c E (nI t) := ⟨_, rfl⟩
  rw [← eNm, ← eHr]
  unfold mX4_firstSeen
  simp only [bd_q, jp_q]
  have key : ∀ (d k : Nat) (a : HS) (fu : Nat) (s : Int32 × Int32), k + d = m + 1 → d < fu → Fs u a → gI a 4 0 2 = s.1 → (¬ noise ≤ 0 → gI a 4 0 4 = s.2) → ∃ a', mX4_firstSeen_L7 (nI t) q (fun u104 => some (-1, u104)) fu (nI k) a = some ((fsS w Nm Hr chg noise d k s).1.elim (-1) nI, a') ∧ Fs u a' ∧ gI a' 4 0 2 = (fsS w Nm Hr chg noise d k s).2 := by
    intro d
    induction d with
    | zero =>
      intro k a fu s hk hf hF h2 h4
      obtain ⟨z, rfl⟩ : ∃ z, fu = z + 1 := ⟨fu - 1, by omega⟩
      have hS := (h.fs hF).2.1
      rw [mX4_firstSeen_L7.eq_2, (h.fs hF).1.1, hS.2.1.2.2.2.2.2.2, hm, if_pos (nI_lt (by omega) (by omega))]
      exact ⟨a, rfl, hF, h2⟩
    | succ d ih =>
      intro k a fu s hk hf hF h2 h4
      obtain ⟨z, rfl⟩ : ∃ z, fu = z + 1 := ⟨fu - 1, by omega⟩
      have hV := h.fs hF
      have hS := hV.2.1
      have h5 : gI a 4 0 5 = bI chg := by rw [hF.2.2.2 5 (by decide) (by decide)]; exact hch
      have h3 : gI a 4 0 3 = gI u 4 0 3 := hF.2.2.2 3 (by decide) (by decide)
      rw [mX4_firstSeen_L7.eq_2, hV.1.1, hS.2.1.2.2.2.2.2.2, hm, if_neg (nI_nlt (by omega) (by omega))]
      simp only [jp_q, bd_q, h5, bI_0, cTurn hS (nI t) (show k < 300 by omega), ob_q, nI_1]
      have h8 : Nm (nI k) 8 = bI (chgS c (nI t) (nI k)) := by rw [eNm]; rfl
      -- the tenth counts
      have hcnt : ¬ (chg = true ∧ Nm (nI k) 8 = 0) → ∃ a', ((mX7_regard a (nI t) (nI k)).bind fun u113 => (mX4_getsNow u113 q).bind fun z114 => (mX4_drawNow z114.2).bind fun z117 => if gI (wI z117.2 4 0 2 (gI u113 4 0 2 + (z114.1 + z117.1))) 4 0 2 ≤ 0 then mX4_firstSeen_L7 (nI t) q (fun u104 => some (-1, u104)) z (nI (k + 1)) (wI z117.2 4 0 2 (gI u113 4 0 2 + (z114.1 + z117.1))) else (mX4_lastOf (wI z117.2 4 0 2 (gI u113 4 0 2 + (z114.1 + z117.1))) q 1 1 100000 100).bind fun z122 => if gI (wI z117.2 4 0 2 (gI u113 4 0 2 + (z114.1 + z117.1))) 4 0 2 < z122.1 then mX4_firstSeen_L7 (nI t) q (fun u104 => some (-1, u104)) z (nI (k + 1)) z122.2 else some (nI k, z122.2)) = some ((fsS w Nm Hr chg noise (d + 1) k s).1.elim (-1) nI, a') ∧ Fs u a' ∧ gI a' 4 0 2 = (fsS w Nm Hr chg noise (d + 1) k s).2 := by
        intro hn
        obtain ⟨u1, u2, e1, f1, g1, -, -, e2, f2, g2, h62, n2⟩ := cTenth hV (hq.fs hF) hw hsl hsz ht (show k ≤ m by omega)
        rw [← eNm, ← eHr] at e2
        rw [← eHr] at h62
        rw [e1]
        simp only [ob_q, e2]
        obtain ⟨dv, u3, e3, f3, g3, n3, s3, d3⟩ := cDraw (u := u2) (w := w) (Nm := Nm) (Hr := Hr) (noise := noise) (τ := nI k) (sd := s.2) (by rw [g2, h3]; exact hno) h62 (fun z => by rw [g2]; exact h4 z)
        rw [e3]
        simp only [ob_q]
        rw [gI_eq, g1, h2, s3]
        obtain ⟨A, eA⟩ : ∃ A, A = adS w Nm Hr noise (nI k) s.2 := ⟨_, rfl⟩
        rw [← eA] at s3 d3 ⊢
        have hF3 : Fs u (wI u3 4 0 2 (s.1 + A.1)) := ((hF.tr f2).tr f3).w2
        have hfs : fsS w Nm Hr chg noise (d + 1) k s = if s.1 + A.1 < liS w (Nm (nI k)) then fsS w Nm Hr chg noise d (k + 1) (s.1 + A.1, A.2) else (some k, s.1 + A.1) := by
          conv => lhs; unfold fsS
          rw [if_neg hn, ← eA]
        rw [hfs]
        by_cases c0 : s.1 + A.1 ≤ 0
        · rw [if_pos c0, if_pos (Int32.lt_of_le_of_lt c0 (Int32.lt_of_lt_of_le (by decide) (liS_pos w (Nm (nI k)))))]
          exact ih (k + 1) _ z (s.1 + A.1, A.2) (by omega) (by omega) hF3 (by rw [gI_eq]) (fun y => by rw [gI_k (by decide)]; exact d3 y)
        · rw [if_neg c0]
          obtain ⟨u4, e4, hF4⟩ := cLast (u := wI u3 4 0 2 (s.1 + A.1)) (nm := Nm (nI k)) (hq.fs hF3) hw (fun j hj => by rw [gI_r (by decide), n3, n2 j hj, eNm]) 1 1 100000 100 (by decide)
          have hFs4 := hF3.tr (Fs.of44 hF4)
          have i2 : gI u4 4 0 2 = s.1 + A.1 := by rw [hF4.m1 (by decide) (by decide), gI_eq]
          rw [e4]
          simp only [ob_q]
          rw [show lasS w (Nm (nI k)) 1 1 100000 100 = liS w (Nm (nI k)) from rfl]
          by_cases c1 : s.1 + A.1 < liS w (Nm (nI k))
          · rw [if_pos c1, if_pos c1]
            exact ih (k + 1) _ z (s.1 + A.1, A.2) (by omega) (by omega) hFs4 i2 (fun y => by rw [hF4.m1 (by decide) (by decide), gI_k (by decide)]; exact d3 y)
          · rw [if_neg c1, if_neg c1]
            exact ⟨u4, rfl, hFs4, i2⟩
      cases hc : chg with
      | false =>
        rw [if_pos rfl, ← hc]
        exact hcnt (by rw [hc]; simp)
      | true =>
        rw [if_neg (by decide)]
        by_cases c8 : chgS c (nI t) (nI k) = false
        · rw [if_pos c8]
          have e : fsS w Nm Hr true noise (d + 1) k s = fsS w Nm Hr true noise d (k + 1) s := by
            conv => lhs; unfold fsS
            rw [if_pos ⟨rfl, by rw [h8, c8]; rfl⟩]
          rw [e, ← hc]
          exact ih (k + 1) a z s (by omega) (by omega) hF h2 h4
        · rw [if_neg c8, ← hc]
          exact hcnt (fun y => c8 (by have := y.2; rw [h8] at this; simpa [bI_0] using this))
  obtain ⟨a', q1, q2, q3⟩ := key (m + 1) 0 (wI u 4 0 2 0) FU (0, gI u 4 0 4) (by omega) (FU_lt (by omega)) Fs.rf.w2 (by rw [gI_eq]) (fun _ => by rw [gI_k (by decide)])
  exact ⟨a', q1, q2, q3⟩
