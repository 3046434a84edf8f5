/-! the reference keeps the scene -/
theorem tRow {s k : Nat} (hs : s < 6) (hk : k < 24) (u : HS) (h14 : gI u 9 0 14 = nI s) : ∃ u', (∀ w, mX9_scene_L143 (nI k) w FU 0 u = w u') ∧ Fr [65] [] u u' ∧ (∀ i, i ≠ 24 * s + k → gI u' 65 i = gI u 65 i) ∧ ∀ x, gI u' 65 (24 * s + k) x = if x < 8 then gI u 63 k x else gI u 65 (24 * s + k) x := by
  refine loopR (fun fu (a : HS) y => fun w => mX9_scene_L143 (nI k) w fu y a) 8 0 (fun m a => Fr [65] [] u a ∧ (∀ i, i ≠ 24 * s + k → gI a 65 i = gI u 65 i) ∧ ∀ x, gI a 65 (24 * s + k) x = if x < m then gI u 63 k x else gI u 65 (24 * s + k) x) (fun o => ∃ u', (∀ w, o w = w u') ∧ Fr [65] [] u u' ∧ (∀ i, i ≠ 24 * s + k → gI u' 65 i = gI u 65 i) ∧ ∀ x, gI u' 65 (24 * s + k) x = if x < 8 then gI u 63 k x else gI u 65 (24 * s + k) x) ?_ ?_ 8 0 u FU (Nat.le_refl _) rfl (FU_lt (by decide)) ⟨Fr.rf, fun _ _ => rfl, fun x => by rw [if_neg (by omega)]⟩
  · intro fu a m _ hm ⟨a1, a2, a3⟩ ih
    have e : ∀ w, mX9_scene_L143 (nI k) w (fu + 1) (nI m) a = mX9_scene_L143 (nI k) w fu (nI (m + 1)) (wI a 65 (24 * s + k) m (gI a 63 k m)) := fun w => by
      rw [mX9_scene_L143.eq_2, if_neg (show ¬ (8 : Int32) ≤ nI m from nI_ge (b := 8) hm (by decide)), a1.2.1 14 (by simp), h14, show (24 : Int32) * nI s = nI (24 * s) from by rw [Int32.mul_comm, show (nI s * 24 : Int32) = nI (s * 24) from pk_mul s 24, Nat.mul_comm], nI_add, ck_nI (show 24 * s + k < 144 by omega) (by decide), ck_nI hk (by decide), ck_nI hm (by decide)]
      simp only [ob_q, bd_q, nI_1]
    obtain ⟨u', q1, q2⟩ := ih (wI a 65 (24 * s + k) m (gI a 63 k m)) ⟨a1.sI (by decide) (by decide), fun i hi => by rw [gI_ri hi, a2 i hi], fun x => by
      by_cases c : x = m
      · rw [c, gI_eq, if_pos (by omega), a1.1 63 (by decide) (by decide)]
      · rw [gI_k c, a3 x]
        by_cases d : x < m
        · rw [if_pos d, if_pos (by omega)]
        · rw [if_neg d, if_neg (by omega)]⟩
    exact ⟨u', fun w => (e w).trans (q1 w), q2⟩
  · intro fu a ⟨a1, a2, a3⟩
    refine ⟨a, fun w => ?_, a1, a2, a3⟩
    show mX9_scene_L143 (nI k) w (fu + 1) (nI 8) a = w a
    rw [mX9_scene_L143.eq_2, if_pos (show (8 : Int32) ≤ nI 8 by decide)]
/-- all rows -/
theorem tRows {s : Nat} {st : Nat → Nat → Int32} {c : SV} (hs : s < 6) (u : HS) (h14 : gI u 9 0 14 = nI s) (hR : RW st u c) (hN : sN c ≤ 24) (hT : sT c ≤ 8) (hth : STh c) (h67 : gI u 67 0 s = 0) : ∃ u', (∀ w, mX9_scene_L133 w FU 0 u = w u') ∧ Fr [65, 67, 69] [] u u' ∧ (∀ i x, gI u' 65 i x = if (24 * s ≤ i ∧ i < 24 * s + sN c) ∧ x < 8 then sC c (i - 24 * s) x else gI u 65 i x) ∧ (gI u' 67 0 s = nI (sT c) ∧ ∀ i x, i ≠ 0 ∨ x ≠ s → gI u' 67 i x = gI u 67 i x) ∧ ∀ i x, gI u' 69 i x = if (8 * s ≤ i ∧ i < 8 * s + sT c) ∧ x < 2 then sH c (i - 8 * s) x else gI u 69 i x := by
  obtain ⟨hR1, hR2, hR3⟩ := hR
  rw [hth.1]
  refine loopR (fun fu (a : HS) y => fun w => mX9_scene_L133 w fu y a) (sN c) 0 (fun k a => Fr [65, 67, 69] [] u a ∧ (∀ i x, gI a 65 i x = if (24 * s ≤ i ∧ i < 24 * s + k) ∧ x < 8 then sC c (i - 24 * s) x else gI u 65 i x) ∧ (gI a 67 0 s = nI (cn0 c k) ∧ ∀ i x, i ≠ 0 ∨ x ≠ s → gI a 67 i x = gI u 67 i x) ∧ ∀ i x, gI a 69 i x = if (8 * s ≤ i ∧ i < 8 * s + cn0 c k) ∧ x < 2 then sH c (i - 8 * s) x else gI u 69 i x) (fun o => ∃ u', (∀ w, o w = w u') ∧ Fr [65, 67, 69] [] u u' ∧ (∀ i x, gI u' 65 i x = if (24 * s ≤ i ∧ i < 24 * s + sN c) ∧ x < 8 then sC c (i - 24 * s) x else gI u 65 i x) ∧ (gI u' 67 0 s = nI (cn0 c (sN c)) ∧ ∀ i x, i ≠ 0 ∨ x ≠ s → gI u' 67 i x = gI u 67 i x) ∧ ∀ i x, gI u' 69 i x = if (8 * s ≤ i ∧ i < 8 * s + cn0 c (sN c)) ∧ x < 2 then sH c (i - 8 * s) x else gI u 69 i x) ?_ ?_ (sN c) 0 u FU (Nat.le_refl _) (by omega) (FU_lt (by omega)) ⟨Fr.rf, fun i x => by rw [if_neg (by omega)], ⟨h67, fun _ _ _ => rfl⟩, fun i x => by rw [if_neg (by show ¬ ((8 * s ≤ i ∧ i < 8 * s + 0) ∧ x < 2); omega)]⟩
  · intro fu a k _ hk ⟨a1, a2, a3, a4⟩ ih
    have hk24 : k < 24 := by omega
    have h14a : gI a 9 0 14 = nI s := by rw [a1.2.1 14 (by simp)]; exact h14
    obtain ⟨b, eb, b1, b2, b3⟩ := tRow hs hk24 a h14a
    have c63 : ∀ x, x < 8 → gI b 63 k x = sC c k x := fun x hx => by rw [b1.1 63 (by decide) (by decide), a1.1 63 (by decide) (by decide), hR1 k x hx, if_pos hk]
    have b65 : ∀ i x, gI b 65 i x = if (24 * s ≤ i ∧ i < 24 * s + (k + 1)) ∧ x < 8 then sC c (i - 24 * s) x else gI u 65 i x := fun i x => by
      by_cases e : i = 24 * s + k
      · rw [e, b3, a1.1 63 (by decide) (by decide), a2]
        by_cases e2 : x < 8
        · rw [if_pos e2, if_pos ⟨by omega, e2⟩, hR1 k x e2, if_pos hk, show 24 * s + k - 24 * s = k by omega]
        · rw [if_neg e2, if_neg (fun q => e2 q.2), if_neg (fun q => e2 q.2)]
      · rw [b2 i e, a2]
        by_cases e2 : (24 * s ≤ i ∧ i < 24 * s + k) ∧ x < 8
        · rw [if_pos e2, if_pos (by omega)]
        · rw [if_neg e2, if_neg (by omega)]
    have F : Fr [65, 67, 69] [] u b := a1.tr (b1.mo (by decide) (fun _ q => q))
    have b67 : gI b 67 0 s = nI (cn0 c k) := by rw [b1.1 67 (by decide) (by decide)]; exact a3.1
    have b9 : ∀ j, gI b 9 0 j = gI u 9 0 j := fun j => F.2.1 j (by simp)
    have hc8 : sC c k 0 = 0 → cn0 c k < 8 := fun q => by
      have x1 : cn0 c (k + 1) = cn0 c k + 1 := by rw [cn0_s, if_pos q]
      have x2 := cn0_le (c := c) (show k + 1 ≤ sN c by omega)
      have := hth.1
      omega
    have e : ∀ w, mX9_scene_L133 w (fu + 1) (nI k) a = mX9_scene_L133 w fu (nI (k + 1)) (if sC c k 0 = 0 then wI (wI (wI b 69 (8 * s + cn0 c k) 0 (sC c k 1)) 69 (8 * s + cn0 c k) 1 (sC c k 2)) 67 0 s (nI (cn0 c k + 1)) else b) := fun w => by
      rw [mX9_scene_L133.eq_2, a1.2.1 9 (by simp), hR2, if_neg (nI_ge hk (by omega))]
      simp only [jp_q]
      rw [eb, ck_nI hk24 (by decide)]
      simp only [ob_q, bd_q, show ck 8 0 = some 0 from by decide, show ck 8 1 = some 1 from by decide, show ck 8 2 = some 2 from by decide, show ck 2 0 = some 0 from by decide, show ck 2 1 = some 1 from by decide, c63 0 (by decide), nI_1]
      by_cases q : sC c k 0 = 0
      · have hc := hc8 q
        have k69 : ck 48 ((8 : Int32) * nI s + nI (cn0 c k)) = some (8 * s + cn0 c k) := by
          rw [show (8 : Int32) * nI s = nI (8 * s) from by rw [Int32.mul_comm, show (nI s * 8 : Int32) = nI (s * 8) from pk_mul s 8, Nat.mul_comm], nI_add]
          exact ck_nI (by omega) (by decide)
        have m9 : ∀ (i x : Nat) (y : Int32), gI (wI b 69 i x y) 9 0 14 = nI s := fun i x y => by rw [gI_r (by decide), b9 14, h14]
        have m67 : ∀ (i x : Nat) (y : Int32), gI (wI b 69 i x y) 67 0 s = nI (cn0 c k) := fun i x y => by rw [gI_r (by decide), b67]
        have m9' : ∀ (i x i' x' : Nat) (y y' : Int32), gI (wI (wI b 69 i x y) 69 i' x' y') 9 0 14 = nI s := fun i x i' x' y y' => by rw [gI_r (by decide), gI_r (by decide), b9 14, h14]
        have m67' : ∀ (i x i' x' : Nat) (y y' : Int32), gI (wI (wI b 69 i x y) 69 i' x' y') 67 0 s = nI (cn0 c k) := fun i x i' x' y y' => by rw [gI_r (by decide), gI_r (by decide), b67]
        have m63 : ∀ (i x z : Nat) (y : Int32), gI (wI b 69 i x y) 63 k z = gI b 63 k z := fun i x z y => by rw [gI_r (by decide)]
        rw [if_pos q, if_pos q]
        simp only [b9 14, h14, ck_nI hs (show 6 < 2 ^ 31 by decide), ob_q, b67, k69, c63 1 (by decide), m9, m67, m63, c63 2 (by decide), m9', m67', nI_1]
      · rw [if_neg q, if_neg q]
        simp only [ob_q]
    by_cases q : sC c k 0 = 0
    · have hc := hc8 q
      obtain ⟨t1, t2⟩ := hth.2 k hk q
      simp only [if_pos q] at e
      obtain ⟨u', q1, q2⟩ := ih (wI (wI (wI b 69 (8 * s + cn0 c k) 0 (sC c k 1)) 69 (8 * s + cn0 c k) 1 (sC c k 2)) 67 0 s (nI (cn0 c k + 1))) ⟨((F.sI (by decide) (by decide)).sI (by decide) (by decide)).sI (by decide) (by decide), fun i x => by rw [gI_r (by decide), gI_r (by decide), gI_r (by decide)]; exact b65 i x, ⟨by rw [gI_eq, cn0_s, if_pos q], fun i x hx => by
          rw [gI_wI, if_neg (by omega), gI_r (by decide), gI_r (by decide), b1.1 67 (by decide) (by decide), a3.2 i x hx]⟩, fun i x => by
          rw [gI_r (show 69 ≠ 67 by decide), cn0_s, if_pos q, gI_wI, gI_wI, b1.1 69 (by decide) (by decide), a4]
          by_cases e1 : i = 8 * s + cn0 c k
          · by_cases e2 : x = 1
            · rw [if_pos ⟨rfl, e1, e2⟩, if_pos (by omega), e1, e2, show 8 * s + cn0 c k - 8 * s = cn0 c k by omega, t2]
            · rw [if_neg (fun z => e2 z.2.2)]
              by_cases e3 : x = 0
              · rw [if_pos ⟨rfl, e1, e3⟩, if_pos (by omega), e1, e3, show 8 * s + cn0 c k - 8 * s = cn0 c k by omega, t1]
              · rw [if_neg (fun z => e3 z.2.2), if_neg (by omega), if_neg (by omega)]
          · rw [if_neg (fun z => e1 z.2.1), if_neg (fun z => e1 z.2.1)]
            by_cases e2 : (8 * s ≤ i ∧ i < 8 * s + cn0 c k) ∧ x < 2
            · rw [if_pos e2, if_pos (by omega)]
            · rw [if_neg e2, if_neg (by omega)]⟩
      exact ⟨u', fun w => (e w).trans (q1 w), q2⟩
    · simp only [if_neg q] at e
      obtain ⟨u', q1, q2⟩ := ih b ⟨F, b65, ⟨by rw [b67, cn0_s, if_neg q]; rfl, fun i x hx => by rw [b1.1 67 (by decide) (by decide), a3.2 i x hx]⟩, fun i x => by rw [b1.1 69 (by decide) (by decide), a4, cn0_s, if_neg q]; rfl⟩
      exact ⟨u', fun w => (e w).trans (q1 w), q2⟩
  · intro fu a ⟨a1, a2, a3, a4⟩
    refine ⟨a, fun w => ?_, a1, a2, a3, a4⟩
    show mX9_scene_L133 w (fu + 1) (nI (sN c)) a = w a
    rw [mX9_scene_L133.eq_2, a1.2.1 9 (by simp), hR2, if_pos (nI_le (Nat.le_refl _) (by omega))]
