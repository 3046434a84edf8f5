theorem m8 : ∀ j : Fin 32, ¬ j.1 < 8 → (255#32)[j.1] = false := by decide
theorem um24 (x : Int32) : ushr x 24 &&& 255 = (x >>> ((24 : Int32) &&& 31)) &&& 255 := by
  apply Int32.toBitVec_inj.mp
  have e1 : (ushr x 24).toBitVec = x.toBitVec >>> 24 := rfl
  have e2 : (x >>> ((24 : Int32) &&& 31)).toBitVec = x.toBitVec.sshiftRight 24 := rfl
  rw [Int32.toBitVec_and, Int32.toBitVec_and, e1, e2]
  have e3 : (255 : Int32).toBitVec = 255#32 := rfl
  rw [e3]
  ext j hj
  rw [BitVec.getElem_and, BitVec.getElem_and, BitVec.getElem_ushiftRight, BitVec.getElem_sshiftRight]
  by_cases c : j < 8
  · rw [dif_pos (show 24 + j < 32 by omega), BitVec.getLsbD_eq_getElem (show 24 + j < 32 by omega)]
  · rw [show (255#32)[j] = false from m8 ⟨j, hj⟩ c, Bool.and_false, Bool.and_false]
theorem um16 (x : Int32) : ushr x 16 &&& 255 = (x >>> ((16 : Int32) &&& 31)) &&& 255 := by
  apply Int32.toBitVec_inj.mp
  have e1 : (ushr x 16).toBitVec = x.toBitVec >>> 16 := rfl
  have e2 : (x >>> ((16 : Int32) &&& 31)).toBitVec = x.toBitVec.sshiftRight 16 := rfl
  rw [Int32.toBitVec_and, Int32.toBitVec_and, e1, e2]
  have e3 : (255 : Int32).toBitVec = 255#32 := rfl
  rw [e3]
  ext j hj
  rw [BitVec.getElem_and, BitVec.getElem_and, BitVec.getElem_ushiftRight, BitVec.getElem_sshiftRight]
  by_cases c : j < 8
  · rw [dif_pos (show 16 + j < 32 by omega), BitVec.getLsbD_eq_getElem (show 16 + j < 32 by omega)]
  · rw [show (255#32)[j] = false from m8 ⟨j, hj⟩ c, Bool.and_false, Bool.and_false]
theorem um8 (x : Int32) : ushr x 8 &&& 255 = (x >>> ((8 : Int32) &&& 31)) &&& 255 := by
  apply Int32.toBitVec_inj.mp
  have e1 : (ushr x 8).toBitVec = x.toBitVec >>> 8 := rfl
  have e2 : (x >>> ((8 : Int32) &&& 31)).toBitVec = x.toBitVec.sshiftRight 8 := rfl
  rw [Int32.toBitVec_and, Int32.toBitVec_and, e1, e2]
  have e3 : (255 : Int32).toBitVec = 255#32 := rfl
  rw [e3]
  ext j hj
  rw [BitVec.getElem_and, BitVec.getElem_and, BitVec.getElem_ushiftRight, BitVec.getElem_sshiftRight]
  by_cases c : j < 8
  · rw [dif_pos (show 8 + j < 32 by omega), BitVec.getLsbD_eq_getElem (show 8 + j < 32 by omega)]
  · rw [show (255#32)[j] = false from m8 ⟨j, hj⟩ c, Bool.and_false, Bool.and_false]
theorem um0 (x : Int32) : ushr x 0 &&& 255 = (x >>> ((0 : Int32) &&& 31)) &&& 255 := by
  apply Int32.toBitVec_inj.mp
  have e1 : (ushr x 0).toBitVec = x.toBitVec >>> 0 := rfl
  have e2 : (x >>> ((0 : Int32) &&& 31)).toBitVec = x.toBitVec.sshiftRight 0 := rfl
  rw [Int32.toBitVec_and, Int32.toBitVec_and, e1, e2]
  have e3 : (255 : Int32).toBitVec = 255#32 := rfl
  rw [e3]
  ext j hj
  rw [BitVec.getElem_and, BitVec.getElem_and, BitVec.getElem_ushiftRight, BitVec.getElem_sshiftRight]
  by_cases c : j < 8
  · rw [dif_pos (show 0 + j < 32 by omega), BitVec.getLsbD_eq_getElem (show 0 + j < 32 by omega)]
  · rw [show (255#32)[j] = false from m8 ⟨j, hj⟩ c, Bool.and_false, Bool.and_false]

/-- the byte j of a word -/
def byW (x : Int32) (j : Nat) : Int32 := (x >>> ((24 - 8 * nI j) &&& 31)) &&& 255
theorem put1 {w : HS → Option HS} {x s : Int32} {fu h : Nat} {u : HS} (hs : ¬ s < 0) (h1 : gI u 5 0 1 = nI h) (hh : h < 400) : mX5_put_L3 x w (fu + 1) s u = mX5_put_L3 x w fu (s + -8) (wI (wI u 45 0 h ((ushr x s) &&& 255)) 5 0 1 (nI (h + 1))) := by
  rw [mX5_put_L3.eq_2, if_neg hs, h1, if_neg (show ¬ (400 : Int32) ≤ nI h from nI_ge (b := 400) hh (by decide)), ck_nI hh (by decide)]
  simp only [ob_q, bd_q]
  rw [gI_r (by decide), h1, nI_1]
def FT (u v : HS) : Prop := (∀ r, r ≠ 5 → r ≠ 45 → r ≠ 60 → r ≠ 9 → gI v r = gI u r) ∧ (∀ k, k ≠ 1 → gI v 5 0 k = gI u 5 0 k) ∧ (∀ k, k ≠ 0 → k ≠ 1 → gI v 9 0 k = gI u 9 0 k) ∧ gR v = gR u
theorem FT.rf {u : HS} : FT u u := ⟨fun _ _ _ _ _ => rfl, fun _ _ => rfl, fun _ _ _ => rfl, rfl⟩
theorem FT.a {u v : HS} {k : Nat} {x : Int32} (h : FT u v) : FT u (wI v 45 0 k x) := ⟨fun r a b c d => (gI_r b).trans (h.1 r a b c d), fun k a => by rw [gI_r (by decide)]; exact h.2.1 k a, fun k a b => by rw [gI_r (by decide)]; exact h.2.2.1 k a b, h.2.2.2⟩
theorem FT.b {u v : HS} {x : Int32} (h : FT u v) : FT u (wI v 5 0 1 x) := ⟨fun r a b c d => (gI_r a).trans (h.1 r a b c d), fun k a => by rw [gI_k a]; exact h.2.1 k a, fun k a b => by rw [gI_r (by decide)]; exact h.2.2.1 k a b, h.2.2.2⟩
theorem FT.c {u v : HS} {k : Nat} {x : Int32} (h : FT u v) : FT u (wI v 60 0 k x) := ⟨fun r a b c d => (gI_r c).trans (h.1 r a b c d), fun k a => by rw [gI_r (by decide)]; exact h.2.1 k a, fun k a b => by rw [gI_r (by decide)]; exact h.2.2.1 k a b, h.2.2.2⟩
theorem FT.d {u v : HS} {k : Nat} {x : Int32} (h : FT u v) (hk : k = 0 ∨ k = 1) : FT u (wI v 9 0 k x) := ⟨fun r a b c d => (gI_r d).trans (h.1 r a b c d), fun k a => by rw [gI_r (by decide)]; exact h.2.1 k a, fun k' a b => by rw [gI_k (by omega)]; exact h.2.2.1 k' a b, h.2.2.2⟩
theorem FT.tr {u v w : HS} (h : FT u v) (h2 : FT v w) : FT u w := ⟨fun r a b c d => (h2.1 r a b c d).trans (h.1 r a b c d), fun k a => (h2.2.1 k a).trans (h.2.1 k a), fun k a b => (h2.2.2.1 k a b).trans (h.2.2.1 k a b), h2.2.2.2.trans h.2.2.2⟩
theorem cPut {u : HS} {h : Nat} (x : Int32) (h1 : gI u 5 0 1 = nI h) (hh : h + 4 ≤ 400) : ∃ u', mX5_put u x = some u' ∧ FT u u' ∧ (gI u' 60 = gI u 60 ∧ gI u' 9 = gI u 9) ∧ gI u' 5 0 1 = nI (h + 4) ∧ ∀ k, gI u' 45 0 k = if h ≤ k ∧ k < h + 4 then byW x (k - h) else gI u 45 0 k := by
  unfold mX5_put
  simp only [jp_q]
  rw [show FU = 4091 + 1 + 1 + 1 + 1 + 1 from rfl, put1 (by decide) h1 (by omega), show (24 + -8 : Int32) = 16 from by decide, put1 (h := h + 1) (by decide) gI_eq (by omega), show (16 + -8 : Int32) = 8 from by decide, put1 (h := h + 1 + 1) (by decide) gI_eq (by omega), show (8 + -8 : Int32) = 0 from by decide, put1 (h := h + 1 + 1 + 1) (by decide) gI_eq (by omega), mX5_put_L3.eq_2, if_pos (by decide)]
  refine ⟨_, rfl, FT.rf.a.b.a.b.a.b.a.b, ⟨?_, ?_⟩, ?_, fun k => ?_⟩
  · simp only [gI_r (show (60 : Nat) ≠ 45 by decide), gI_r (show (60 : Nat) ≠ 5 by decide)]
  · simp only [gI_r (show (9 : Nat) ≠ 45 by decide), gI_r (show (9 : Nat) ≠ 5 by decide)]
  · rw [gI_eq]
  · rw [um24, um16, um8, um0]
    simp only [gI_r (show (45 : Nat) ≠ 5 by decide)]
    by_cases e3 : k = h + 1 + 1 + 1
    · rw [e3, gI_eq, if_pos (by omega), show h + 1 + 1 + 1 - h = 3 by omega]; rfl
    · rw [gI_k e3]
      simp only [gI_r (show (45 : Nat) ≠ 5 by decide)]
      by_cases e2 : k = h + 1 + 1
      · rw [e2, gI_eq, if_pos (by omega), show h + 1 + 1 - h = 2 by omega]; rfl
      · rw [gI_k e2]
        simp only [gI_r (show (45 : Nat) ≠ 5 by decide)]
        by_cases e1 : k = h + 1
        · rw [e1, gI_eq, if_pos (by omega), show h + 1 - h = 1 by omega]; rfl
        · rw [gI_k e1]
          simp only [gI_r (show (45 : Nat) ≠ 5 by decide)]
          by_cases e0 : k = h
          · rw [e0, gI_eq, if_pos (by omega), show h - h = 0 by omega]; rfl
          · rw [gI_k e0, if_neg (by omega)]
def fdX (x1 x2 x3 x4 x5 : Int32) (i : Nat) : Int32 := if 4 ≤ i then (if 8 ≤ i then (if 12 ≤ i then (if 16 ≤ i then x5 else x4) else x3) else x2) else x1
theorem fd_sh : ∀ i, i < 20 → (24 - (8 * (nI i - nI i / 4 * 4))) &&& 31 = (24 - 8 * nI (i % 4)) &&& 31 := by decide
theorem fd_if (x1 x2 x3 x4 x5 : Int32) {i : Nat} (hi : i < 20) : (if (4 ≤ nI i) then (if (8 ≤ nI i) then (if (12 ≤ nI i) then (if (16 ≤ nI i) then (some x5) else (some x4)) else (some x3)) else (some x2)) else (some x1) : Option Int32) = some (fdX x1 x2 x3 x4 x5 i) := by
  have e : ∀ n, n < 2 ^ 31 → ((nI n ≤ nI i) = (n ≤ i)) := fun n hn => propext (nI_leI hn (by omega))
  unfold fdX
  rw [show (4 : Int32) = nI 4 from rfl, show (8 : Int32) = nI 8 from rfl, show (12 : Int32) = nI 12 from rfl, show (16 : Int32) = nI 16 from rfl]
  simp only [e 4 (by decide), e 8 (by decide), e 12 (by decide), e 16 (by decide)]
  repeat' (first | rfl | split)
theorem rFeed {u : HS} {h : Nat} (x1 x2 x3 x4 x5 : Int32) (h1 : gI u 9 0 1 = nI h) (hh : h + 20 ≤ 400) {w : HS → Option (Int32 × HS)} : ∃ u', mX9_feed_L23 x5 x4 x3 x2 x1 w FU 0 u = w u' ∧ FT u u' ∧ (gI u' 45 = gI u 45 ∧ gI u' 5 = gI u 5 ∧ gI u' 9 0 0 = gI u 9 0 0) ∧ gI u' 9 0 1 = nI (h + 20) ∧ ∀ k, gI u' 60 0 k = if h ≤ k ∧ k < h + 20 then byW (fdX x1 x2 x3 x4 x5 (k - h)) ((k - h) % 4) else gI u 60 0 k := by
  refine loopR (fun fu (a : HS) y => mX9_feed_L23 x5 x4 x3 x2 x1 w fu y a) 20 0 (fun i a => FT u a ∧ (gI a 45 = gI u 45 ∧ gI a 5 = gI u 5 ∧ gI a 9 0 0 = gI u 9 0 0) ∧ gI a 9 0 1 = nI (h + i) ∧ ∀ k, gI a 60 0 k = if h ≤ k ∧ k < h + i then byW (fdX x1 x2 x3 x4 x5 (k - h)) ((k - h) % 4) else gI u 60 0 k) (fun o => ∃ u', o = w u' ∧ FT u u' ∧ (gI u' 45 = gI u 45 ∧ gI u' 5 = gI u 5 ∧ gI u' 9 0 0 = gI u 9 0 0) ∧ gI u' 9 0 1 = nI (h + 20) ∧ ∀ k, gI u' 60 0 k = if h ≤ k ∧ k < h + 20 then byW (fdX x1 x2 x3 x4 x5 (k - h)) ((k - h) % 4) else gI u 60 0 k) ?_ ?_ 20 0 u FU (Nat.le_refl _) rfl (FU_lt (by omega)) ⟨FT.rf, ⟨rfl, rfl, rfl⟩, h1, fun k => by rw [if_neg (by omega)]⟩
  · intro fu a i _ hi ⟨a1, ⟨a2, a3, a6⟩, a4, a5⟩ ih
    show ∃ u', mX9_feed_L23 x5 x4 x3 x2 x1 w (fu + 1) (nI i) a = w u' ∧ _
    rw [mX9_feed_L23.eq_2, if_neg (show ¬ (20 : Int32) ≤ nI i from nI_ge (b := 20) hi (by decide)), fd_if _ _ _ _ _ hi]
    simp only [ob_q, bd_q]
    rw [a4, ck_nI (show h + i < 400 by omega) (by decide)]
    simp only [ob_q]
    rw [gI_r (by decide), a4, nI_1, nI_1, fd_sh i hi]
    refine ih _ ⟨a1.c.d (Or.inr rfl), ⟨by rw [gI_r (by decide), gI_r (by decide), a2], by rw [gI_r (by decide), gI_r (by decide), a3], by rw [gI_k (by decide), gI_r (by decide), a6]⟩, by rw [gI_eq]; rfl, fun k => ?_⟩
    rw [gI_r (by decide)]
    by_cases e : k = h + i
    · rw [e, gI_eq, if_pos (by omega), show h + i - h = i by omega]; rfl
    · rw [gI_k e, a5]
      by_cases c : h ≤ k ∧ k < h + i
      · rw [if_pos c, if_pos (by omega)]
      · rw [if_neg c, if_neg (by omega)]
  · intro fu a ⟨a1, a2, a4, a5⟩
    show ∃ u', mX9_feed_L23 x5 x4 x3 x2 x1 w (fu + 1) (nI 20) a = w u' ∧ _
    rw [mX9_feed_L23.eq_2, if_pos (show (20 : Int32) ≤ nI 20 by decide)]
    exact ⟨a, rfl, a1, a2, a4, a5⟩
theorem FT.iv {u v : HS} {p : IP} (hF : FT u v) (h : IVc p u) (hv : IVs p u) (hT : ITa v) : IV v := by
  obtain ⟨h1, h2, h3, h4, h5, h6, h7, h8⟩ := h
  have e : ∀ r, r ≠ 5 ∧ r ≠ 45 ∧ r ≠ 60 ∧ r ≠ 9 → gI v r = gI u r := fun r hr => hF.1 r hr.1 hr.2.1 hr.2.2.1 hr.2.2.2
  have f : ∀ k, k ≠ 0 ∧ k ≠ 1 → gI v 9 0 k = gI u 9 0 k := fun k hk => hF.2.2.1 k hk.1 hk.2
  have e81 : lkF v = lkF u := by unfold lkF; rw [e 81 (by omega)]
  refine ⟨p, ⟨?_, hT, fun s hs => ?_, fun t ht => ?_, fun q hq => ?_, ?_, fun k hk => ?_, ?_⟩, ?_⟩
  · unfold ICn; rw [e 8 (by omega), f 14 (by omega), f 15 (by omega), f 16 (by omega), f 32 (by omega)]; exact h1
  · obtain ⟨a, b⟩ := h3 s hs
    exact ⟨a.fr (e 65 (by omega)) (e 66 (by omega)) (e 67 (by omega)) (e 69 (by omega)), b.eq (e 3 (by omega)) (e 38 (by omega)) (e 40 (by omega)) (e 41 (by omega)) (e 42 (by omega)) (e 43 (by omega)) (fun k _ => by rw [hF.2.2.2])⟩
  · rw [e 71 (by omega), e 6 (by omega)]; exact h4 t ht
  · obtain ⟨a, b, c⟩ := h5 q hq
    exact ⟨a.eq (e 73 (by omega)) (e 75 (by omega)) (e 76 (by omega)), b.eq (e 1 (by omega)) (e 32 (by omega)) (e 33 (by omega)) (e 34 (by omega)) (e 35 (by omega)) (e 36 (by omega)), c⟩
  · obtain ⟨a, ⟨b1, b2, b3, b4⟩, c⟩ := h6
    unfold IHa
    rw [f 28 (by omega), f 29 (by omega), f 30 (by omega), f 31 (by omega), e81, e 83 (by omega), e 85 (by omega), e 77 (by omega)]
    exact ⟨a, ⟨b1.eq (e 0 (by omega)) (e 20 (by omega)) (e 21 (by omega)) (e 22 (by omega)) (e 23 (by omega)) (e 24 (by omega)), b2.eq (e 0 (by omega)) (e 25 (by omega)) (e 26 (by omega)) (e 27 (by omega)), b3.eq (e 0 (by omega)) (e 28 (by omega)) (e 29 (by omega)) (e 30 (by omega)), b4.eq (e 0 (by omega)) (e 31 (by omega))⟩, c⟩
  · exact (h7 k hk).eq fun r hr => e r (by omega)
  · unfold IMo; rw [f 38 (by omega), f 39 (by omega), f 40 (by omega)]; exact h8
  · have := hv.of (v := v) (pN p) (pNr p) (pNb p) (Nat.le_refl _) (e 54 (by omega)) (fun l q _ => by rw [pS_id]; unfold loJ loE loS loT; rw [e81, e 83 (by omega), e 85 (by omega)])
    rw [pS_id] at this
    exact this
theorem s_feed (x1 x2 x3 x4 x5 : Int32) : StepN (fun u => mX8_feed u x1 x2 x3 x4 x5) (fun u => mX9_feed u x1 x2 x3 x4 x5) := by
  intro u hI
  have ⟨p, h, hv⟩ := hI
  obtain ⟨hd, hd4, t1, t2, t3, t4⟩ := h.2.1
  have n20 : ∀ n, nI n + 20 = nI (n + 20) := fun n => by rw [show (20 : Int32) = nI 20 from rfl, nI_add]
  by_cases c : hd + 20 ≤ 400
  · obtain ⟨a1, e1, f1, ⟨g1, k1⟩, r1, m1⟩ := cPut x1 t1 (by omega)
    obtain ⟨a2, e2, f2, ⟨g2, k2⟩, r2, m2⟩ := cPut x2 r1 (by omega)
    obtain ⟨a3, e3, f3, ⟨g3, k3⟩, r3, m3⟩ := cPut x3 r2 (by omega)
    obtain ⟨a4, e4, f4, ⟨g4, k4⟩, r4, m4⟩ := cPut x4 r3 (by omega)
    obtain ⟨a5, e5, f5, ⟨g5, k5⟩, r5, m5⟩ := cPut x5 r4 (by omega)
    have F := (((f1.tr f2).tr f3).tr f4).tr f5
    have k9 : gI a5 9 = gI u 9 := by rw [k5, k4, k3, k2, k1]
    have k60 : gI a5 60 = gI u 60 := by rw [g5, g4, g3, g2, g1]
    have w1 : gI (w0 a5) 9 0 1 = nI hd := by unfold w0; rw [gI_k (by decide), k9, t2]
    obtain ⟨b, eb, fb, ⟨b2, b3, b6⟩, b4, b5⟩ := rFeed x1 x2 x3 x4 x5 w1 c (w := fun u105 => some (gI u105 9 0 1, u105))
    have hle : (nI (hd + 20) : Int32) ≤ 400 := nI_le (b := 400) (by omega) (by decide)
    have nle : ¬ (400 : Int32) < nI (hd + 20) := nI_nlt (a := 400) (by omega) (by omega)
    refine ⟨nI (hd + 20), a5, b, ?_, ?_, by rw [b6]; exact w00, (F.tr (FT.rf.d (k := 0) (x := 0) (Or.inl rfl) |>.tr fb)).iv h hv ⟨hd + 20, c, ?_, b4, fun k hk => ?_, ?_⟩⟩
    · show mX8_feed u x1 x2 x3 x4 x5 = _
      unfold mX8_feed mX5_hasRoom
      rw [t1, n20, if_neg nle]
      simp only [ob_q, e10, if_false, e1, e2, e3, e4, e5, r5]
    · show mX9_feed a5 x1 x2 x3 x4 x5 = _
      unfold mX9_feed
      simp only [bd_q, jp_q, w0e, w1, n20]
      rw [if_pos hle, eb, b4]
    · rw [b3]; show gI (w0 a5) 5 0 1 = _; unfold w0; rw [gI_r (by decide), r5]
    · rw [b2, b5]
      show gI (w0 a5) 45 0 k = if _ then _ else gI (w0 a5) 60 0 k
      unfold w0
      rw [gI_r (by decide), gI_r (by decide), k60, ← t3 k hk, m5, m4, m3, m2, m1]
      by_cases d5 : hd + 4 + 4 + 4 + 4 ≤ k ∧ k < hd + 4 + 4 + 4 + 4 + 4
      · rw [if_pos d5, if_pos (by omega)]; unfold fdX; rw [if_pos (by omega), if_pos (by omega), if_pos (by omega), if_pos (by omega)]; congr 1; omega
      · rw [if_neg d5]
        by_cases d4 : hd + 4 + 4 + 4 ≤ k ∧ k < hd + 4 + 4 + 4 + 4
        · rw [if_pos d4, if_pos (by omega)]; unfold fdX; rw [if_pos (by omega), if_pos (by omega), if_pos (by omega), if_neg (by omega)]; congr 1; omega
        · rw [if_neg d4]
          by_cases d3 : hd + 4 + 4 ≤ k ∧ k < hd + 4 + 4 + 4
          · rw [if_pos d3, if_pos (by omega)]; unfold fdX; rw [if_pos (by omega), if_pos (by omega), if_neg (by omega)]; congr 1; omega
          · rw [if_neg d3]
            by_cases d2 : hd + 4 ≤ k ∧ k < hd + 4 + 4
            · rw [if_pos d2, if_pos (by omega)]; unfold fdX; rw [if_pos (by omega), if_neg (by omega)]; congr 1; omega
            · rw [if_neg d2]
              by_cases d1 : hd ≤ k ∧ k < hd + 4
              · rw [if_pos d1, if_pos (by omega)]; unfold fdX; rw [if_neg (by omega)]; congr 1; omega
              · rw [if_neg d1, if_neg (by omega)]
    · rw [b3]; show gI (w0 a5) 5 0 6 = gI b 9 0 3
      rw [fb.2.2.1 3 (by decide) (by decide)]
      unfold w0
      rw [gI_r (by decide), gI_k (by decide), k9, F.2.1 6 (by decide), t4]
  · have lt : (400 : Int32) < nI (hd + 20) := nI_lt (a := 400) (by omega) (by omega)
    refine ⟨-1, u, w0 u, ?_, ?_, w00, p, w0c h, QF.w0.s w054 hv⟩
    · show mX8_feed u x1 x2 x3 x4 x5 = _
      unfold mX8_feed mX5_hasRoom
      rw [t1, n20, if_pos lt]
      simp only [ob_q, if_true]
    · show mX9_feed u x1 x2 x3 x4 x5 = _
      unfold mX9_feed
      have w1 : gI (w0 u) 9 0 1 = nI hd := by unfold w0; rw [gI_k (by decide), t2]
      simp only [bd_q, jp_q, w0e, w1, n20]
      rw [if_neg (Int32.not_le.mpr lt)]
