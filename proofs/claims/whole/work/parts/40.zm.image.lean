theorem rImage {s : HS} {k nl : Nat} (hk : k < 3) (hn : nl ≤ 4) (h16 : gI s 9 0 16 = nI nl) : ∃ v, mX9_movesAll s (nI k) 0 = some v ∧ gR v = gR s ∧ (∀ r i c, NF r i c → ¬ (r = 87 ∧ i = k) → gI v r i c = gI s r i c) ∧ (∀ r i c, posR r i c < 481 → gI v 87 k (posR r i c) = gI s r i c) ∧ gI v 87 k 4 = gI s 9 0 16 := by
  obtain ⟨v1, v2, v3, e, m1, ⟨g0, g1⟩, m3⟩ := rMoves (b := false) (u := s) hk hn (by rw [if_neg (by decide)]; exact h16)
  obtain ⟨-, r1, a⟩ := m1
  obtain ⟨-, r3, c⟩ := m3
  rw [if_neg (by decide)] at a c
  obtain ⟨a1, a2, a3, a4⟩ := a
  obtain ⟨c1, c2, c3, c4⟩ := c
  have g : ∀ r i c, gI v2 r i c = gI v1 r i c := fun r i c => by rw [g1, if_neg (by simp)]
  refine ⟨v3, e, by rw [r3, g0, r1], fun r i c hf h8 => by rw [c1 r i c hf h8, g, a1 r i c hf h8], fun r i c hp => ?_, ?_⟩
  · have pc := posR_c r i c
    by_cases d : posR r i c < 9
    · rw [c3 _ d, g]; exact a2 r i c (by omega) d
    · rw [c2 r i c (by omega) hp, g]
      exact a1 r i c (fun q => by omega) (fun q => by omega)
  · rw [c3 4 (by decide), g]; exact a4 (by decide) (by decide)
theorem rRestore {s : HS} {k h : Nat} (hk : k < 3) (hh : h ≤ 4) (h4 : gI s 87 k 4 = nI h) : ∃ v, mX9_movesAll s (nI k) 1 = some v ∧ gR v = gR s ∧ ∀ r i c, NF r i c → gI v r i c = if posR r i c < 481 then (if r = 77 ∧ i = 0 ∧ h ≤ c ∧ c < 4 then 1 else gI s 87 k (posR r i c)) else gI s r i c := by
  obtain ⟨v1, v2, v3, e, m1, ⟨g0, g1⟩, m3⟩ := rMoves (b := true) (u := s) hk hh (by rw [if_pos rfl]; exact h4)
  obtain ⟨-, r1, a⟩ := m1
  obtain ⟨-, r3, c⟩ := m3
  rw [if_pos rfl] at a c
  have h87 : ∀ j, gI v2 87 k j = gI s 87 k j := fun j => by
    have pc := posR_c 87 k j
    rw [g1, if_neg (by omega), a 87 k j (fun q => by omega), if_neg (by omega)]
  refine ⟨v3, e, by rw [r3, g0, r1], fun r i c' hf => ?_⟩
  have pc := posR_c r i c'
  rw [c r i c' hf, h87, g1, a r i c' hf]
  by_cases d : posR r i c' < 481
  · rw [if_pos d]
    by_cases d9 : posR r i c' < 9
    · rw [if_neg (by omega), if_pos (show 0 ≤ posR r i c' ∧ posR r i c' < 9 by omega)]
      by_cases q : r = 77 ∧ i = 0 ∧ h ≤ c' ∧ c' < 4
      · rw [if_pos q, if_pos ⟨rfl, q⟩]
      · rw [if_neg q, if_neg (fun z => q z.2)]
    · rw [if_pos (show 9 ≤ posR r i c' ∧ posR r i c' < 481 by omega), if_neg (by omega)]
  · have q : ¬ (true = true ∧ r = 77 ∧ i = 0 ∧ h ≤ c' ∧ c' < 4) := fun z => d (by rw [z.2.1, z.2.2.1, pos77 z.2.2.2.2]; omega)
    rw [if_neg d, if_neg (fun z => d z.2), if_neg q, if_neg (by omega)]
/-! a looker's rows in another slot -/
theorem HL.sl {u v : HS} {a b n : Nat} {lk lk' : Nat → Nat → Int32} (h : HL u a n lk) (h0 : gI v 0 b 0 = gI u 0 a 0) (h3 : gI v 0 b 3 = gI u 0 a 3) (e : ∀ r, 20 ≤ r ∧ r ≤ 31 → gI v r b = gI u r a) (hl : ∀ l j, l < n → j < 8 → lk' l j = lk l j) : HL v b n lk' := by
  obtain ⟨x1, x2, x3⟩ := h
  refine ⟨x1, h0.trans x2, fun l hln => ?_⟩
  obtain ⟨d0, d1, d2, d3, d6, d7⟩ := x3 l hln
  rw [h3, e 20 (by omega), e 21 (by omega), e 22 (by omega), e 23 (by omega), e 24 (by omega), hl l 0 hln (by omega), hl l 1 hln (by omega), hl l 2 hln (by omega), hl l 6 hln (by omega), hl l 7 hln (by omega)]
  exact ⟨d0, d1, d2, fun a' ha' => by rw [hl l _ hln (by omega)]; exact d3 a' ha', d6, d7⟩
theorem HE.sl {u v : HS} {a b n : Nat} {ey ey' : Nat → Nat → Int32} (h : HE u a n ey) (h7 : gI v 0 b 7 = gI u 0 a 7) (e : ∀ r, 20 ≤ r ∧ r ≤ 31 → gI v r b = gI u r a) (hl : ∀ l j, l < n → j < 4 → ey' l j = ey l j) : HE v b n ey' := by
  obtain ⟨x1, x2, x3⟩ := h
  refine ⟨x1, h7.trans x2, fun l hln => ?_⟩
  rw [e 25 (by omega), e 26 (by omega), e 27 (by omega), hl l 0 hln (by omega), hl l 1 hln (by omega), hl l 2 hln (by omega), hl l 3 hln (by omega)]
  exact x3 l hln
theorem HB.sl {u v : HS} {a b n : Nat} {bl bl' : Nat → Nat → Int32} (h : HB u a n bl) (h7 : gI v 0 b 11 = gI u 0 a 11) (e : ∀ r, 20 ≤ r ∧ r ≤ 31 → gI v r b = gI u r a) (hl : ∀ l j, l < n → j < 3 → bl' l j = bl l j) : HB v b n bl' := by
  obtain ⟨x1, x2, x3⟩ := h
  refine ⟨x1, h7.trans x2, fun l hln => ?_⟩
  rw [e 28 (by omega), e 29 (by omega), e 30 (by omega), hl l 0 hln (by omega), hl l 1 hln (by omega), hl l 2 hln (by omega)]
  exact x3 l hln
theorem HW.sl {u v : HS} {a b : Nat} {wt wt' : Nat → Int32} {sl sl' : Int32} (h : HW u a wt sl) (h7 : gI v 0 b 16 = gI u 0 a 16) (e : ∀ r, 20 ≤ r ∧ r ≤ 31 → gI v r b = gI u r a) (hl : ∀ l, l < 4 → wt' l = wt l) (hs : sl' = sl) : HW v b wt' sl' :=
  ⟨fun l hln => by rw [e 31 (by omega), hl l hln]; exact h.1 l hln, by rw [h7, hs]; exact h.2⟩
theorem VL.cg {ns nt n : Nat} {lk lk' : Nat → Nat → Int32} (h : VL ns nt n lk) (hl : ∀ l j, l < n → j < 8 → lk' l j = lk l j) : VL ns nt n lk' := by
  intro l hln
  rw [hl l 0 hln (by omega), hl l 1 hln (by omega), hl l 2 hln (by omega), hl l 6 hln (by omega), hl l 7 hln (by omega)]
  obtain ⟨d0, d1, d2, d3, d6⟩ := h l hln
  exact ⟨d0, d1, d2, fun a ha => by rw [hl l _ hln (by omega)]; exact d3 a ha, d6⟩
theorem VE.cg {n : Nat} {ey ey' : Nat → Nat → Int32} (h : VE n ey) (hl : ∀ l j, l < n → j < 4 → ey' l j = ey l j) : VE n ey' := by
  intro l hln
  rw [hl l 0 hln (by omega), hl l 1 hln (by omega), hl l 2 hln (by omega), hl l 3 hln (by omega)]
  exact h l hln
theorem VB.cg {n : Nat} {bl bl' : Nat → Nat → Int32} (h : VB n bl) (hl : ∀ l j, l < n → j < 3 → bl' l j = bl l j) : VB n bl' := by
  intro l hln
  rw [hl l 0 hln (by omega), hl l 1 hln (by omega), hl l 2 hln (by omega)]
  exact h l hln
theorem VW.cg {n : Nat} {wt wt' : Nat → Int32} {sl sl' : Int32} (h : VW n wt sl) (hl : ∀ l, l < 4 → wt' l = wt l) (hs : sl' = sl) : VW n wt' sl' := by
  refine ⟨fun q hq => by rw [hl q hq]; exact h.1 q hq, fun q a b => by rw [hl q b]; exact h.2.1 q a b, by rw [hs]; exact h.2.2⟩
def pI (p : IP) (i n r b : Nat) : IP := ((pNs p, pNt p, pNl p, i), (n, r, b), p.2.2)
theorem IM.sl {p : IP} {u v : HS} {k i n r b : Nat} (e : ∀ r, (r = 0 ∨ (20 ≤ r ∧ r ≤ 31)) → gI v r (k + 1) = gI u r (k + 1)) (e87 : gI v 87 k = gI u 87 k) (h : IM p u k) : IM (pI p i n r b) v k := by
  obtain ⟨n, nr, nb, h', a⟩ := h
  refine ⟨n, nr, nb, h', ?_⟩
  unfold HL HE HB HW at a ⊢
  rw [e87, e 0 (by omega), e 20 (by omega), e 21 (by omega), e 22 (by omega), e 23 (by omega), e 24 (by omega), e 25 (by omega), e 26 (by omega), e 27 (by omega), e 28 (by omega), e 29 (by omega), e 30 (by omega), e 31 (by omega)]
  exact a
/-- what images leave as it was -/
def FI (u v : HS) : Prop := (∀ r, r ≠ 0 → (r < 20 ∨ 31 < r) → r ∉ [8, 9, 54, 77, 81, 83, 85, 87] → gI v r = gI u r) ∧ (∀ k, k ≠ 10 → gI v 8 0 k = gI u 8 0 k) ∧ (∀ k, k < 28 ∨ 37 < k → k ≠ 0 → gI v 9 0 k = gI u 9 0 k) ∧ gR v = gR u
theorem FI.iv {p : IP} {u v : HS} {i n r b : Nat} (hF : FI u v) (h : IVc p u) (hi : i ≤ 3) (h8 : gI v 8 0 10 = nI i) (h9 : gI v 9 0 32 = nI i) (hH : IHa (pI p i n r b) v) (hM : ∀ k, k < i → IM (pI p i n r b) v k) : IVc (pI p i n r b) v := by
  obtain ⟨⟨⟨n1, n2, n3, n4⟩, ⟨c1, c2, c3, c4⟩, d1, d2, d3, d4⟩, h2, h3, h4, h5, h6, h7, h8'⟩ := h
  have e : ∀ r, r ≠ 0 ∧ (r < 20 ∨ 31 < r) ∧ r ≠ 8 ∧ r ≠ 9 ∧ r ≠ 54 ∧ r ≠ 77 ∧ r ≠ 81 ∧ r ≠ 83 ∧ r ≠ 85 ∧ r ≠ 87 → gI v r = gI u r := fun r hr => hF.1 r (by omega) (by omega) (by simp only [List.mem_cons, List.not_mem_nil, or_false]; omega)
  refine ⟨⟨⟨n1, n2, n3, hi⟩, ⟨(hF.2.1 2 (by decide)).trans c1, (hF.2.1 4 (by decide)).trans c2, (hF.2.1 6 (by decide)).trans c3, h8⟩, (hF.2.2.1 14 (by decide) (by decide)).trans d1, (hF.2.2.1 15 (by decide) (by decide)).trans d2, (hF.2.2.1 16 (by decide) (by decide)).trans d3, h9⟩, ?_, fun s hs => ?_, fun t ht => ?_, fun q hq => ?_, hH, hM, ?_⟩
  · unfold ITa; rw [e 5 (by omega), e 45 (by omega), e 60 (by omega), hF.2.2.1 1 (by decide) (by decide), hF.2.2.1 3 (by decide) (by decide)]; exact h2
  · obtain ⟨a, b⟩ := h3 s hs
    exact ⟨a.fr (e 65 (by omega)) (e 66 (by omega)) (e 67 (by omega)) (e 69 (by omega)), b.eq (e 3 (by omega)) (e 38 (by omega)) (e 40 (by omega)) (e 41 (by omega)) (e 42 (by omega)) (e 43 (by omega)) (fun k _ => by rw [hF.2.2.2])⟩
  · rw [e 71 (by omega), e 6 (by omega)]; exact h4 t ht
  · obtain ⟨a, b, c⟩ := h5 q hq
    exact ⟨a.eq (e 73 (by omega)) (e 75 (by omega)) (e 76 (by omega)), b.eq (e 1 (by omega)) (e 32 (by omega)) (e 33 (by omega)) (e 34 (by omega)) (e 35 (by omega)) (e 36 (by omega)), c⟩
  · unfold IMo; rw [hF.2.2.1 38 (by decide) (by decide), hF.2.2.1 39 (by decide) (by decide), hF.2.2.1 40 (by decide) (by decide)]; exact h8'
theorem s_image : StepN mX8_image mX9_image := by
  intro u hI
  have ⟨p, h, hv⟩ := hI
  obtain ⟨⟨n1, n2, n3, n4⟩, ⟨c1, c2, c3, c4⟩, d1, d2, d3, d4⟩ := h.1
  by_cases c : pNi p = 3
  · refine ⟨-1, u, w0 u, ?_, ?_, w00, p, w0c h, QF.w0.s w054 hv⟩
    · unfold mX8_image; rw [c4, c, if_pos (by rfl)]
    · unfold mX9_image
      simp only [bd_q, w0e, show gI (w0 u) 9 0 32 = 3 from by unfold w0; rw [gI_k (by decide), d4, c]; rfl, if_true]
  · have hk : pNi p < 3 := by omega
    have nk3 : ¬ nI (pNi p) = 3 := fun y => c ((nI_eq (b := 3) (by omega) (by decide)).mp y)
    obtain ⟨uc, ec, k1, k2, k3, ⟨k40, k43, k47, k411, k416⟩, k5⟩ := cCopy u (a := pNi p + 1) (b := 0) (by omega)
    have z8 : gI uc 8 0 10 = nI (pNi p) := by rw [k1 8 (by decide) (by decide), c4]
    obtain ⟨u1, hu1⟩ : ∃ u1, u1 = wI uc 8 0 10 (nI (pNi p + 1)) := ⟨_, rfl⟩
    have S9 : ∀ k, k ≠ 0 → gI (w0 u1) 9 0 k = gI u 9 0 k := fun k hk => by unfold w0; rw [gI_k hk, hu1, gI_r (by decide), k1 9 (by decide) (by decide)]
    have S : ∀ r, r ≠ 9 → r ≠ 8 → r ≠ 0 → (r < 20 ∨ 31 < r) → gI (w0 u1) r = gI u r := fun r a b c d => by unfold w0; rw [gI_r a, hu1, gI_r b, k1 r c d]
    have Sa : ∀ r, (r = 0 ∨ (20 ≤ r ∧ r ≤ 31)) → gI (w0 u1) r = gI uc r := fun r a => by unfold w0; rw [gI_r (by omega), hu1, gI_r (by omega)]
    obtain ⟨v, ev, vR, v1, v2, v3⟩ := rImage (s := w0 u1) hk n3 (by rw [S9 16 (by decide), d3])
    have z9 : gI (w0 u1) 9 0 32 = nI (pNi p) := by rw [S9 32 (by decide), d4]
    have y9 : gI v 9 0 32 = nI (pNi p) := by rw [v1 9 0 32 (fun q => by omega) (fun q => by omega), z9]
    obtain ⟨u2, hu2⟩ : ∃ u2, u2 = wI v 9 0 32 (nI (pNi p + 1)) := ⟨_, rfl⟩
    have T : ∀ r, r ≠ 9 → r ≠ 87 → gI u2 r = gI (w0 u1) r := fun r a b => by
      funext i c'; rw [hu2, gI_r a]; exact v1 r i c' (fun q => a q.1) (fun q => b q.1)
    have T9 : ∀ k, k ≠ 32 → k ≠ 37 → gI u2 9 0 k = gI (w0 u1) 9 0 k := fun k a b => by rw [hu2, gI_k a]; exact v1 9 0 k (fun q => b q.2.2) (fun q => by omega)
    have T87 : ∀ r i c', posR r i c' < 481 → gI u2 87 (pNi p) (posR r i c') = gI (w0 u1) r i c' := fun r i c' q => by rw [hu2, gI_r (by decide)]; exact v2 r i c' q
    have hFI : FI u u2 := by
      refine ⟨fun r a b c => ?_, fun k a => ?_, fun k a b => ?_, ?_⟩
      · simp only [List.mem_cons, List.not_mem_nil, or_false] at c
        rw [T r (by omega) (by omega), S r (by omega) (by omega) a b]
      · rw [T 8 (by decide) (by decide)]; unfold w0; rw [gI_r (by decide), hu1, gI_k a, k1 8 (by decide) (by decide)]
      · rw [T9 k (by omega) (by omega), S9 k b]
      · rw [hu2]; show gR v = gR u; rw [vR]; show gR u1 = gR u; rw [hu1]; exact k5
    obtain ⟨⟨a1, a2, a3⟩, ⟨b1, b2, b3, b4⟩, e1, e2, e3, e4⟩ := h.2.2.2.2.2.1
    have S81 : gI u2 81 = gI u 81 := by rw [T 81 (by decide) (by decide), S 81 (by decide) (by decide) (by decide) (by decide)]
    have S83 : gI u2 83 = gI u 83 := by rw [T 83 (by decide) (by decide), S 83 (by decide) (by decide) (by decide) (by decide)]
    have S85 : gI u2 85 = gI u 85 := by rw [T 85 (by decide) (by decide), S 85 (by decide) (by decide) (by decide) (by decide)]
    have S77 : gI u2 77 = gI u 77 := by rw [T 77 (by decide) (by decide), S 77 (by decide) (by decide) (by decide) (by decide)]
    have sl0 : ∀ r, (r = 0 ∨ (20 ≤ r ∧ r ≤ 31)) → ∀ i, i ≠ pNi p + 1 → gI u2 r i = gI u r i := fun r hr i hi => by rw [T r (by omega) (by omega), Sa r hr, k2 r i hi]
    have slN : ∀ r, 20 ≤ r ∧ r ≤ 31 → gI u2 r (pNi p + 1) = gI u r 0 := fun r hr => by rw [T r (by omega) (by omega), Sa r (by omega), k3 r hr]
    have sl00 : gI u2 0 (pNi p + 1) = gI uc 0 (pNi p + 1) := by rw [T 0 (by decide) (by decide), Sa 0 (by omega)]
    have elk : lkF u2 = lkF u := by unfold lkF; rw [S81]
    have iL : ∀ l j, l < pN p → j < 8 → imL (gI u2 87 (pNi p)) l j = lkF u l j := fun l j hl hj => by
      have h14 := b1.1
      unfold imL
      rw [← pos81 (i := l) (j := j) (by omega) hj, T87 81 l j (by rw [pos81 (by omega) hj]; omega), S 81 (by decide) (by decide) (by decide) (by decide)]
      unfold lkF; rw [if_pos (by omega)]
    have iE : ∀ l j, l < pNr p → j < 4 → imE (gI u2 87 (pNi p)) l j = gI u 83 l j := fun l j hl hj => by
      have h60 := b2.1
      unfold imE
      rw [← pos83 (i := l) (j := j) (by omega) hj, T87 83 l j (by rw [pos83 (by omega) hj]; omega), S 83 (by decide) (by decide) (by decide) (by decide)]
    have iB : ∀ l j, l < pNb p → j < 3 → imB (gI u2 87 (pNi p)) l j = gI u 85 l j := fun l j hl hj => by
      have h40 := b3.1
      unfold imB
      rw [← pos85 (i := l) (j := j) (by omega) hj, T87 85 l j (by rw [pos85 (by omega) hj]; omega), S 85 (by decide) (by decide) (by decide) (by decide)]
    have iW : ∀ q, q < 4 → imW (gI u2 87 (pNi p)) (pNl p) q = gI u 77 0 q := fun q hq => by
      unfold imW
      by_cases d : q < pNl p
      · rw [if_pos d, ← pos77 hq, T87 77 0 q (by rw [pos77 hq]; omega), S 77 (by decide) (by decide) (by decide) (by decide)]
      · rw [if_neg d, e4.2.1 q (by omega) hq]
    have f9 : ∀ c', 28 ≤ c' → c' ≤ 31 → gI u2 87 (pNi p) (c' - 28) = gI u 9 0 c' := fun c' x y => by
      have : posR 9 0 c' = c' - 28 := by unfold posR; rw [if_pos ⟨rfl, rfl, x, y⟩]
      rw [← this, T87 9 0 c' (by omega), S9 c' (by omega)]
    refine ⟨nI (pNi p + 1), u1, u2, ?_, ?_, by rw [T9 0 (by decide) (by decide), w00], pI p (pNi p + 1) (pN p) (pNr p) (pNb p), hFI.iv h (by omega) ?_ ?_ ?_ ?_, ?_⟩
    · unfold mX8_image
      rw [c4, if_neg nk3, ck3 hk]
      simp only [ob_q, bd_q, ec, z8, nI_1, gI_eq]
      rw [← hu1]
    · unfold mX9_image
      simp only [bd_q, w0e, z9]
      rw [if_neg nk3, ev]
      simp only [ob_q, y9, nI_1, gI_eq]
      rw [← hu2]
    · rw [T 8 (by decide) (by decide)]; unfold w0; rw [gI_r (by decide), hu1, gI_eq]
    · rw [hu2, gI_eq]
    · refine ⟨⟨by rw [T9 28 (by decide) (by decide), S9 28 (by decide)]; exact a1, by rw [T9 29 (by decide) (by decide), S9 29 (by decide)]; exact a2, by rw [T9 30 (by decide) (by decide), S9 30 (by decide)]; exact a3⟩, ⟨?_, ?_, ?_, ?_⟩, ?_, ?_, ?_, ?_⟩
      · rw [elk]; exact b1.sl (by rw [sl0 0 (by omega) 0 (by omega)]) (by rw [sl0 0 (by omega) 0 (by omega)]) (fun r hr => sl0 r (by omega) 0 (by omega)) (fun _ _ _ _ => rfl)
      · rw [S83]; exact b2.sl (by rw [sl0 0 (by omega) 0 (by omega)]) (fun r hr => sl0 r (by omega) 0 (by omega)) (fun _ _ _ _ => rfl)
      · rw [S85]; exact b3.sl (by rw [sl0 0 (by omega) 0 (by omega)]) (fun r hr => sl0 r (by omega) 0 (by omega)) (fun _ _ _ _ => rfl)
      · rw [S77, T9 31 (by decide) (by decide), S9 31 (by decide)]; exact b4.sl (by rw [sl0 0 (by omega) 0 (by omega)]) (fun r hr => sl0 r (by omega) 0 (by omega)) (fun _ _ => rfl) rfl
      · rw [elk]; exact e1
      · rw [S83]; exact e2
      · rw [S85]; exact e3
      · rw [S77, T9 31 (by decide) (by decide), S9 31 (by decide)]; exact e4
    · intro k hk'
      by_cases e : k = pNi p
      · subst e
        refine ⟨pN p, pNr p, pNb p, pNl p, Nat.le_refl _, (f9 28 (by decide) (by decide)).trans a1, (f9 29 (by decide) (by decide)).trans a2, (f9 30 (by decide) (by decide)).trans a3, ?_, ?_, ?_, ?_, ?_, e1.cg iL, e2.cg iE, e3.cg iB, e4.cg iW (f9 31 (by decide) (by decide))⟩
        · rw [hu2, gI_r (by decide), v3, S9 16 (by decide), d3]
        · exact b1.sl (by rw [sl00, k40]) (by rw [sl00, k43]) slN iL
        · exact b2.sl (by rw [sl00, k47]) slN iE
        · exact b3.sl (by rw [sl00, k411]) slN iB
        · exact b4.sl (by rw [sl00, k416]) slN iW (f9 31 (by decide) (by decide))
      · refine (h.2.2.2.2.2.2.1 k (by omega)).sl (fun r hr => sl0 r hr (k + 1) (by omega)) ?_
        funext c'
        rw [hu2, gI_r (by decide), v1 87 k c' (fun q => by omega) (fun q => e q.2), S 87 (by decide) (by decide) (by decide) (by decide)]
    · have S54 : gI u2 54 = gI u 54 := by rw [T 54 (by decide) (by decide), S 54 (by decide) (by decide) (by decide) (by decide)]
      refine ⟨fun l q hl hq => ?_, fun s t q hs ht hq => ?_⟩
      · rw [S54]
        rcases hv.1 l q hl hq with z | ⟨z1, z2, z3⟩
        · exact Or.inl z
        · refine Or.inr ⟨z1, z2, z3.trans ?_⟩
          unfold loJ loE loS loT
          rw [elk, S83, S85]
          rfl
      · rw [S54]; exact hv.2 s t q hs ht hq
