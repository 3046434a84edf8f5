/-! ===== the invariant of the whole store ===== -/
abbrev IP : Type := (Nat × Nat × Nat × Nat) × (Nat × Nat × Nat) × (Nat → SV) × (Nat → Nat → Int32) × (Nat → LT)
def pNs (p : IP) : Nat := p.1.1
def pNt (p : IP) : Nat := p.1.2.1
def pNl (p : IP) : Nat := p.1.2.2.1
def pNi (p : IP) : Nat := p.1.2.2.2
def pN (p : IP) : Nat := p.2.1.1
def pNr (p : IP) : Nat := p.2.1.2.1
def pNb (p : IP) : Nat := p.2.1.2.2
def pC (p : IP) (s : Nat) : SV := p.2.2.1 s
def pT (p : IP) (t j : Nat) : Int32 := p.2.2.2.1 t j
def pW (p : IP) (q : Nat) : LT := p.2.2.2.2 q
/-- lookers' rows, without the one that is new -/
def lkF (u : HS) (l j : Nat) : Int32 := if l < 14 then gI u 81 l j else 0
def VW (nl : Nat) (wt : Nat → Int32) (sl : Int32) : Prop := (∀ q, q < 4 → ∃ v, 1 ≤ v ∧ v < 10 ∧ wt q = nI v) ∧ (∀ q, nl ≤ q → q < 4 → wt q = 1) ∧ ∃ v, 1 ≤ v ∧ v < 9 ∧ sl = nI v
/-- an image's row, as the reference keeps it -/
def imL (f : Nat → Int32) (l j : Nat) : Int32 := f (9 + 8 * l + j)
def imE (f : Nat → Int32) (r j : Nat) : Int32 := f (121 + 4 * r + j)
def imB (f : Nat → Int32) (b j : Nat) : Int32 := f (361 + 3 * b + j)
def imW (f : Nat → Int32) (h q : Nat) : Int32 := if q < h then f (5 + q) else 1
def IM (p : IP) (u : HS) (k : Nat) : Prop := ∃ n nr nb h, h ≤ pNl p ∧ gI u 87 k 0 = nI n ∧ gI u 87 k 1 = nI nr ∧ gI u 87 k 2 = nI nb ∧ gI u 87 k 4 = nI h ∧ HL u (k + 1) n (imL (gI u 87 k)) ∧ HE u (k + 1) nr (imE (gI u 87 k)) ∧ HB u (k + 1) nb (imB (gI u 87 k)) ∧ HW u (k + 1) (imW (gI u 87 k) h) (gI u 87 k 3) ∧ VL (pNs p) (pNt p) n (imL (gI u 87 k)) ∧ VE nr (imE (gI u 87 k)) ∧ VB nb (imB (gI u 87 k)) ∧ VW h (imW (gI u 87 k) h) (gI u 87 k 3)
def ICn (p : IP) (u : HS) : Prop := (pNs p ≤ 6 ∧ pNt p ≤ 6 ∧ pNl p ≤ 4 ∧ pNi p ≤ 3) ∧ (gI u 8 0 2 = nI (pNs p) ∧ gI u 8 0 4 = nI (pNt p) ∧ gI u 8 0 6 = nI (pNl p) ∧ gI u 8 0 10 = nI (pNi p)) ∧ gI u 9 0 14 = nI (pNs p) ∧ gI u 9 0 15 = nI (pNt p) ∧ gI u 9 0 16 = nI (pNl p) ∧ gI u 9 0 32 = nI (pNi p)
def ITa (u : HS) : Prop := ∃ h, h ≤ 400 ∧ gI u 5 0 1 = nI h ∧ gI u 9 0 1 = nI h ∧ (∀ k, k < 400 → gI u 45 0 k = gI u 60 0 k) ∧ gI u 5 0 6 = gI u 9 0 3
def ISc (p : IP) (u : HS) : Prop := ∀ s, s < pNs p → RS u s (pC p s) ∧ SO u s (pC p s)
def ITk (p : IP) (u : HS) : Prop := ∀ t, t < pNt p → (∀ j, gI u 71 t j = pT p t j) ∧ ∀ j, j < 5 → gI u 6 t j = pT p t j
def ILw (p : IP) (u : HS) : Prop := ∀ q, q < pNl p → LR u q (pW p q) ∧ LC u q (pW p q) ∧ LWF (pW p q)
def IHa (p : IP) (u : HS) : Prop := (gI u 9 0 28 = nI (pN p) ∧ gI u 9 0 29 = nI (pNr p) ∧ gI u 9 0 30 = nI (pNb p)) ∧ (HL u 0 (pN p) (lkF u) ∧ HE u 0 (pNr p) (gI u 83) ∧ HB u 0 (pNb p) (gI u 85) ∧ HW u 0 (gI u 77 0) (gI u 9 0 31)) ∧ VL (pNs p) (pNt p) (pN p) (lkF u) ∧ VE (pNr p) (gI u 83) ∧ VB (pNb p) (gI u 85) ∧ VW (pNl p) (gI u 77 0) (gI u 9 0 31)
def IMo (u : HS) : Prop := gI u 9 0 38 = 0 ∧ gI u 9 0 39 = 0 ∧ gI u 9 0 40 = 1
def IVc (p : IP) (u : HS) : Prop := ICn p u ∧ ITa u ∧ ISc p u ∧ ITk p u ∧ ILw p u ∧ IHa p u ∧ (∀ k, k < pNi p → IM p u k) ∧ IMo u
/-- a looker's scene, task, eyes, state -/
def loS (u : HS) (l : Nat) : Nat := (lkF u l 0).toNatClampNeg
def loT (u : HS) (l : Nat) : Nat := (lkF u l 1).toNatClampNeg
def loE (p : IP) (u : HS) (l : Nat) : Int32 → Int32 := eyS (gI u 83) (pNr p) (gI u 85) (pNb p) (nI l) (pC p (loS u l)) (pT p (loT u l) 2)
def loJ (p : IP) (u : HS) (q l : Nat) : Int32 := jdS (pW p q) (pC p (loS u l)) (pT p (loT u l)) (lkF u l 2) (loE p u l)
def neJ (p : IP) (q s t : Nat) : Int32 := jdS (pW p q) (pC p s) (pT p t) 0 (thrE (pC p s) (pT p t 2))
def IVs (p : IP) (u : HS) : Prop := (∀ l q, l < 14 → q < 4 → gI u 54 0 (4 * l + q) = -1 ∨ (l < pN p ∧ q < pNl p ∧ gI u 54 0 (4 * l + q) = loJ p u q l)) ∧ ∀ s t q, s < 6 → t < 6 → q < 4 → gI u 54 0 (4 * (14 + 6 * s + t) + q) = -1 ∨ (s < pNs p ∧ t < pNt p ∧ q < pNl p ∧ gI u 54 0 (4 * (14 + 6 * s + t) + q) = neJ p q s t)
def IV (u : HS) : Prop := ∃ p, IVc p u ∧ IVs p u
/-- what a question leaves as it was -/
def QF (u v : HS) : Prop := (∀ r, r ∉ [4, 7, 44, 46, 47, 48, 54, 78, 79, 81] → r ≠ 9 → gI v r = gI u r) ∧ lkF v = lkF u ∧ (∀ k, k ∉ [0, 41, 42] → gI v 9 0 k = gI u 9 0 k) ∧ ∀ k, k ≠ 1 → k ≠ 2 → gR v k = gR u k
theorem QF.rf {u : HS} : QF u u := ⟨fun _ _ _ => rfl, rfl, fun _ _ => rfl, fun _ _ _ => rfl⟩
theorem QF.tr {u v w : HS} (h : QF u v) (h2 : QF v w) : QF u w := ⟨fun r a b => (h2.1 r a b).trans (h.1 r a b), h2.2.1.trans h.2.1, fun k a => (h2.2.2.1 k a).trans (h.2.2.1 k a), fun k a b => (h2.2.2.2 k a b).trans (h.2.2.2 k a b)⟩
theorem Fvw.qf {u v : HS} {L : List Nat} (h : Fvw L u v) (hL : ∀ r, r ∈ L → r ∈ [4, 7, 44, 46, 47, 48, 54]) : QF u v :=
  ⟨fun r a b => h.1 r (fun q => a (by have := hL r q; simp only [List.mem_cons, List.not_mem_nil, or_false] at this ⊢; omega)) b, by unfold lkF; rw [h.1 81 (fun q => by have := hL 81 q; simp at this) (by decide)], fun k _ => h.2.1 k, h.2.2.2⟩
theorem Fr.qf {u v : HS} {L K : List Nat} (h : Fr L K u v) (hL : ∀ r, r ∈ L → r ∈ [78, 79]) (hK : ∀ k, k ∈ K → k ∈ [0, 41, 42]) : QF u v :=
  ⟨fun r a b => h.1 r (fun q => a (by have := hL r q; simp only [List.mem_cons, List.not_mem_nil, or_false] at this ⊢; omega)) b, by unfold lkF; rw [h.1 81 (fun q => by have := hL 81 q; simp at this) (by decide)], fun k a => h.2.1 k (fun q => a (hK k q)), fun k _ _ => by rw [h.2.2.2]⟩
theorem QF.m1 {u v : HS} (h : QF u v) {r : Nat} (hr : r ∉ [4, 7, 44, 46, 47, 48, 54, 78, 79, 81]) (h9 : r ≠ 9) : gI v r = gI u r := h.1 r hr h9
theorem HL.eq {u v : HS} {i n : Nat} {lk : Nat → Nat → Int32} (h : HL u i n lk) (h0 : gI v 0 = gI u 0) (h1 : gI v 20 = gI u 20) (h2 : gI v 21 = gI u 21) (h3 : gI v 22 = gI u 22) (h4 : gI v 23 = gI u 23) (h5 : gI v 24 = gI u 24) : HL v i n lk := by unfold HL; rw [h0, h1, h2, h3, h4, h5]; exact h
theorem HE.eq {u v : HS} {i n : Nat} {ey : Nat → Nat → Int32} (h : HE u i n ey) (h0 : gI v 0 = gI u 0) (h1 : gI v 25 = gI u 25) (h2 : gI v 26 = gI u 26) (h3 : gI v 27 = gI u 27) : HE v i n ey := by unfold HE; rw [h0, h1, h2, h3]; exact h
theorem HB.eq {u v : HS} {i n : Nat} {bl : Nat → Nat → Int32} (h : HB u i n bl) (h0 : gI v 0 = gI u 0) (h1 : gI v 28 = gI u 28) (h2 : gI v 29 = gI u 29) (h3 : gI v 30 = gI u 30) : HB v i n bl := by unfold HB; rw [h0, h1, h2, h3]; exact h
theorem HW.eq {u v : HS} {i : Nat} {wt : Nat → Int32} {sl : Int32} (h : HW u i wt sl) (h0 : gI v 0 = gI u 0) (h1 : gI v 31 = gI u 31) : HW v i wt sl := by unfold HW; rw [h0, h1]; exact h
theorem SO.eq {u v : HS} {i : Nat} {c : SV} (h : SO u i c) (h3 : gI v 3 = gI u 3) (h38 : gI v 38 = gI u 38) (h40 : gI v 40 = gI u 40) (h41 : gI v 41 = gI u 41) (h42 : gI v 42 = gI u 42) (h43 : gI v 43 = gI u 43) (hr : ∀ k, 3 ≤ k → gR v k = gR u k) : SO v i c := by
  unfold SO; rw [h3, h38, h40, h41, h42, h43, hr (3 + i) (by omega), hr (10 + i) (by omega)]; exact h
theorem LR.eq {u v : HS} {l : Nat} {w : LT} (h : LR u l w) (h1 : gI v 73 = gI u 73) (h2 : gI v 75 = gI u 75) (h3 : gI v 76 = gI u 76) : LR v l w := by unfold LR; rw [h1, h2, h3]; exact h
theorem LC.eq {u v : HS} {i : Nat} {w : LT} (h : LC u i w) (h1 : gI v 1 = gI u 1) (h2 : gI v 32 = gI u 32) (h3 : gI v 33 = gI u 33) (h4 : gI v 34 = gI u 34) (h5 : gI v 35 = gI u 35) (h6 : gI v 36 = gI u 36) : LC v i w := by unfold LC; rw [h1, h2, h3, h4, h5, h6]; exact h
theorem IM.eq {p : IP} {u v : HS} {k : Nat} (h : IM p u k) (e : ∀ r, r = 0 ∨ (20 ≤ r ∧ r ≤ 31) ∨ r = 87 → gI v r = gI u r) : IM p v k := by
  obtain ⟨n, nr, nb, h', a⟩ := h
  refine ⟨n, nr, nb, h', ?_⟩
  rw [e 87 (by omega)]
  obtain ⟨a1, a2, a3, a4, a5, a6, a7, a8, a9, b⟩ := a
  exact ⟨a1, a2, a3, a4, a5, a6.eq (e 0 (by omega)) (e 20 (by omega)) (e 21 (by omega)) (e 22 (by omega)) (e 23 (by omega)) (e 24 (by omega)), a7.eq (e 0 (by omega)) (e 25 (by omega)) (e 26 (by omega)) (e 27 (by omega)), a8.eq (e 0 (by omega)) (e 28 (by omega)) (e 29 (by omega)) (e 30 (by omega)), a9.eq (e 0 (by omega)) (e 31 (by omega)), b⟩
theorem QF.c {p : IP} {u v : HS} (hF : QF u v) (h : IVc p u) : IVc p v := by
  obtain ⟨h1, h2, h3, h4, h5, h6, h7, h8⟩ := h
  have e : ∀ r, r ≠ 4 ∧ r ≠ 7 ∧ r ≠ 44 ∧ r ≠ 46 ∧ r ≠ 47 ∧ r ≠ 48 ∧ r ≠ 54 ∧ r ≠ 78 ∧ r ≠ 79 ∧ r ≠ 81 ∧ r ≠ 9 → gI v r = gI u r := fun r hr => hF.1 r (by simp only [List.mem_cons, List.not_mem_nil, or_false]; omega) (by omega)
  have f : ∀ k, k ≠ 0 ∧ k ≠ 41 ∧ k ≠ 42 → gI v 9 0 k = gI u 9 0 k := fun k hk => hF.2.2.1 k (by simp only [List.mem_cons, List.not_mem_nil, or_false]; omega)
  have g : ∀ k, 3 ≤ k → gR v k = gR u k := fun k hk => hF.2.2.2 k (by omega) (by omega)
  refine ⟨?_, ?_, fun s hs => ?_, fun t ht => ?_, fun q hq => ?_, ?_, fun k hk => ?_, ?_⟩
  · unfold ICn; rw [e 8 (by omega), f 14 (by omega), f 15 (by omega), f 16 (by omega), f 32 (by omega)]; exact h1
  · unfold ITa; rw [e 5 (by omega), e 45 (by omega), e 60 (by omega), f 1 (by omega), f 3 (by omega)]; exact h2
  · obtain ⟨a, b⟩ := h3 s hs
    exact ⟨a.fr (e 65 (by omega)) (e 66 (by omega)) (e 67 (by omega)) (e 69 (by omega)), b.eq (e 3 (by omega)) (e 38 (by omega)) (e 40 (by omega)) (e 41 (by omega)) (e 42 (by omega)) (e 43 (by omega)) g⟩
  · rw [e 71 (by omega), e 6 (by omega)]; exact h4 t ht
  · obtain ⟨a, b, c⟩ := h5 q hq
    exact ⟨a.eq (e 73 (by omega)) (e 75 (by omega)) (e 76 (by omega)), b.eq (e 1 (by omega)) (e 32 (by omega)) (e 33 (by omega)) (e 34 (by omega)) (e 35 (by omega)) (e 36 (by omega)), c⟩
  · obtain ⟨a, ⟨b1, b2, b3, b4⟩, c⟩ := h6
    unfold IHa
    rw [f 28 (by omega), f 29 (by omega), f 30 (by omega), f 31 (by omega), hF.2.1, e 83 (by omega), e 85 (by omega), e 77 (by omega)]
    exact ⟨a, ⟨b1.eq (e 0 (by omega)) (e 20 (by omega)) (e 21 (by omega)) (e 22 (by omega)) (e 23 (by omega)) (e 24 (by omega)), b2.eq (e 0 (by omega)) (e 25 (by omega)) (e 26 (by omega)) (e 27 (by omega)), b3.eq (e 0 (by omega)) (e 28 (by omega)) (e 29 (by omega)) (e 30 (by omega)), b4.eq (e 0 (by omega)) (e 31 (by omega))⟩, c⟩
  · exact (h7 k hk).eq fun r hr => e r (by omega)
  · unfold IMo; rw [f 38 (by omega), f 39 (by omega), f 40 (by omega)]; exact h8
theorem QF.lo {p : IP} {u v : HS} (hF : QF u v) (q l : Nat) : loS v l = loS u l ∧ loT v l = loT u l ∧ loE p v l = loE p u l ∧ loJ p v q l = loJ p u q l := by
  have e83 : gI v 83 = gI u 83 := hF.m1 (by decide) (by decide)
  have e85 : gI v 85 = gI u 85 := hF.m1 (by decide) (by decide)
  unfold loJ loE loS loT
  rw [hF.2.1, e83, e85]
  exact ⟨rfl, rfl, rfl, rfl⟩
theorem QF.s {p : IP} {u v : HS} (hF : QF u v) (h54 : gI v 54 = gI u 54) (h : IVs p u) : IVs p v := by
  refine ⟨fun l q hl hq => ?_, fun s t q hs ht hq => ?_⟩
  · rw [h54, (hF.lo (p := p) q l).2.2.2]; exact h.1 l q hl hq
  · rw [h54]; exact h.2 s t q hs ht hq
/-! lookers of the invariant -/
theorem IVc.lk {p : IP} {u : HS} (h : IVc p u) {l : Nat} (hl : l < pN p) : l < 14 ∧ loS u l < pNs p ∧ loT u l < pNt p ∧ gI u 81 l 0 = nI (loS u l) ∧ gI u 81 l 1 = nI (loT u l) ∧ lkF u l 0 = nI (loS u l) ∧ lkF u l 1 = nI (loT u l) ∧ ∀ j, gI u 81 l j = lkF u l j := by
  obtain ⟨⟨⟨n1, n2, -⟩, -⟩, -, -, -, -, ⟨-, ⟨b1, -⟩, c1, -⟩, -⟩ := h
  have hn := b1.1
  obtain ⟨⟨s, hs, e0⟩, ⟨t, ht, e1⟩, -⟩ := c1 l hl
  have es : loS u l = s := by unfold loS; rw [e0, nI_clamp (by omega)]
  have et : loT u l = t := by unfold loT; rw [e1, nI_clamp (by omega)]
  have e : ∀ j, gI u 81 l j = lkF u l j := fun j => by unfold lkF; rw [if_pos (by omega)]
  exact ⟨by omega, by omega, by omega, by rw [e, es, e0], by rw [e, et, e1], by rw [es, e0], by rw [et, e1], e⟩
theorem lookS_m1 {ey : Nat → Nat → Int32} {nr : Nat} {l : Int32} {c : SV} (hc : SWF c) (hv : VE nr ey) (x : Int32) {τ : Nat} (hτ : τ < 300) : lookS ey nr l c x (nI τ) ≠ -1 := by
  unfold lookS
  cases h : eyeO ey nr l (nI τ) with
  | none =>
    obtain ⟨X, Y, hX, hY, e⟩ := thrE_rng hc x hτ
    simp only [Option.elim]; rw [e]; exact nI_m1 (by omega)
  | some q =>
    obtain ⟨X, Y, hX, hY, e⟩ := hv.pl (show q < nr from (laO_lt (p := fun k => decide (ey k 0 = l)) (tm := fun k => ey k 1) h).1)
    simp only [Option.elim]; rw [e]; exact nI_m1 (by omega)
theorem eyS_sh {ey bl : Nat → Nat → Int32} {nr nb : Nat} {l : Int32} {c : SV} (hc : SWF c) (hv : VE nr ey) (x : Int32) {τ : Nat} (hτ : τ < 300) : shutS bl nb l (nI τ) = decide (eyS ey nr bl nb l c x (nI τ) = -1) := by
  unfold eyS
  cases shutS bl nb l (nI τ) with
  | true => simp
  | false => simp [lookS_m1 hc hv x hτ]
theorem IVc.ly {p : IP} {u : HS} (h : IVc p u) {l : Nat} (hl : l < pN p) : LY u l (pC p (loS u l)) (pT p (loT u l)) (lkF u l 2) (loE p u l) := by
  obtain ⟨h0, h1, h2, h3, h4, h5, h6, h7⟩ := h.lk hl
  obtain ⟨⟨⟨n1, n2, -⟩, -⟩, -, hS, hT, -, ⟨⟨a1, a2, a3⟩, ⟨b1, b2, b3, -⟩, c1, c2, c3, -⟩, -⟩ := h
  obtain ⟨s1, s2⟩ := hS _ h1
  refine ⟨⟨loS u l, loT u l, pNr p, pNb p, ⟨s1, s2.1.2.1, by omega, by omega, b2.1, b3.1⟩, h3, h4, h7 2, (hT _ h2).1, a2, a3, fun τ => rfl⟩, pNb p, a3, b3.1, fun τ hτ => ?_⟩
  exact eyS_sh s2.1.2.1 c2 _ hτ
theorem IVc.look {p : IP} {u : HS} (h : IVc p u) {l : Nat} (hl : l < pN p) {m : Nat} (hm : m < 300) : ∃ u', mX8_lookAs u (nI l) (nI m) = some u' ∧ Fvw [4, 7, 46, 47] u u' ∧ VX u' (loS u l) (pC p (loS u l)) (loT u l) (pT p (loT u l)) (lkF u l 2) m (loE p u l) (-1) 0 1 ∧ gI u' 4 0 3 = -1 ∧ gI u' 4 0 5 = 0 := by
  obtain ⟨h0, h1, h2, h3, h4, h5, h6, h7⟩ := h.lk hl
  obtain ⟨⟨⟨n1, n2, -⟩, -⟩, -, hS, hT, -, ⟨⟨a1, a2, a3⟩, ⟨b1, b2, b3, -⟩, c1, c2, c3, -⟩, -⟩ := h
  obtain ⟨s1, s2⟩ := hS _ h1
  exact cLook hm b1 hl b2 c2 b3 c3 (by omega) h5 (by omega) h6 (c1 l hl).2.2.1 s2 (hT _ h2).2
theorem IVc.sceneFor {p : IP} {u : HS} (h : IVc p u) {l : Nat} (hl : l < pN p) : mX8_sceneFor u (nI l) = some (loS u l) := by
  obtain ⟨h0, h1, h2, h3, h4, h5, h6, h7⟩ := h.lk hl
  obtain ⟨⟨⟨n1, n2, -⟩, -⟩, -, hS, hT, -, ⟨⟨a1, a2, a3⟩, ⟨b1, b2, b3, -⟩, c1, c2, c3, -⟩, -⟩ := h
  unfold mX8_sceneFor
  rw [ck_nI h0 (by decide)]
  simp only [ob_q, (b1.2.2 l hl).1, h5]
  rw [ck_nI (show loS u l < 6 by omega) (by decide)]
  rfl
theorem jdS_m1 {w : LT} {c : SV} {tk : Nat → Int32} {kn : Int32} {E : Int32 → Int32} : jdS w c tk kn E ≠ -1 := by
  unfold jdS
  split
  · decide
  · unfold juS
    cases fiS w _ _ _ with
    | none => simp only [Option.elim]; decide
    | some f => simp only [Option.elim]; split <;> split <;> decide
/-- the state of a looker, remembered or worked out -/
theorem IV.stateOf {p : IP} {u : HS} (h : IVc p u) (hs : IVs p u) {l q : Nat} (hl : l < pN p) (hq : q < pNl p) : ∃ u', mX8_stateOf u (nI q) (nI l) = some (loJ p u q l, u') ∧ Fvw [4, 7, 44, 46, 47, 48, 54] u u' ∧ IVs p u' := by
  obtain ⟨h0, h1, h2, -⟩ := h.lk hl
  have hq4 : q < 4 := by have := h.1.1.2.2.1; omega
  have hx : (nI l * 4 : Int32) + nI q = nI (4 * l + q) := by rw [show (nI l * 4 : Int32) = nI (l * 4) from pk_mul l 4, nI_add, Nat.mul_comm]
  unfold mX8_stateOf
  simp only [bd_q, hx]
  rw [ck_nI (show 4 * l + q < 200 by omega) (by decide)]
  simp only [ob_q]
  by_cases c0 : gI u 54 0 (4 * l + q) = -1
  · rw [if_pos c0]
    obtain ⟨e, he3, he⟩ := endS_nI (h.2.2.1 _ h1).2.1.2.1
    have hend : gI u 3 (loS u l) 11 = nI e := by rw [(h.2.2.1 _ h1).2.2.1.2.2.2.2.2.2]; exact he
    obtain ⟨u1, e1, f1, hV, h43, h45⟩ := h.look hl he3
    simp only [h.sceneFor hl, ob_q, hend, e1]
    rw [ck_nI hq4 (by decide)]
    simp only [ob_q]
    obtain ⟨-, lc, lw⟩ := h.2.2.2.2.1 q hq
    have lc1 : LC u1 q (pW p q) := lc.eq (f1.m1 (by decide) (by decide)) (f1.m1 (by decide) (by decide)) (f1.m1 (by decide) (by decide)) (f1.m1 (by decide) (by decide)) (f1.m1 (by decide) (by decide)) (f1.m1 (by decide) (by decide))
    obtain ⟨u2, e2, f2⟩ := cJudge hV lc1 lw h43 h45 he
    rw [e2]
    simp only [ob_q]
    have hF : Fvw [4, 7, 44, 46, 47, 48, 54] u u2 := (f1.mo (by decide)).tr (f2.1.mo (by decide))
    have hF3 : Fvw [4, 7, 44, 46, 47, 48, 54] u (wI u2 54 0 (4 * l + q) (loJ p u q l)) := hF.sI (by decide) (by decide)
    have g54 : gI u2 54 = gI u 54 := (f2.1.m1 (by decide) (by decide)).trans (f1.m1 (by decide) (by decide))
    refine ⟨_, ?_, hF3, ?_⟩
    · rw [gI_eq]; rfl
    · have hq' := hF3.qf (fun r hr => hr)
      refine ⟨fun l' q' hl' hq'' => ?_, fun s t q' hs' ht' hq'' => ?_⟩
      · rw [(hq'.lo (p := p) q' l').2.2.2]
        by_cases c : l' = l ∧ q' = q
        · obtain ⟨rfl, rfl⟩ := c
          exact Or.inr ⟨hl, hq, by rw [gI_eq]⟩
        · rw [gI_k (show 4 * l' + q' ≠ 4 * l + q by omega), g54]
          exact hs.1 l' q' hl' hq''
      · rw [gI_k (show 4 * (14 + 6 * s + t) + q' ≠ 4 * l + q by omega), g54]
        exact hs.2 s t q' hs' ht' hq''
  · rw [if_neg c0]
    simp only [ob_q]
    rcases hs.1 l q h0 hq4 with z | ⟨-, -, z⟩
    · exact absurd z c0
    · rw [z]
      exact ⟨u, rfl, Fvw.rf, hs⟩
theorem IV.stateNew {p : IP} {u : HS} (h : IVc p u) (hs : IVs p u) {s t q : Nat} (h1 : s < pNs p) (h2 : t < pNt p) (hq : q < pNl p) : ∃ u', mX8_stateOfNew u (nI q) (nI s) (nI t) = some (neJ p q s t, u') ∧ Fvw [4, 7, 44, 46, 47, 48, 54] u u' ∧ IVs p u' := by
  have hq4 : q < 4 := by have := h.1.1.2.2.1; omega
  have hs6 : s < 6 := by have := h.1.1.1; omega
  have ht6 : t < 6 := by have := h.1.1.2.1; omega
  have hx : ((((14 : Int32) + nI s * 6) + nI t) * 4) + nI q = nI (4 * (14 + 6 * s + t) + q) := by
    rw [show (nI s * 6 : Int32) = nI (s * 6) from pk_mul s 6, show (14 : Int32) = nI 14 from rfl, nI_add, nI_add, show (nI (14 + s * 6 + t) * 4 : Int32) = nI ((14 + s * 6 + t) * 4) from pk_mul _ 4, nI_add]
    congr 1; omega
  unfold mX8_stateOfNew
  simp only [bd_q, hx]
  rw [ck_nI (show 4 * (14 + 6 * s + t) + q < 200 by omega) (by decide)]
  simp only [ob_q]
  by_cases c0 : gI u 54 0 (4 * (14 + 6 * s + t) + q) = -1
  · rw [if_pos c0]
    obtain ⟨e, he3, he⟩ := endS_nI (h.2.2.1 _ h1).2.1.2.1
    have hend : gI u 3 s 11 = nI e := by rw [(h.2.2.1 _ h1).2.2.1.2.2.2.2.2.2]; exact he
    rw [ck_nI hs6 (by decide), ck_nI ht6 (by decide)]
    simp only [ob_q, hend]
    obtain ⟨u1, e1, f1, hV⟩ := cOpen (kn := 0) he3 (h.2.2.1 _ h1).2 (h.2.2.2.1 _ h2).2 (Or.inl rfl)
    rw [e1]
    simp only [ob_q]
    unfold mX4_plain
    simp only [bd_q, ob_q]
    rw [ck_nI hq4 (by decide)]
    simp only [ob_q]
    have f1' : Fvw [4, 7, 46, 47] u (wI (wI u1 4 0 3 (-1)) 4 0 5 0) := ((f1.mo (by decide)).sI (by decide) (by decide)).sI (by decide) (by decide)
    have hV' : VX (wI (wI u1 4 0 3 (-1)) 4 0 5 0) s (pC p s) t (pT p t) 0 e (thrE (pC p s) (pT p t 2)) (-1) 0 1 := by
      obtain ⟨v1, v2, v3, v4, v5⟩ := hV
      refine ⟨v1, v2.eq ?_ ?_ ?_ ?_ ?_ ?_ (fun _ _ => rfl), ?_, ?_, ?_⟩
      · rw [gI_r (by decide), gI_r (by decide)]
      · rw [gI_r (by decide), gI_r (by decide)]
      · rw [gI_r (by decide), gI_r (by decide)]
      · rw [gI_r (by decide), gI_r (by decide)]
      · rw [gI_r (by decide), gI_r (by decide)]
      · rw [gI_r (by decide), gI_r (by decide)]
      · rw [gI_r (by decide), gI_r (by decide)]; exact v3
      · rw [gI_r (by decide), gI_r (by decide)]; exact v4
      · rw [gI_r (by decide), gI_r (by decide)]; exact v5
    obtain ⟨-, lc, lw⟩ := h.2.2.2.2.1 q hq
    have lc1 : LC (wI (wI u1 4 0 3 (-1)) 4 0 5 0) q (pW p q) := lc.eq (f1'.m1 (by decide) (by decide)) (f1'.m1 (by decide) (by decide)) (f1'.m1 (by decide) (by decide)) (f1'.m1 (by decide) (by decide)) (f1'.m1 (by decide) (by decide)) (f1'.m1 (by decide) (by decide))
    obtain ⟨u2, e2, f2⟩ := cJudge hV' lc1 lw (by rw [gI_k (by decide), gI_eq]) (by rw [gI_eq]) he
    rw [e2]
    simp only [ob_q]
    have hF : Fvw [4, 7, 44, 46, 47, 48, 54] u u2 := (f1'.mo (by decide)).tr (f2.1.mo (by decide))
    have hF3 : Fvw [4, 7, 44, 46, 47, 48, 54] u (wI u2 54 0 (4 * (14 + 6 * s + t) + q) (neJ p q s t)) := hF.sI (by decide) (by decide)
    have g54 : gI u2 54 = gI u 54 := (f2.1.m1 (by decide) (by decide)).trans (f1'.m1 (by decide) (by decide))
    refine ⟨_, ?_, hF3, ?_⟩
    · rw [gI_eq]; rfl
    · have hq' := hF3.qf (fun r hr => hr)
      refine ⟨fun l' q' hl' hq'' => ?_, fun s' t' q' hs' ht' hq'' => ?_⟩
      · rw [(hq'.lo (p := p) q' l').2.2.2, gI_k (show 4 * l' + q' ≠ 4 * (14 + 6 * s + t) + q by omega), g54]
        exact hs.1 l' q' hl' hq''
      · by_cases c : s' = s ∧ t' = t ∧ q' = q
        · obtain ⟨rfl, rfl, rfl⟩ := c
          exact Or.inr ⟨h1, h2, hq, by rw [gI_eq]⟩
        · rw [gI_k (show 4 * (14 + 6 * s' + t') + q' ≠ 4 * (14 + 6 * s + t) + q by omega), g54]
          exact hs.2 s' t' q' hs' ht' hq''
  · rw [if_neg c0]
    simp only [ob_q]
    rcases hs.2 s t q hs6 ht6 hq4 with z | ⟨-, -, -, z⟩
    · exact absurd z c0
    · rw [z]
      exact ⟨u, rfl, Fvw.rf, hs⟩
theorem IV.says {p : IP} {u : HS} (h : IVc p u) {l q a : Nat} (hl : l < pN p) (hq : q < pNl p) (ha : a < 3) : ∃ u', mX9_saysBy u (nI q) (nI l) (nI a) = some (bI (yeS (loJ p u q l) a), u') ∧ Fr [78, 79] [41, 42] u u' := by
  obtain ⟨h0, h1, h2, -⟩ := h.lk hl
  obtain ⟨lr, lc, lw⟩ := h.2.2.2.2.1 q hq
  obtain ⟨m1, m2, m3⟩ := h.2.2.2.2.2.2.2
  exact rSays (h.ly hl) (h.2.2.1 _ h1).2.1.2.1 lr lw m1 m2 m3 ha
