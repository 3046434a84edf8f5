/-! ===== frames: what a call leaves as it was ===== -/
def Fr (L K : List Nat) (u v : HS) : Prop := (∀ r, r ∉ L → r ≠ 9 → gI v r = gI u r) ∧ (∀ k, k ∉ K → gI v 9 0 k = gI u 9 0 k) ∧ gL v = gL u ∧ gR v = gR u
theorem Fr.rf {L K : List Nat} {u : HS} : Fr L K u u := ⟨fun _ _ _ => rfl, fun _ _ => rfl, rfl, rfl⟩
theorem Fr.tr {L K : List Nat} {u v w : HS} (h : Fr L K u v) (h2 : Fr L K v w) : Fr L K u w :=
  ⟨fun r a b => (h2.1 r a b).trans (h.1 r a b), fun k a => (h2.2.1 k a).trans (h.2.1 k a), h2.2.2.1.trans h.2.2.1, h2.2.2.2.trans h.2.2.2⟩
theorem Fr.mo {L K L' K' : List Nat} {u v : HS} (h : Fr L K u v) (hL : ∀ r, r ∈ L → r ∈ L') (hK : ∀ r, r ∈ K → r ∈ K') : Fr L' K' u v :=
  ⟨fun r a b => h.1 r (fun q => a (hL r q)) b, fun k a => h.2.1 k (fun q => a (hK k q)), h.2.2.1, h.2.2.2⟩
theorem Fr.sI {L K : List Nat} {u v : HS} {r i k : Nat} {x : Int32} (h : Fr L K u v) (hr : r ∈ L) (h9 : r ≠ 9) : Fr L K u (wI v r i k x) :=
  ⟨fun r' a b => (gI_r (fun q => a (by rw [q]; exact hr))).trans (h.1 r' a b), fun k a => (by rw [gI_r (fun q => h9 q.symm)]; exact h.2.1 k a), h.2.2.1, h.2.2.2⟩
theorem Fr.w9 {L K : List Nat} {u v : HS} {k : Nat} {x : Int32} (h : Fr L K u v) (hk : k ∈ K) : Fr L K u (wI v 9 0 k x) :=
  ⟨fun r' a b => (gI_r b).trans (h.1 r' a b), fun k' a => (gI_k (fun q => a (by rw [q]; exact hk))).trans (h.2.1 k' a), h.2.2.1, h.2.2.2⟩
/-! ===== lookers, as the reference has them ===== -/
def shutS (bl : Nat → Nat → Int32) (nb : Nat) (l τ : Int32) : Bool := (List.range nb).any fun k => decide (bl k 0 = l) && decide (bl k 1 ≤ τ) && decide (τ ≤ bl k 2)
def eyeO (ey : Nat → Nat → Int32) (nr : Nat) (l τ : Int32) : Option Nat := (List.range nr).foldl (latP (fun k => ey k 1) (fun k => decide (ey k 0 = l)) τ) none
def balO (c : SV) (x τ : Int32) : Option Nat := (List.range (sN c)).foldl (latP (fun k => sC c k 3) (cntP c x) τ) none
/-- eyes that no row tells -/
def thrE (c : SV) (x τ : Int32) : Int32 := (balO c x τ).elim 2015 fun k => if isT c (sC c k 2) τ then 100 * plcS c (sC c k 2) τ 0 + plcS c (sC c k 2) τ 1 else 2015
def lookS (ey : Nat → Nat → Int32) (nr : Nat) (l : Int32) (c : SV) (x τ : Int32) : Int32 := (eyeO ey nr l τ).elim (thrE c x τ) fun k => 100 * ey k 2 + ey k 3
def eyS (ey : Nat → Nat → Int32) (nr : Nat) (bl : Nat → Nat → Int32) (nb : Nat) (l : Int32) (c : SV) (x τ : Int32) : Int32 := if shutS bl nb l τ then -1 else lookS ey nr l c x τ
/-- the reference's row l is a looker at the scene c with the task tk; kn: does it know; E: where its eyes are -/
def LX (u : HS) (l : Nat) (c : SV) (tk : Nat → Int32) (kn : Int32) (E : Int32 → Int32) : Prop :=
  ∃ s t nr nb, (RS u s c ∧ SWF c ∧ l < 15 ∧ t < 6 ∧ nr ≤ 60 ∧ nb ≤ 40) ∧ gI u 81 l 0 = nI s ∧ gI u 81 l 1 = nI t ∧ gI u 81 l 2 = kn ∧ (∀ j, gI u 71 t j = tk j) ∧ gI u 9 0 29 = nI nr ∧ gI u 9 0 30 = nI nb ∧ ∀ τ, E τ = eyS (gI u 83) nr (gI u 85) nb (nI l) c (tk 2) τ
theorem RS.fr {u v : HS} {s : Nat} {c : SV} (h : RS u s c) (h5 : gI v 65 = gI u 65) (h6 : gI v 66 = gI u 66) (h7 : gI v 67 = gI u 67) (h9 : gI v 69 = gI u 69) : RS v s c := by
  unfold RS; rw [h5, h6, h7, h9]; exact h
theorem LX.fr {u v : HS} {l : Nat} {c : SV} {tk : Nat → Int32} {kn : Int32} {E : Int32 → Int32} {L K : List Nat} (h : LX u l c tk kn E) (hF : Fr L K u v) (hL : ∀ r, r ∈ L → r ≠ 65 ∧ r ≠ 66 ∧ r ≠ 67 ∧ r ≠ 69 ∧ r ≠ 71 ∧ r ≠ 81 ∧ r ≠ 83 ∧ r ≠ 85) (hK : ∀ r, r ∈ K → r ≠ 29 ∧ r ≠ 30) : LX v l c tk kn E := by
  obtain ⟨s, t, nr, nb, ⟨h0, h1⟩, h2⟩ := h
  have e : ∀ r, r = 65 ∨ r = 66 ∨ r = 67 ∨ r = 69 ∨ r = 71 ∨ r = 81 ∨ r = 83 ∨ r = 85 → gI v r = gI u r := fun r hr => hF.1 r (fun q => by have := hL r q; omega) (by omega)
  refine ⟨s, t, nr, nb, ⟨h0.fr (e 65 (by omega)) (e 66 (by omega)) (e 67 (by omega)) (e 69 (by omega)), h1⟩, ?_⟩
  rw [e 71 (by omega), e 81 (by omega), e 83 (by omega), e 85 (by omega), hF.2.1 29 (fun q => (hK _ q).1 rfl), hF.2.1 30 (fun q => (hK _ q).2 rfl)]
  exact h2
theorem LX.w79 {u : HS} {l : Nat} {c : SV} {tk : Nat → Int32} {kn : Int32} {E : Int32 → Int32} {i k : Nat} {x : Int32} (h : LX u l c tk kn E) : LX (wI u 79 i k x) l c tk kn E :=
  h.fr (L := [79]) (K := []) (Fr.rf.sI (List.mem_singleton.mpr rfl) (by decide)) (by simp) (by simp)
theorem c3_0 : ck 3 0 = some 0 := by decide
theorem c3_1 : ck 3 1 = some 1 := by decide
theorem c3_2 : ck 3 2 = some 2 := by decide
theorem rShut {u : HS} {nb : Nat} (h : gI u 9 0 30 = nI nb) (hb : nb ≤ 40) (l τ : Int32) : mX9_isShut u l τ = some (bI (shutS (gI u 85) nb l τ)) := by
  unfold mX9_isShut
  simp only [bd_q, jp_q]
  refine (loopA0 (L := fun fu x => mX9_isShut_L2 u l τ (some 0) fu x) (no := some 0) (yes := some 1) (fun k => decide (gI u 85 k 0 = l) && decide (gI u 85 k 1 ≤ τ) && decide (τ ≤ gI u 85 k 2)) (n := nb) (o := 0) (FU_lt (by omega)) ?_ ?_).trans ?_
  · intro fu k hk
    show mX9_isShut_L2 u l τ (some 0) (fu + 1) (nI (0 + k)) = if _ then _ else mX9_isShut_L2 u l τ (some 0) fu (nI (0 + k + 1))
    rw [mX9_isShut_L2.eq_2, h, Nat.zero_add, if_neg (nI_ge hk (by omega)), ck_nI (show k < 40 by omega) (by decide)]
    simp only [c3_0, c3_1, c3_2, ob_q, in_ok, bI_0, jp_q, bd_q, nI_1]
    by_cases h1 : gI u 85 k 0 = l <;> by_cases h3 : gI u 85 k 1 ≤ τ <;> by_cases h4 : τ ≤ gI u 85 k 2 <;> simp [h1, h3, h4]
  · intro fu
    show mX9_isShut_L2 u l τ (some 0) (fu + 1) (nI (0 + nb)) = _
    rw [mX9_isShut_L2.eq_2, h, Nat.zero_add, if_pos (nI_le (Nat.le_refl _) (by omega))]
  · unfold shutS
    cases (List.range nb).any _ <;> rfl
theorem latP_I {tm : Nat → Int32} {p : Nat → Bool} {τ : Int32} {n : Nat} {a : Option Nat} {k : Nat} (hk : k < n) (ha : ∀ q, a = some q → q < n) : ∀ q, latP tm p τ a k = some q → q < n := by
  intro q hq
  unfold latP at hq
  split at hq
  · cases hq; exact hk
  · exact ha q hq
theorem rLook {u : HS} {l s t nr : Nat} {c : SV} {tk : Nat → Int32} (h : RS u s c) (hc : SWF c) (hl : l < 15) (ht : t < 6) (hr : nr ≤ 60) (h0 : gI u 81 l 0 = nI s) (h1 : gI u 81 l 1 = nI t) (hk : ∀ j, gI u 71 t j = tk j) (hnr : gI u 9 0 29 = nI nr) (τ : Int32) : mX9_looks u (nI l) τ = some (lookS (gI u 83) nr (nI l) c (tk 2) τ) := by
  have h' := h
  obtain ⟨hs, hn, hT, hm, -, hC, hH⟩ := h
  unfold mX9_looks
  simp only [bd_q, jp_q, ck_nI hl (show 15 < 2 ^ 31 by decide), c8_0, ob_q, h0]
  refine (loopG0 (L := fun fu a x => mX9_looks_L18 u (nI l) τ _ fu (oJ 0 a) x) (w := fun a => some (a.elim (thrE c (tk 2) τ) fun k => 100 * gI u 83 k 2 + gI u 83 k 3)) (latP (fun k => gI u 83 k 1) (fun k => decide (gI u 83 k 0 = nI l)) τ) (fun a => ∀ q, a = some q → q < nr) (n := nr) (o := 0) (FU_lt (by omega)) (fun q h => by cases h) ?_ (fun a k hk ha => latP_I hk ha) ?_ (a := none) :)
  · intro fu a k hk ha
    show mX9_looks_L18 u (nI l) τ _ (fu + 1) (oJ 0 a) (nI (0 + k)) = mX9_looks_L18 u (nI l) τ _ fu (oJ 0 (latP _ _ τ a k)) (nI (0 + k + 1))
    rw [mX9_looks_L18.eq_2, hnr, Nat.zero_add, if_neg (nI_ge (by omega) (by omega)), ck_nI (show k < 60 by omega) (by decide)]
    simp only [c4_0, c4_1, ob_q, jp_q, bd_q, nI_1]
    unfold latP
    cases a with
    | none => by_cases h1 : gI u 83 k 0 = nI l <;> by_cases h3 : gI u 83 k 1 ≤ τ <;> simp [h1, h3, oJ, ← Int32.not_le]
    | some b =>
      have hb := ha b rfl
      have e1 : ¬ nI (0 + b) = -1 := nI_m1 (by omega)
      have e2 : ck 60 (nI (0 + b)) = some b := by rw [Nat.zero_add]; exact ck_nI (by omega) (by decide)
      rw [Nat.zero_add] at e1 e2
      by_cases h1 : gI u 83 k 0 = nI l <;> by_cases h3 : gI u 83 k 1 ≤ τ <;> by_cases h4 : gI u 83 b 1 ≤ gI u 83 k 1 <;> simp [h1, h3, h4, oJ, ← Int32.not_le, e1, e2]
  · intro fu a ha
    show mX9_looks_L18 u (nI l) τ _ (fu + 1) (oJ 0 a) (nI (0 + nr)) = _
    rw [mX9_looks_L18.eq_2, hnr, Nat.zero_add, if_pos (nI_le (Nat.le_refl _) (by omega))]
    cases a with
    | some b =>
      have hb := ha b rfl
      rw [if_neg (show ¬ oJ 0 (some b) = -1 from nI_m1 (by omega)), show oJ 0 (some b) = nI b from by show nI (0 + b) = _; rw [Nat.zero_add], ck_nI (show b < 60 by omega) (by decide)]
      simp only [ob_q, c4_2, c4_3, Option.elim]
    | none =>
      rw [if_pos (show oJ 0 none = -1 from rfl)]
      simp only [n24, Option.elim]
      refine (loopG0 (L := fun fu a x => mX9_looks_L120 (nI s) u (nI l) τ _ fu (oJ (24 * s) a) x) (w := fun a => some (a.elim 2015 fun k => if isT c (sC c k 2) τ then 100 * plcS c (sC c k 2) τ 0 + plcS c (sC c k 2) τ 1 else 2015)) (latP (fun k => sC c k 3) (cntP c (tk 2)) τ) (fun a => ∀ q, a = some q → q < sN c) (n := sN c) (FU_lt (by omega)) (fun q h => by cases h) ?_ (fun a k hk ha => latP_I hk ha) ?_ (a := none) :)
      · intro fu a k hk' ha
        show mX9_looks_L120 (nI s) u (nI l) τ _ (fu + 1) (oJ (24 * s) a) (nI (24 * s + k)) = mX9_looks_L120 (nI s) u (nI l) τ _ fu (oJ (24 * s) (latP _ _ τ a k)) (nI (24 * s + k + 1))
        rw [mX9_looks_L120.eq_2, ck_nI hs (by decide)]
        simp only [bd_q, jp_q, ob_q, n24, hm, nI_add, nI_1]
        rw [if_neg (nI_ge (by omega) (by omega)), ck_nI (show 24 * s + k < 144 by omega) (by decide), ck_nI hl (by decide)]
        simp only [c8_1, c8_3, ob_q, h1, rCnt h' hc ht hk', hk 2, hC k _ (show k < 24 by omega), bI_0]
        unfold latP
        cases a with
        | none => cases h1 : cntP c (tk 2) k <;> by_cases h3 : sC c k 3 ≤ τ <;> simp [h3, oJ, ← Int32.not_le]
        | some b =>
          have hb := ha b rfl
          have e1 : ¬ nI (24 * s + b) = -1 := nI_m1 (by omega)
          have e2 : ck 144 (nI (24 * s + b)) = some (24 * s + b) := ck_nI (by omega) (by decide)
          cases h1 : cntP c (tk 2) k <;> by_cases h3 : sC c k 3 ≤ τ <;> by_cases h4 : sC c b 3 ≤ sC c k 3 <;> simp [h3, h4, oJ, ← Int32.not_le, e1, e2, hC b _ (show b < 24 by omega)]
      · intro fu a ha
        show mX9_looks_L120 (nI s) u (nI l) τ _ (fu + 1) (oJ (24 * s) a) (nI (24 * s + sN c)) = _
        rw [mX9_looks_L120.eq_2, ck_nI hs (by decide)]
        simp only [ob_q, n24, hm, nI_add]
        rw [if_pos (nI_le (Nat.le_refl _) (by omega))]
        cases a with
        | none => rfl
        | some b =>
          have hb := ha b rfl
          rw [if_neg (show ¬ oJ (24 * s) (some b) = -1 from nI_m1 (by omega)), show oJ (24 * s) (some b) = nI (24 * s + b) from rfl, ck_nI (show 24 * s + b < 144 by omega) (by decide)]
          simp only [ob_q, c8_2, hC b _ (show b < 24 by omega), Option.elim, rThere h', rPlace0 h', rPlace1 h', bI_0]
          cases isT c (sC c b 2) τ <;> rfl
theorem rEye {u : HS} {l : Nat} {c : SV} {tk : Nat → Int32} {kn : Int32} {E : Int32 → Int32} (h : LX u l c tk kn E) (τ : Int32) : mX9_eyeOf u (nI l) τ = some (E τ) := by
  obtain ⟨s, t, nr, nb, ⟨h0, h1, h2, h3, h4, h5⟩, e0, e1, e2, e3, e4, e5, e6⟩ := h
  unfold mX9_eyeOf
  rw [rShut e5 h5, e6]
  unfold eyS
  simp only [ob_q, bI_0, rLook h0 h1 h2 h3 h4 e0 e1 e3 e4]
  cases shutS (gI u 85) nb (nI l) τ <;> rfl
def neaS (c : SV) (E : Int32 → Int32) (nr t τ : Int32) : Int32 := if E τ = -1 ∨ isT c t τ = false then 99 else mor (mor 0 (amt (plcS c t τ 0 - E τ / 100) - nr)) (amt (plcS c t τ 1 - (E τ - E τ / 100 * 100)))
theorem rNear {u : HS} {l : Nat} {c : SV} {tk : Nat → Int32} {kn : Int32} {E : Int32 → Int32} (h : LX u l c tk kn E) (t τ : Int32) : mX9_nearOf u (nI l) t τ = some (neaS c E (gI u 9 0 39) t τ) := by
  have h' := h
  obtain ⟨s, t', nr, nb, ⟨h0, h1, h2, h3, h4, h5⟩, e0, e1, e2, e3, e4, e5, e6⟩ := h
  unfold mX9_nearOf neaS
  simp only [ck_nI h2 (show 15 < 2 ^ 31 by decide), c8_0, ob_q, bd_q, e0, rEye h', rThere h0, rPlace0 h0, rPlace1 h0, rAmt, rMor, bI_0]
  by_cases q1 : E τ = -1 <;> by_cases q2 : isT c t τ = false <;> simp [q1, q2]
def fulF (c : SV) (tk : Nat → Int32) (τ : Int32) (a : Int32) (t : Nat) : Int32 := a + bI (isT c (nI t) τ && decide (((tk 0 >>> (colS c (nI t) τ &&& 31)) &&& 1) = 1))
def fulS (c : SV) (tk : Nat → Int32) (τ : Int32) : Int32 := mor 0 ((List.range (sT c)).foldl (fulF c tk τ) 0 - tk 3)
theorem rFull {u : HS} {l : Nat} {c : SV} {tk : Nat → Int32} {kn : Int32} {E : Int32 → Int32} (h : LX u l c tk kn E) (τ : Int32) : mX9_fullOf u (nI l) τ = some (fulS c tk τ) := by
  have h' := h
  obtain ⟨s, t', nr, nb, ⟨h0, h1, h2, h3, h4, h5⟩, e0, e1, e2, e3, e4, e5, e6⟩ := h
  have h0' := h0
  obtain ⟨hs, hn, hT, hm, hth, hC, hH⟩ := h0
  unfold mX9_fullOf
  simp only [ck_nI h2 (show 15 < 2 ^ 31 by decide), c8_0, ob_q, bd_q, e0, jp_q]
  refine (loopF0 (L := fun fu a x => mX9_fullOf_L15 (nI s) u τ (nI l) _ fu a x) (w := fun a => some (mor 0 (a - tk 3))) (fulF c tk τ) (n := sT c) (o := 0) (FU_lt (by omega)) ?_ ?_ (a := 0) :)
  · intro fu a k hk
    show mX9_fullOf_L15 (nI s) u τ (nI l) _ (fu + 1) a (nI (0 + k)) = mX9_fullOf_L15 (nI s) u τ (nI l) _ fu _ (nI (0 + k + 1))
    rw [mX9_fullOf_L15.eq_2, ck_nI hs (by decide), Nat.zero_add]
    simp only [bd_q, jp_q, ob_q, hth, nI_1]
    rw [if_neg (nI_ge hk (by omega))]
    simp only [rThere h0', ob_q, ck_nI h2 (show 15 < 2 ^ 31 by decide), c8_1, e1, ck_nI h3 (show 6 < 2 ^ 31 by decide), c5_0, rCol h0' hk, e3, bI_0]
    unfold fulF
    cases isT c (nI k) τ <;> by_cases q : ((tk 0 >>> (colS c (nI k) τ &&& 31)) &&& 1) = 1 <;> simp [q, bI]
  · intro fu a
    show mX9_fullOf_L15 (nI s) u τ (nI l) _ (fu + 1) a (nI (0 + sT c)) = _
    rw [mX9_fullOf_L15.eq_2, ck_nI hs (by decide), Nat.zero_add]
    simp only [ob_q, hth]
    rw [if_pos (nI_le (Nat.le_refl _) (by omega))]
    simp only [c8_1, ob_q, e1, ck_nI h3 (show 6 < 2 ^ 31 by decide), c5_3, e3, rMor]
/-- the names of a thing in a tenth to a looker -/
def nmS (c : SV) (tk : Nat → Int32) (kn : Int32) (E : Int32 → Int32) (sz nr sl : Int32) (t τ : Int32) : Nat → Int32
  | 0 => (tk 0 >>> (colS c t τ &&& 31)) &&& 1
  | 1 => (tk 1 >>> (colS c t τ &&& 31)) &&& 1
  | 2 => neaS c E nr t τ
  | 3 => if sz ≤ 0 then sH c t.toNatClampNeg 1 else sz
  | 4 => pacS c t τ / sl
  | 5 => fulS c tk τ
  | 6 => bI (decide (oddS c = t))
  | 7 => tk 4
  | 8 => bI (chgS c t τ)
  | 9 => kn
  | 10 => τ
  | _ => 0
theorem c11_0 : ck 11 0 = some 0 := by decide
theorem c11_1 : ck 11 1 = some 1 := by decide
theorem c11_2 : ck 11 2 = some 2 := by decide
theorem c11_3 : ck 11 3 = some 3 := by decide
theorem c11_4 : ck 11 4 = some 4 := by decide
theorem c11_5 : ck 11 5 = some 5 := by decide
theorem c11_6 : ck 11 6 = some 6 := by decide
theorem c11_7 : ck 11 7 = some 7 := by decide
theorem c11_8 : ck 11 8 = some 8 := by decide
theorem c11_9 : ck 11 9 = some 9 := by decide
theorem c11_10 : ck 11 10 = some 10 := by decide
theorem LX.rs {u : HS} {l : Nat} {c : SV} {tk : Nat → Int32} {kn : Int32} {E : Int32 → Int32} (h : LX u l c tk kn E) : ∃ s, RS u s c ∧ gI u 81 l 0 = nI s := by
  obtain ⟨s, t', nr, nb, ⟨h0, h1⟩, e0, e1⟩ := h
  exact ⟨s, h0, e0⟩
theorem RS.w79 {u : HS} {s : Nat} {c : SV} {i k : Nat} {x : Int32} (h : RS u s c) : RS (wI u 79 i k x) s c := h.fr (gI_r (by decide)) (gI_r (by decide)) (gI_r (by decide)) (gI_r (by decide))
theorem rNames {u : HS} {l : Nat} {c : SV} {tk : Nat → Int32} {kn : Int32} {E : Int32 → Int32} (h : LX u l c tk kn E) (hsl : gI u 9 0 40 ≠ 0) {t : Nat} (ht : t < sT c) (τ : Int32) : ∃ u', mX9_tellsNames u (nI l) (nI t) τ = some u' ∧ Fr [79] [] u u' ∧ ∀ w, w < 11 → gI u' 79 0 w = nmS c tk kn E (gI u 9 0 38) (gI u 9 0 39) (gI u 9 0 40) (nI t) τ w := by
  have h' := h
  obtain ⟨s, t', nr, nb, ⟨h0, h1, h2, h3, h4, h5⟩, e0, e1, e2, e3, e4, e5, e6⟩ := h
  have h0' := h0
  obtain ⟨hs, hn, hT, hm, hth, hC, hH⟩ := h0
  unfold mX9_tellsNames
  simp only [ck_nI h2 (show 15 < 2 ^ 31 by decide), c8_0, c8_1, c8_2, c5_0, c5_1, c5_4, c11_0, c11_1, c11_2, c11_3, c11_4, c11_5, c11_6, c11_7, c11_8, c11_9, c11_10, ob_q, bd_q, e0, e1, ck_nI h3 (show 6 < 2 ^ 31 by decide), rCol h0' ht, e3]
  simp only [rNear h'.w79.w79, ob_q, gI_r (show (9 : Nat) ≠ 79 by decide)]
  have e7 : ck 48 (8 * nI s + nI t) = some (8 * s + t) := by rw [n8, nI_add]; exact ck_nI (by omega) (by decide)
  simp only [e7, c2_1, ob_q, gI_r (show (69 : Nat) ≠ 79 by decide), gI_r (show (71 : Nat) ≠ 79 by decide), gI_r (show (81 : Nat) ≠ 79 by decide), gI_r (show (9 : Nat) ≠ 79 by decide), hH t 1 (by omega), e3, e2, nz_ok hsl]
  have e8 : (if gI u 9 0 38 ≤ 0 then some (sH c t 1) else some (gI u 9 0 38) : Option Int32) = some (if gI u 9 0 38 ≤ 0 then sH c t 1 else gI u 9 0 38) := by split <;> rfl
  simp only [e8, ob_q, rPace h0'.w79.w79.w79.w79, rFull h'.w79.w79.w79.w79.w79, rOdd h0'.w79.w79.w79.w79.w79.w79]
  have e9 : (if oddS c = nI t then some 1 else some 0 : Option Int32) = some (bI (decide (oddS c = nI t))) := by by_cases q : oddS c = nI t <;> simp [q, bI]
  simp only [e9, ob_q, rChg h0'.w79.w79.w79.w79.w79.w79.w79.w79, bI_n]
  refine ⟨_, rfl, ?_, ?_⟩
  · have m : (79 : Nat) ∈ [79] := List.mem_singleton.mpr rfl
    exact ((((((((((Fr.rf.sI m (by decide)).sI m (by decide)).sI m (by decide)).sI m (by decide)).sI m (by decide)).sI m (by decide)).sI m (by decide)).sI m (by decide)).sI m (by decide)).sI m (by decide)).sI m (by decide)
  · intro w hw
    match w, hw with
    | 0, _ => simp [gI_wI, nmS]
    | 1, _ => simp [gI_wI, nmS]
    | 2, _ => simp [gI_wI, nmS]
    | 3, _ => simp [gI_wI, nmS, nI_clamp (show t < 2 ^ 31 by omega)]
    | 4, _ => simp [gI_wI, nmS]
    | 5, _ => simp [gI_wI, nmS]
    | 6, _ => simp [gI_wI, nmS]
    | 7, _ => simp [gI_wI, nmS]
    | 8, _ => simp [gI_wI, nmS]
    | 9, _ => simp [gI_wI, nmS]
    | 10, _ => simp [gI_wI, nmS]
    | w + 11, q => exact absurd q (by omega)
