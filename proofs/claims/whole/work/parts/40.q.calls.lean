/-! ===== a call: both sides answer alike, and the invariant holds behind it ===== -/
def kmL (l : List Nat) (k : Nat) : Int32 := if k = 0 then 0 else nI (l.idxOf k + 1)
def Step (l : List Nat) (cf : HS → Option (Nat × Int32 × HS)) (rf : HS → Option (Int32 × HS)) : Prop := ∀ u, IV u → ∃ k v u1 b u2, cf u = some (k, v, u1) ∧ rf u1 = some (b, u2) ∧ gI u2 9 0 0 = kmL l k ∧ (k = 0 → v = b) ∧ (k = 0 ∨ k ∈ l) ∧ IV u2
def inB (x : Int32) (n : Nat) : Bool := decide (0 ≤ x) && decide (x < nI n)
theorem inB_t {x : Int32} {n : Nat} (hn : n < 2 ^ 31) (h : inB x n = true) : ∃ j, j < n ∧ x = nI j := by
  unfold inB at h
  simp only [Bool.and_eq_true, decide_eq_true_eq] at h
  obtain ⟨j, hj, e⟩ := nI_of (x := x) (Int32.not_lt.mpr h.1)
  rw [e] at h
  exact ⟨j, (nI_ltI hj hn).mp h.2, e⟩
theorem inB_nI {j n : Nat} (h : j < n) (hn : n < 2 ^ 31) : inB (nI j) n = true := by
  unfold inB; simp only [Bool.and_eq_true, decide_eq_true_eq]; exact ⟨nI_pos' (by omega), nI_lt h hn⟩
theorem pc0 {α : Type} (x y : Int32) (n : Nat) (J K : α) (h : y ≤ x ↔ ¬ x < nI n) : (if x < 0 then J else if y ≤ x then J else K) = if inB x n = true then K else J := by
  unfold inB
  by_cases h1 : x < 0
  · rw [if_pos h1, decide_eq_false (by rw [Int32.not_le]; exact h1), Bool.false_and, if_neg (by decide)]
  · rw [if_neg h1, decide_eq_true (Int32.not_lt.mp h1), Bool.true_and]
    by_cases h2 : x < nI n
    · rw [if_neg (fun q => h.mp q h2), decide_eq_true h2, if_pos rfl]
    · rw [if_pos (h.mpr h2), decide_eq_false h2, if_neg (by decide)]
theorem pc1 {α : Type} (x : Int32) (n : Nat) (J K : α) : (if x < 0 then J else if nI n ≤ x then J else K) = if inB x n = true then K else J := pc0 x _ n J K Int32.not_lt.symm
theorem pc2 {α : Type} (x : Int32) (m : Nat) (hm : m < 1000) (J K : α) : (if x < 0 then J else if nI m < x then J else K) = if inB x (m + 1) = true then K else J := by
  have e : (nI m < x) ↔ (nI (m + 1) ≤ x) := by
    rw [Int32.lt_iff_toInt_lt, Int32.le_iff_toInt_le, nI_toInt (by omega), nI_toInt (by omega)]; omega
  rw [← pc1 x (m + 1) J K]
  by_cases h1 : x < 0
  · rw [if_pos h1, if_pos h1]
  · rw [if_neg h1, if_neg h1]
    by_cases h2 : nI m < x
    · rw [if_pos h2, if_pos (e.mp h2)]
    · rw [if_neg h2, if_neg (fun q => h2 (e.mpr q))]
theorem pl2 {α : Type} (x : Int32) (J K : α) : (if x < 0 then J else if (2 : Int32) < x then J else K) = if inB x 3 = true then K else J := pc2 x 2 (by decide) J K
theorem pl3 {α : Type} (x : Int32) (J K : α) : (if x < 0 then J else if (3 : Int32) < x then J else K) = if inB x 4 = true then K else J := pc2 x 3 (by decide) J K
theorem pl4 {α : Type} (x : Int32) (J K : α) : (if x < 0 then J else if (4 : Int32) < x then J else K) = if inB x 5 = true then K else J := pc2 x 4 (by decide) J K
theorem pl5 {α : Type} (x : Int32) (J K : α) : (if x < 0 then J else if (5 : Int32) < x then J else K) = if inB x 6 = true then K else J := pc2 x 5 (by decide) J K
theorem pl14 {α : Type} (x : Int32) (J K : α) : (if x < 0 then J else if (14 : Int32) < x then J else K) = if inB x 15 = true then K else J := pc2 x 14 (by decide) J K
theorem pl40 {α : Type} (x : Int32) (J K : α) : (if x < 0 then J else if (40 : Int32) < x then J else K) = if inB x 41 = true then K else J := pc2 x 40 (by decide) J K
theorem pl50 {α : Type} (x : Int32) (J K : α) : (if x < 0 then J else if (50 : Int32) < x then J else K) = if inB x 51 = true then K else J := pc2 x 50 (by decide) J K
theorem pl100 {α : Type} (x : Int32) (J K : α) : (if x < 0 then J else if (100 : Int32) < x then J else K) = if inB x 101 = true then K else J := pc2 x 100 (by decide) J K
theorem pl999 {α : Type} (x : Int32) (J K : α) : (if x < 0 then J else if (999 : Int32) < x then J else K) = if inB x 1000 = true then K else J := pc2 x 999 (by decide) J K
theorem pe3 {α : Type} (x : Int32) (J K : α) : (if x < 0 then J else if (3 : Int32) ≤ x then J else K) = if inB x 3 = true then K else J := pc1 x 3 J K
theorem pe11 {α : Type} (x : Int32) (J K : α) : (if x < 0 then J else if (11 : Int32) ≤ x then J else K) = if inB x 11 = true then K else J := pc1 x 11 J K
theorem pe30 {α : Type} (x : Int32) (J K : α) : (if x < 0 then J else if (30 : Int32) ≤ x then J else K) = if inB x 30 = true then K else J := pc1 x 30 J K
theorem pe40 {α : Type} (x : Int32) (J K : α) : (if x < 0 then J else if (40 : Int32) ≤ x then J else K) = if inB x 40 = true then K else J := pc1 x 40 J K
theorem pe300 {α : Type} (x : Int32) (J K : α) : (if x < 0 then J else if (300 : Int32) ≤ x then J else K) = if inB x 300 = true then K else J := pc1 x 300 J K
theorem bI_if (b : Bool) : (if b = true then some 1 else some 0 : Option Int32) = some (bI b) := by cases b <;> rfl
theorem cTenthB (x : Int32) : mX8_isTenth x = some (bI (inB x 300)) := by unfold mX8_isTenth; rw [pe300, bI_if]
theorem cAskB (x : Int32) : mX8_isAsking x = some (bI (inB x 3)) := by unfold mX8_isAsking; rw [pe3, bI_if]
theorem cFitB (x : Int32) : mX8_isFit x = some (bI (inB x 15)) := by unfold mX8_isFit; rw [pl14, bI_if]
theorem cReqB (b : Bool) : mX8_require (bI b) = some (if b = true then 0 else 1) := by cases b <;> rfl
theorem pcR (x : Int32) (n e : Nat) : (if x < 0 then some e else if x < nI n then some 0 else some e : Option Nat) = some (if inB x n = true then 0 else e) := by
  have := pc1 x n (some e) (some 0)
  by_cases h1 : x < 0
  · rw [if_pos h1] at this ⊢; rw [this]; split <;> rfl
  · rw [if_neg h1] at this ⊢
    by_cases h2 : x < nI n
    · rw [if_neg (Int32.not_le.mpr h2)] at this; rw [if_pos h2, this]; split <;> rfl
    · rw [if_pos (Int32.not_lt.mp h2)] at this; rw [if_neg h2, this]; split <;> rfl
theorem cReqS {p : IP} {u : HS} (h : IVc p u) (x : Int32) : mX8_requireScene u x = some (if inB x (pNs p) = true then 0 else 2) := by
  unfold mX8_requireScene; rw [h.1.2.1.1]; simp only [jp_q]; exact pcR x _ 2
theorem cReqT {p : IP} {u : HS} (h : IVc p u) (x : Int32) : mX8_requireTask u x = some (if inB x (pNt p) = true then 0 else 3) := by
  unfold mX8_requireTask; rw [h.1.2.1.2.1]; simp only [jp_q]; exact pcR x _ 3
theorem cReqQ {p : IP} {u : HS} (h : IVc p u) (x : Int32) : mX8_requireLaw u x = some (if inB x (pNl p) = true then 0 else 3) := by
  unfold mX8_requireLaw; rw [h.1.2.1.2.2.1]; simp only [jp_q]; exact pcR x _ 3
theorem cReqL {p : IP} {u : HS} (h : IVc p u) (x : Int32) : mX8_requireLooker u x = some (if inB x (pN p) = true then 0 else 1) := by
  unfold mX8_requireLooker; rw [h.2.2.2.2.2.1.2.1.1.2.1]; simp only [jp_q]; exact pcR x _ 1
theorem xqz {α : Type} {e k : α} : xq 0 e k = k := nrfl rfl
theorem xq1 {α : Type} {e k : α} : xq 1 e k = e := nrfl rfl
theorem xq2 {α : Type} {e k : α} : xq 2 e k = e := nrfl rfl
theorem xq3 {α : Type} {e k : α} : xq 3 e k = e := nrfl rfl
/-! the reference's checks -/
theorem in0 (x : Int32) {n : Nat} (hn : n < 2 ^ 31) : mX9_in x 0 (nI n - 1) = some (bI (inB x n)) := by
  rw [in_ok]
  unfold inB
  by_cases h1 : 0 ≤ x
  · have e : (x ≤ nI n - 1) ↔ x < nI n := by
      cases n with
      | zero =>
        have a : (nI 0 - 1).toInt = -1 := rfl
        have b : (nI 0).toInt = 0 := rfl
        rw [Int32.le_iff_toInt_le, Int32.lt_iff_toInt_lt, a, b]; omega
      | succ n => rw [nI_pred, Int32.le_iff_toInt_le, Int32.lt_iff_toInt_lt, nI_toInt (by omega), nI_toInt (by omega)]; omega
    rw [decide_eq_decide.mpr e]
  · rw [decide_eq_false h1, Bool.false_and, Bool.false_and]
theorem in2 (x : Int32) : mX9_in x 0 2 = some (bI (inB x 3)) := in0 x (n := 3) (by decide)
theorem in3 (x : Int32) : mX9_in x 0 3 = some (bI (inB x 4)) := in0 x (n := 4) (by decide)
theorem in4 (x : Int32) : mX9_in x 0 4 = some (bI (inB x 5)) := in0 x (n := 5) (by decide)
theorem in5 (x : Int32) : mX9_in x 0 5 = some (bI (inB x 6)) := in0 x (n := 6) (by decide)
theorem in10 (x : Int32) : mX9_in x 0 10 = some (bI (inB x 11)) := in0 x (n := 11) (by decide)
theorem in14 (x : Int32) : mX9_in x 0 14 = some (bI (inB x 15)) := in0 x (n := 15) (by decide)
theorem in29 (x : Int32) : mX9_in x 0 29 = some (bI (inB x 30)) := in0 x (n := 30) (by decide)
theorem in39 (x : Int32) : mX9_in x 0 39 = some (bI (inB x 40)) := in0 x (n := 40) (by decide)
theorem in40 (x : Int32) : mX9_in x 0 40 = some (bI (inB x 41)) := in0 x (n := 41) (by decide)
theorem in50 (x : Int32) : mX9_in x 0 50 = some (bI (inB x 51)) := in0 x (n := 51) (by decide)
theorem in100 (x : Int32) : mX9_in x 0 100 = some (bI (inB x 101)) := in0 x (n := 101) (by decide)
theorem in299 (x : Int32) : mX9_in x 0 299 = some (bI (inB x 300)) := in0 x (n := 300) (by decide)
theorem in999 (x : Int32) : mX9_in x 0 999 = some (bI (inB x 1000)) := in0 x (n := 1000) (by decide)
def w0 (u : HS) : HS := wI u 9 0 0 0
theorem QF.w0 {u : HS} {c : Int32} : QF u (wI u 9 0 0 c) := (Fr.rf.w9 (L := []) (K := [0]) (by decide)).qf (by simp) (by simp)
theorem w0c {p : IP} {u : HS} (h : IVc p u) : IVc p (w0 u) := QF.w0.c h
theorem w00 {u : HS} : gI (w0 u) 9 0 0 = 0 := gI_eq
theorem rIsS {p : IP} {u : HS} (h : IVc p u) (x : Int32) : mX9_isScene u x = some (bI (inB x (pNs p))) := by
  unfold mX9_isScene; rw [h.1.2.2.1, in0 x (by have := h.1.1.1; omega)]; simp only [ob_q, zb_bI]
theorem rIsT {p : IP} {u : HS} (h : IVc p u) (x : Int32) : mX9_isTask u x = some (bI (inB x (pNt p))) := by
  unfold mX9_isTask; rw [h.1.2.2.2.1, in0 x (by have := h.1.1.2.1; omega)]; simp only [ob_q, zb_bI]
theorem rIsQ {p : IP} {u : HS} (h : IVc p u) (x : Int32) : mX9_isLaw u x = some (bI (inB x (pNl p))) := by
  unfold mX9_isLaw; rw [h.1.2.2.2.2.1, in0 x (by have := h.1.1.2.2.1; omega)]; simp only [ob_q, zb_bI]
theorem rIsL {p : IP} {u : HS} (h : IVc p u) (x : Int32) : mX9_isLooker u x = some (bI (inB x (pN p))) := by
  unfold mX9_isLooker; rw [h.2.2.2.2.2.1.1.1, in0 x (by have := h.2.2.2.2.2.1.2.1.1.1; omega)]; simp only [ob_q, zb_bI]
theorem rBad {u : HS} (h : gI u 9 0 0 = 0) (b : Bool) {c : Int32} (hc : c ≠ 0) : mX9_bad u (bI b) c = some (bI b, if b = true then wI u 9 0 0 c else u) := by
  unfold mX9_bad
  cases b with
  | false => simp only [bI_f, if_true, ob_q, h, Bool.false_eq_true, if_false]
  | true =>
    rw [if_neg (show ¬ bI true = 0 by decide), if_pos h]
    simp only [bd_q, ob_q, gI_eq, if_true]
    rw [if_neg hc]; rfl
theorem w0e {u : HS} : wI u 9 0 0 0 = w0 u := nrfl rfl
theorem cReq0 : mX8_require 0 = some 1 := rfl
theorem cReq1 : mX8_require 1 = some 0 := rfl
theorem rBad1 {u : HS} (h : gI u 9 0 0 = 0) {c : Int32} (hc : c ≠ 0) : mX9_bad u 1 c = some (1, wI u 9 0 0 c) := rBad h true hc
theorem rBad0 {u : HS} (h : gI u 9 0 0 = 0) {c : Int32} (hc : c ≠ 0) : mX9_bad u 0 c = some (0, u) := rBad h false hc
theorem e10 : ((1 : Int32) = 0) = False := by decide
theorem rThing {p : IP} {u : HS} (h : IVc p u) {l : Nat} (hl : l < pN p) (x : Int32) : mX9_isThing u (nI l) x = some (bI (inB x (sT (pC p (loS u l))))) := by
  obtain ⟨h0, h1, h2, h3, -⟩ := h.lk hl
  obtain ⟨s1, s2⟩ := h.2.2.1 _ h1
  unfold mX9_isThing
  simp only [ck_nI (show l < 15 by omega) (show 15 < 2 ^ 31 by decide), c8_0, ob_q, h3]
  rw [ck_nI (show loS u l < 6 by have := s1.1; omega) (by decide)]
  simp only [ob_q, s1.2.2.2.2.1]
  rw [in0 x (by have := s1.2.2.1; omega)]
  simp only [ob_q, zb_bI]
theorem Step.bad {l : List Nat} {cf : Option (Nat × Int32 × HS)} {rf : HS → Option (Int32 × HS)} {u : HS} (hI : IV u) {k : Nat} {v b c : Int32} (e1 : cf = some (k, v, u)) (e2 : rf u = some (b, wI (w0 u) 9 0 0 c)) (hk : k ∈ l ∧ k ≠ 0 ∧ kmL l k = c) : ∃ k v u1 b u2, cf = some (k, v, u1) ∧ rf u1 = some (b, u2) ∧ gI u2 9 0 0 = kmL l k ∧ (k = 0 → v = b) ∧ (k = 0 ∨ k ∈ l) ∧ IV u2 := by
  obtain ⟨p, h, hs⟩ := hI
  exact ⟨k, v, u, b, _, e1, e2, by rw [gI_eq, hk.2.2], fun q => absurd q hk.2.1, Or.inr hk.1, p, (QF.w0.tr QF.w0).c h, (QF.w0.tr QF.w0).s (by rw [gI_r (by decide), gI_r (by decide)]) hs⟩
theorem Step.ok {l : List Nat} {cf : Option (Nat × Int32 × HS)} {rf : HS → Option (Int32 × HS)} {u1 u2 : HS} {v : Int32} (e1 : cf = some (0, v, u1)) (e2 : rf u1 = some (v, u2)) (h0 : gI u2 9 0 0 = 0) (hI : IV u2) : ∃ k v u1 b u2, cf = some (k, v, u1) ∧ rf u1 = some (b, u2) ∧ gI u2 9 0 0 = kmL l k ∧ (k = 0 → v = b) ∧ (k = 0 ∨ k ∈ l) ∧ IV u2 :=
  ⟨0, v, u1, v, u2, e1, e2, h0, fun _ => rfl, Or.inl rfl, hI⟩
/-- a question: the store's parts that count are as they were -/
theorem Step.ask {l : List Nat} {cf : Option (Nat × Int32 × HS)} {rf : HS → Option (Int32 × HS)} {p : IP} {u u1 u2 : HS} {v : Int32} (h : IVc p u) (e1 : cf = some (0, v, u1)) (e2 : rf u1 = some (v, u2)) (f1 : QF u u1) (s1 : IVs p u1) (f2 : QF u1 u2) (h54 : gI u2 54 = gI u1 54) (h0 : gI u2 9 0 0 = 0) : ∃ k v u1 b u2, cf = some (k, v, u1) ∧ rf u1 = some (b, u2) ∧ gI u2 9 0 0 = kmL l k ∧ (k = 0 → v = b) ∧ (k = 0 ∨ k ∈ l) ∧ IV u2 :=
  Step.ok e1 e2 h0 ⟨p, (f1.tr f2).c h, f2.s h54 s1⟩
theorem w054 {u : HS} : gI (w0 u) 54 = gI u 54 := gI_r (by decide)
theorem num_kl {c : SV} (x : Int32) : numS c x = nI (klS c x).length := by
  unfold numS klS
  rw [show (0 : Int32) = nI 0 from rfl, cnt_nI, Nat.zero_add, List.countP_eq_length_filter]
def inR (x a b : Int32) : Bool := decide (a ≤ x) && decide (x ≤ b)
theorem pcr {α : Type} (x a b : Int32) (J K : α) : (if x < a then J else if b < x then J else K) = if inR x a b = true then K else J := by
  unfold inR
  by_cases h1 : x < a
  · rw [if_pos h1, decide_eq_false (by rw [Int32.not_le]; exact h1), Bool.false_and, if_neg (by decide)]
  · rw [if_neg h1, decide_eq_true (Int32.not_lt.mp h1), Bool.true_and]
    by_cases h2 : b < x
    · rw [if_pos h2, decide_eq_false (by rw [Int32.not_le]; exact h2), if_neg (by decide)]
    · rw [if_neg h2, decide_eq_true (Int32.not_lt.mp h2), if_pos rfl]
theorem inr_ok (x a b : Int32) : mX9_in x a b = some (bI (inR x a b)) := in_ok x a b
theorem inR_t {x : Int32} {n : Nat} (hn : n < 2 ^ 31) (h : inR x 1 (nI n) = true) : ∃ j, 1 ≤ j ∧ j ≤ n ∧ x = nI j := by
  unfold inR at h
  simp only [Bool.and_eq_true, decide_eq_true_eq] at h
  obtain ⟨j, hj, e⟩ := nI_of (x := x) (Int32.not_lt.mpr (Int32.le_trans (by decide) h.1))
  rw [e] at h
  exact ⟨j, (nI_leI (a := 1) (by decide) hj).mp h.1, (nI_leI hj hn).mp h.2, e⟩
theorem pr99 {α : Type} (x : Int32) (J K : α) : (if x < 1 then J else if (99 : Int32) < x then J else K) = if inR x 1 (nI 99) = true then K else J := pcr x 1 (nI 99) J K
theorem pr9 {α : Type} (x : Int32) (J K : α) : (if x < 1 then J else if (9 : Int32) < x then J else K) = if inR x 1 (nI 9) = true then K else J := pcr x 1 (nI 9) J K
theorem pr8 {α : Type} (x : Int32) (J K : α) : (if x < 1 then J else if (8 : Int32) < x then J else K) = if inR x 1 (nI 8) = true then K else J := pcr x 1 (nI 8) J K
theorem ir99 (x : Int32) : mX9_in x 1 99 = some (bI (inR x 1 (nI 99))) := inr_ok x 1 (nI 99)
theorem ir9 (x : Int32) : mX9_in x 1 9 = some (bI (inR x 1 (nI 9))) := inr_ok x 1 (nI 9)
theorem ir8 (x : Int32) : mX9_in x 1 8 = some (bI (inR x 1 (nI 8))) := inr_ok x 1 (nI 8)
