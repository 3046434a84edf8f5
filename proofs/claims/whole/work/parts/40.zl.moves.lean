theorem pos77 {j : Nat} (hj : j < 4) : posR 77 0 j = 5 + j := by unfold posR; rw [if_neg (by omega), if_pos (by omega)]
theorem rRow77 {b : Bool} {k lo : Nat} {u v : HS} (h : MI b k lo u (5) v) (hk : k < 3) (hlo : lo ≤ 5) : ∃ v', mX9_movesRow_77 v (nI k) (bI b) = some v' ∧ MI b k lo u (5 + 4) v' := by
  unfold mX9_movesRow_77
  simp only [jp_q]
  refine loopR (fun fu (a : HS) y => mX9_movesRow_77_L3 (nI k) (bI b) (fun u => some u) fu y a) 4 0 (fun j a => MI b k lo u (5 + j) a) (fun o => ∃ v', o = some v' ∧ MI b k lo u (5 + 4) v') ?_ ?_ 4 0 v FU (Nat.le_refl _) rfl (FU_lt (by omega)) h
  · intro fu a j _ hj ha ih
    show ∃ v', mX9_movesRow_77_L3 (nI k) (bI b) (fun u => some u) (fu + 1) (nI j) a = some v' ∧ _
    obtain ⟨x, v1, e1, m1⟩ := MI.step ha hk (pos77 hj) (by omega) (by omega)
    rw [mX9_movesRow_77_L3.eq_2, tI, if_neg (show ¬ nI 4 ≤ nI j from nI_ge hj (by decide)), ck_nI hj (by decide)]
    simp only [ob_q]
    rw [e1]
    simp only [ob_q, bd_q, nI_1]
    exact ih _ m1
  · intro fu a ha
    show ∃ v', mX9_movesRow_77_L3 (nI k) (bI b) (fun u => some u) (fu + 1) (nI 4) a = some v' ∧ _
    rw [mX9_movesRow_77_L3.eq_2, tI, if_pos (show nI 4 ≤ nI 4 by decide)]
    exact ⟨a, rfl, ha⟩
theorem pos81 {i j : Nat} (hi : i < 14) (hj : j < 8) : posR 81 i j = 9 + 8 * i + j := by unfold posR; rw [if_neg (by omega), if_neg (by omega), if_pos (by omega)]
theorem rRow81 {b : Bool} {k lo i : Nat} {u v : HS} (h : MI b k lo u (9 + 8 * i) v) (hk : k < 3) (hi : i < 14) (hlo : lo ≤ 9 + 8 * i) : ∃ v', mX9_movesRow_81 v (nI k) i (bI b) = some v' ∧ MI b k lo u (9 + 8 * i + 8) v' := by
  unfold mX9_movesRow_81
  simp only [jp_q]
  refine loopR (fun fu (a : HS) y => mX9_movesRow_81_L3 (nI k) i (bI b) (fun u => some u) fu y a) 8 0 (fun j a => MI b k lo u (9 + 8 * i + j) a) (fun o => ∃ v', o = some v' ∧ MI b k lo u (9 + 8 * i + 8) v') ?_ ?_ 8 0 v FU (Nat.le_refl _) rfl (FU_lt (by omega)) h
  · intro fu a j _ hj ha ih
    show ∃ v', mX9_movesRow_81_L3 (nI k) i (bI b) (fun u => some u) (fu + 1) (nI j) a = some v' ∧ _
    obtain ⟨x, v1, e1, m1⟩ := MI.step ha hk (pos81 hi hj) (by omega) (by omega)
    rw [mX9_movesRow_81_L3.eq_2, tI, if_neg (show ¬ nI 8 ≤ nI j from nI_ge hj (by decide)), ck_nI hj (by decide)]
    simp only [ob_q]
    rw [e1]
    simp only [ob_q, bd_q, nI_1]
    exact ih _ m1
  · intro fu a ha
    show ∃ v', mX9_movesRow_81_L3 (nI k) i (bI b) (fun u => some u) (fu + 1) (nI 8) a = some v' ∧ _
    rw [mX9_movesRow_81_L3.eq_2, tI, if_pos (show nI 8 ≤ nI 8 by decide)]
    exact ⟨a, rfl, ha⟩
theorem rRows81 {b : Bool} {k lo : Nat} {u v : HS} {w : HS → Option HS} (h : MI b k lo u 9 v) (hk : k < 3) (hlo : lo ≤ 9) : ∃ v', mX9_movesAll_L112 (nI k) (bI b) w FU 0 v = w v' ∧ MI b k lo u (9 + 8 * 14) v' := by
  refine loopR (fun fu (a : HS) y => mX9_movesAll_L112 (nI k) (bI b) w fu y a) 14 0 (fun i a => MI b k lo u (9 + 8 * i) a) (fun o => ∃ v', o = w v' ∧ MI b k lo u (9 + 8 * 14) v') ?_ ?_ 14 0 v FU (Nat.le_refl _) rfl (FU_lt (by omega)) h
  · intro fu a i _ hi ha ih
    show ∃ v', mX9_movesAll_L112 (nI k) (bI b) w (fu + 1) (nI i) a = w v' ∧ _
    obtain ⟨v1, e1, m1⟩ := rRow81 ha hk hi (by omega)
    rw [mX9_movesAll_L112.eq_2, if_neg (show ¬ (14 : Int32) ≤ nI i from nI_ge (b := 14) hi (by decide)), ck_nI (show i < 15 by omega) (by decide)]
    simp only [ob_q]
    rw [e1]
    simp only [ob_q, bd_q, nI_1]
    exact ih _ (by rw [show 9 + 8 * (i + 1) = 9 + 8 * i + 8 by omega]; exact m1)
  · intro fu a ha
    show ∃ v', mX9_movesAll_L112 (nI k) (bI b) w (fu + 1) (nI 14) a = w v' ∧ _
    rw [mX9_movesAll_L112.eq_2, if_pos (show (14 : Int32) ≤ nI 14 by decide)]
    exact ⟨a, rfl, ha⟩
theorem pos83 {i j : Nat} (hi : i < 60) (hj : j < 4) : posR 83 i j = 121 + 4 * i + j := by unfold posR; rw [if_neg (by omega), if_neg (by omega), if_neg (by omega), if_pos (by omega)]
theorem rRow83 {b : Bool} {k lo i : Nat} {u v : HS} (h : MI b k lo u (121 + 4 * i) v) (hk : k < 3) (hi : i < 60) (hlo : lo ≤ 121 + 4 * i) : ∃ v', mX9_movesRow_83 v (nI k) i (bI b) = some v' ∧ MI b k lo u (121 + 4 * i + 4) v' := by
  unfold mX9_movesRow_83
  simp only [jp_q]
  refine loopR (fun fu (a : HS) y => mX9_movesRow_83_L3 (nI k) i (bI b) (fun u => some u) fu y a) 4 0 (fun j a => MI b k lo u (121 + 4 * i + j) a) (fun o => ∃ v', o = some v' ∧ MI b k lo u (121 + 4 * i + 4) v') ?_ ?_ 4 0 v FU (Nat.le_refl _) rfl (FU_lt (by omega)) h
  · intro fu a j _ hj ha ih
    show ∃ v', mX9_movesRow_83_L3 (nI k) i (bI b) (fun u => some u) (fu + 1) (nI j) a = some v' ∧ _
    obtain ⟨x, v1, e1, m1⟩ := MI.step ha hk (pos83 hi hj) (by omega) (by omega)
    rw [mX9_movesRow_83_L3.eq_2, tI, if_neg (show ¬ nI 4 ≤ nI j from nI_ge hj (by decide)), ck_nI hj (by decide)]
    simp only [ob_q]
    rw [e1]
    simp only [ob_q, bd_q, nI_1]
    exact ih _ m1
  · intro fu a ha
    show ∃ v', mX9_movesRow_83_L3 (nI k) i (bI b) (fun u => some u) (fu + 1) (nI 4) a = some v' ∧ _
    rw [mX9_movesRow_83_L3.eq_2, tI, if_pos (show nI 4 ≤ nI 4 by decide)]
    exact ⟨a, rfl, ha⟩
theorem rRows83 {b : Bool} {k lo : Nat} {u v : HS} {w : HS → Option HS} (h : MI b k lo u 121 v) (hk : k < 3) (hlo : lo ≤ 9) : ∃ v', mX9_movesAll_L141 (nI k) (bI b) w FU 0 v = w v' ∧ MI b k lo u (121 + 4 * 60) v' := by
  refine loopR (fun fu (a : HS) y => mX9_movesAll_L141 (nI k) (bI b) w fu y a) 60 0 (fun i a => MI b k lo u (121 + 4 * i) a) (fun o => ∃ v', o = w v' ∧ MI b k lo u (121 + 4 * 60) v') ?_ ?_ 60 0 v FU (Nat.le_refl _) rfl (FU_lt (by omega)) h
  · intro fu a i _ hi ha ih
    show ∃ v', mX9_movesAll_L141 (nI k) (bI b) w (fu + 1) (nI i) a = w v' ∧ _
    obtain ⟨v1, e1, m1⟩ := rRow83 ha hk hi (by omega)
    rw [mX9_movesAll_L141.eq_2, if_neg (show ¬ (60 : Int32) ≤ nI i from nI_ge (b := 60) hi (by decide)), ck_nI (show i < 60 by omega) (by decide)]
    simp only [ob_q]
    rw [e1]
    simp only [ob_q, bd_q, nI_1]
    exact ih _ (by rw [show 121 + 4 * (i + 1) = 121 + 4 * i + 4 by omega]; exact m1)
  · intro fu a ha
    show ∃ v', mX9_movesAll_L141 (nI k) (bI b) w (fu + 1) (nI 60) a = w v' ∧ _
    rw [mX9_movesAll_L141.eq_2, if_pos (show (60 : Int32) ≤ nI 60 by decide)]
    exact ⟨a, rfl, ha⟩
theorem pos85 {i j : Nat} (hi : i < 40) (hj : j < 3) : posR 85 i j = 361 + 3 * i + j := by unfold posR; rw [if_neg (by omega), if_neg (by omega), if_neg (by omega), if_neg (by omega), if_pos (by omega)]
theorem rRow85 {b : Bool} {k lo i : Nat} {u v : HS} (h : MI b k lo u (361 + 3 * i) v) (hk : k < 3) (hi : i < 40) (hlo : lo ≤ 361 + 3 * i) : ∃ v', mX9_movesRow_85 v (nI k) i (bI b) = some v' ∧ MI b k lo u (361 + 3 * i + 3) v' := by
  unfold mX9_movesRow_85
  simp only [jp_q]
  refine loopR (fun fu (a : HS) y => mX9_movesRow_85_L3 (nI k) i (bI b) (fun u => some u) fu y a) 3 0 (fun j a => MI b k lo u (361 + 3 * i + j) a) (fun o => ∃ v', o = some v' ∧ MI b k lo u (361 + 3 * i + 3) v') ?_ ?_ 3 0 v FU (Nat.le_refl _) rfl (FU_lt (by omega)) h
  · intro fu a j _ hj ha ih
    show ∃ v', mX9_movesRow_85_L3 (nI k) i (bI b) (fun u => some u) (fu + 1) (nI j) a = some v' ∧ _
    obtain ⟨x, v1, e1, m1⟩ := MI.step ha hk (pos85 hi hj) (by omega) (by omega)
    rw [mX9_movesRow_85_L3.eq_2, tI, if_neg (show ¬ nI 3 ≤ nI j from nI_ge hj (by decide)), ck_nI hj (by decide)]
    simp only [ob_q]
    rw [e1]
    simp only [ob_q, bd_q, nI_1]
    exact ih _ m1
  · intro fu a ha
    show ∃ v', mX9_movesRow_85_L3 (nI k) i (bI b) (fun u => some u) (fu + 1) (nI 3) a = some v' ∧ _
    rw [mX9_movesRow_85_L3.eq_2, tI, if_pos (show nI 3 ≤ nI 3 by decide)]
    exact ⟨a, rfl, ha⟩
theorem rRows85 {b : Bool} {k lo : Nat} {u v : HS} {w : HS → Option HS} (h : MI b k lo u 361 v) (hk : k < 3) (hlo : lo ≤ 9) : ∃ v', mX9_movesAll_L170 (nI k) (bI b) w FU 0 v = w v' ∧ MI b k lo u (361 + 3 * 40) v' := by
  refine loopR (fun fu (a : HS) y => mX9_movesAll_L170 (nI k) (bI b) w fu y a) 40 0 (fun i a => MI b k lo u (361 + 3 * i) a) (fun o => ∃ v', o = w v' ∧ MI b k lo u (361 + 3 * 40) v') ?_ ?_ 40 0 v FU (Nat.le_refl _) rfl (FU_lt (by omega)) h
  · intro fu a i _ hi ha ih
    show ∃ v', mX9_movesAll_L170 (nI k) (bI b) w (fu + 1) (nI i) a = w v' ∧ _
    obtain ⟨v1, e1, m1⟩ := rRow85 ha hk hi (by omega)
    rw [mX9_movesAll_L170.eq_2, if_neg (show ¬ (40 : Int32) ≤ nI i from nI_ge (b := 40) hi (by decide)), ck_nI (show i < 40 by omega) (by decide)]
    simp only [ob_q]
    rw [e1]
    simp only [ob_q, bd_q, nI_1]
    exact ih _ (by rw [show 361 + 3 * (i + 1) = 361 + 3 * i + 3 by omega]; exact m1)
  · intro fu a ha
    show ∃ v', mX9_movesAll_L170 (nI k) (bI b) w (fu + 1) (nI 40) a = w v' ∧ _
    rw [mX9_movesAll_L170.eq_2, if_pos (show (40 : Int32) ≤ nI 40 by decide)]
    exact ⟨a, rfl, ha⟩

theorem MI.law {b : Bool} {k : Nat} {u v : HS} (h : MI b k 0 u 4 v) (hk : k < 3) : mX9_moves v (nI k) (gI v 9 0 16) (bI b) = some (if b = true then gI u 87 k 4 else gI u 9 0 16, wI (if b = true then v else wI v 87 k 4 (gI v 9 0 16)) 9 0 37 (nI 5)) ∧ MI b k 0 u 5 (wI (if b = true then v else wI v 87 k 4 (gI v 9 0 16)) 9 0 37 (nI 5)) := by
  obtain ⟨h37, hR, hm⟩ := h
  have hn4 : ∀ r i c, posR r i c ≠ 4 := fun r i c q => by have := posR_c r i c; omega
  have h87 : ∀ i c, posR 87 i c = 1000 := fun i c => by have := posR_c 87 i c; omega
  have n16 : posR 9 0 16 = 1000 := by decide
  have hr := rMove hk h37 (by decide) (gI v 9 0 16) b
  rw [hr]
  cases b with
  | true =>
    rw [if_pos rfl] at hm
    simp only [if_true]
    have e : gI v 87 k 4 = gI u 87 k 4 := by
      rw [hm 87 k 4 (fun q => by omega), if_neg (by rw [h87]; omega)]
    refine ⟨by rw [e], by rw [gI_eq], hR ▸ rfl, ?_⟩
    rw [if_pos rfl]
    intro r i c hn
    rw [gI_wI, if_neg hn, hm r i c hn]
    have := hn4 r i c
    by_cases d : 0 ≤ posR r i c ∧ posR r i c < 4
    · rw [if_pos d, if_pos (by omega)]
    · rw [if_neg d, if_neg (by omega)]
  | false =>
    rw [if_neg (by decide)] at hm
    simp only [Bool.false_eq_true, if_false]
    obtain ⟨m1, m2, m3, m4⟩ := hm
    have e : gI v 9 0 16 = gI u 9 0 16 := m1 9 0 16 (fun q => by omega) (fun q => by omega)
    refine ⟨by rw [e], by rw [gI_eq], hR ▸ rfl, ?_⟩
    rw [if_neg (by decide)]
    refine ⟨fun r i c hn h8 => ?_, fun r i c h1 h2 => ?_, fun j hj => by omega, fun _ _ => ?_⟩
    · rw [gI_wI, if_neg hn, gI_wI, if_neg (fun q => h8 ⟨q.1, q.2.1⟩)]; exact m1 r i c hn h8
    · have := hn4 r i c
      rw [gI_r (by decide), gI_k this]; exact m2 r i c h1 (by omega)
    · rw [gI_r (by decide), gI_eq, e]
theorem rOnes {b : Bool} {h : Nat} {v : HS} {w : HS → Option HS} (hh : h ≤ 4) : ∃ v', mX9_movesAll_L85 (bI b) w FU (nI h) v = w v' ∧ gR v' = gR v ∧ ∀ r i c, gI v' r i c = if b = true ∧ r = 77 ∧ i = 0 ∧ h ≤ c ∧ c < 4 then 1 else gI v r i c := by
  cases b with
  | false =>
    refine ⟨v, ?_, rfl, fun r i c => by rw [if_neg (by simp)]⟩
    rw [show FU = 4095 + 1 from rfl, mX9_movesAll_L85.eq_2]
    by_cases c : (4 : Int32) ≤ nI h
    · rw [if_pos c]
    · rw [if_neg c, if_pos (show bI false = 0 by decide)]
  | true =>
    have hz : ∃ v', mX9_movesAll_L85 (bI true) w FU (nI h) v = w v' ∧ gR v' = gR v ∧ ∀ r i c, gI v' r i c = if r = 77 ∧ i = 0 ∧ h ≤ c ∧ c < 4 then 1 else gI v r i c := by
     refine loopR (fun fu (a : HS) y => mX9_movesAll_L85 (bI true) w fu y a) 4 h (fun j a => gR a = gR v ∧ ∀ r i c, gI a r i c = if r = 77 ∧ i = 0 ∧ h ≤ c ∧ c < j then 1 else gI v r i c) (fun o => ∃ v', o = w v' ∧ gR v' = gR v ∧ ∀ r i c, gI v' r i c = if r = 77 ∧ i = 0 ∧ h ≤ c ∧ c < 4 then 1 else gI v r i c) ?_ ?_ (4 - h) h v FU (Nat.le_refl _) (by omega) (FU_lt (by omega)) ⟨rfl, fun r i c => by rw [if_neg (by omega)]⟩
     · intro fu a j h1 hj ⟨a0, a1⟩ ih
       show ∃ v', mX9_movesAll_L85 (bI true) w (fu + 1) (nI j) a = w v' ∧ _
       rw [mX9_movesAll_L85.eq_2, if_neg (show ¬ (4 : Int32) ≤ nI j from nI_ge (b := 4) hj (by decide)), if_neg (show ¬ bI true = 0 by decide), ck_nI hj (by decide)]
       simp only [ob_q, bd_q, nI_1]
       refine ih _ ⟨a0, fun r i c => ?_⟩
       rw [gI_wI]
       by_cases e : r = 77 ∧ i = 0 ∧ c = j
       · rw [if_pos e, if_pos (by omega)]
       · rw [if_neg e, a1]
         by_cases d : r = 77 ∧ i = 0 ∧ h ≤ c ∧ c < j
         · rw [if_pos d, if_pos (by omega)]
         · rw [if_neg d, if_neg (by omega)]
     · intro fu a ⟨a0, a1⟩
       show ∃ v', mX9_movesAll_L85 (bI true) w (fu + 1) (nI 4) a = w v' ∧ _
       rw [mX9_movesAll_L85.eq_2, if_pos (show (4 : Int32) ≤ nI 4 by decide)]
       exact ⟨a, rfl, a0, a1⟩
    obtain ⟨v', z1, z2, z3⟩ := hz
    exact ⟨v', z1, z2, fun r i c => by rw [z3]; simp⟩
theorem MI.new {b : Bool} {k lo : Nat} {v : HS} (h : gI v 9 0 37 = nI lo) : MI b k lo v lo v := by
  refine ⟨h, rfl, ?_⟩
  cases b with
  | true => rw [if_pos rfl]; intro r i c _; rw [if_neg (by omega)]
  | false => rw [if_neg (by decide)]; exact ⟨fun _ _ _ _ _ => rfl, fun r i c h1 h2 => by omega, fun _ _ => rfl, fun h1 h2 => by omega⟩
/-- all is moved -/
theorem rMoves {b : Bool} {k h : Nat} {u : HS} (hk : k < 3) (hh : h ≤ 4) (h4 : (if b = true then gI u 87 k 4 else gI u 9 0 16) = nI h) : ∃ v1 v2 v3, mX9_movesAll u (nI k) (bI b) = some v3 ∧ MI b k 0 u 9 v1 ∧ (gR v2 = gR v1 ∧ ∀ r i c, gI v2 r i c = if b = true ∧ r = 77 ∧ i = 0 ∧ h ≤ c ∧ c < 4 then 1 else gI v1 r i c) ∧ MI b k 9 v2 481 v3 := by
  have i0 : MI b k 0 u 0 (wI u 9 0 37 0) := by
    refine ⟨by rw [gI_eq]; rfl, rfl, ?_⟩
    cases b with
    | true => rw [if_pos rfl]; intro r i c hn; rw [gI_wI, if_neg hn, if_neg (by omega)]
    | false => rw [if_neg (by decide)]; exact ⟨fun r i c hn _ => by rw [gI_wI, if_neg hn], fun r i c h1 h2 => by omega, fun j hj => by omega, fun h1 h2 => by omega⟩
  obtain ⟨x1, a1, e1, m1⟩ := i0.step hk (r := 9) (i := 0) (c := 28) (by decide) (by decide) (by decide)
  obtain ⟨x2, a2, e2, m2⟩ := m1.step hk (r := 9) (i := 0) (c := 29) (by decide) (by decide) (by decide)
  obtain ⟨x3, a3, e3, m3⟩ := m2.step hk (r := 9) (i := 0) (c := 30) (by decide) (by decide) (by decide)
  obtain ⟨x4, a4, e4, m4⟩ := m3.step hk (r := 9) (i := 0) (c := 31) (by decide) (by decide) (by decide)
  obtain ⟨e5, m5⟩ := m4.law hk
  rw [h4] at e5
  obtain ⟨v1, e6, m6⟩ := rRow77 m5 hk (by decide)
  obtain ⟨v2, e7, r7, g7⟩ := rOnes (b := b) (v := v1) (w := fun u125 => mX9_movesAll_L112 (nI k) (bI b) (fun u129 => mX9_movesAll_L141 (nI k) (bI b) (fun u133 => mX9_movesAll_L170 (nI k) (bI b) (fun u137 => some u137) FU 0 u133) FU 0 u129) FU 0 u125) hh
  have n7 : gI v2 9 0 37 = nI 9 := by rw [g7, if_neg (by omega)]; exact m6.1
  obtain ⟨v3, e8, m8⟩ := rRows81 (w := fun u129 => mX9_movesAll_L141 (nI k) (bI b) (fun u133 => mX9_movesAll_L170 (nI k) (bI b) (fun u137 => some u137) FU 0 u133) FU 0 u129) (MI.new (b := b) (k := k) n7) hk (Nat.le_refl _)
  obtain ⟨v4, e9, m9⟩ := rRows83 (w := fun u133 => mX9_movesAll_L170 (nI k) (bI b) (fun u137 => some u137) FU 0 u133) m8 hk (Nat.le_refl _)
  obtain ⟨v5, e10', m10⟩ := rRows85 (w := fun u137 => some u137) m9 hk (Nat.le_refl _)
  refine ⟨v1, v2, v5, ?_, m6, ⟨r7, g7⟩, m10⟩
  unfold mX9_movesAll
  simp only [bd_q, jp_q]
  rw [e1]
  simp only [ob_q]
  rw [e2]
  simp only [ob_q]
  rw [e3]
  simp only [ob_q]
  rw [e4]
  simp only [ob_q]
  rw [e5]
  simp only [ob_q]
  rw [e6]
  simp only [ob_q]
  rw [e7, e8, e9, e10']
