/-! ===== the class reads a law's text ===== -/
theorem CLs.w {B : Nat → Int32} {n i k : Nat} {s : LSt} {u : HS} {r i' z : Nat} {x : Int32} (h : CLs B n i k s u) (hr : 5 ≠ r ∧ 45 ≠ r ∧ 1 ≠ r ∧ 32 ≠ r) : CLs B n i k s (wI u r i' z x) := by
  obtain ⟨h1, h2, h3, h4⟩ := h
  refine ⟨h1, h2.w hr.1 hr.2.1, ?_, h4⟩
  unfold CD
  rw [gI_r hr.2.2.1, gI_r hr.2.2.2]
  exact h3
theorem CLs.w1 {B : Nat → Int32} {n i k : Nat} {s : LSt} {u : HS} {z : Nat} {x : Int32} (h : CLs B n i k s u) (hz : 1 ≠ z) : CLs B n i k s (wI u 1 i z x) := by
  obtain ⟨h1, h2, h3, h4⟩ := h
  refine ⟨h1, h2.w (by decide) (by decide), ?_, h4⟩
  unfold CD
  rw [gI_k hz, gI_r (show 32 ≠ 1 by decide)]
  exact h3
theorem CLs.wk {B : Nat → Int32} {n i k : Nat} {s : LSt} {u : HS} (h : CLs B n i (k + 1) s u) : CLs B n i k s u := ⟨h.1, h.2.1, h.2.2.1, fun pc hpc => by have := h.2.2.2 pc hpc; omega⟩
def LWf (i k : Nat) (u v : HS) : Prop := (∀ r, r ≠ 5 → r ≠ 1 → (r < 32 ∨ 36 < r) → gI v r = gI u r) ∧ (∀ r j, (r = 1 ∨ (32 ≤ r ∧ r ≤ 36)) → j ≠ i → gI v r j = gI u r j) ∧ (∀ r z, 33 ≤ r → r ≤ 36 → z < k → gI v r i z = gI u r i z) ∧ (∀ z, z ∉ [3, 4, 5, 6] → gI v 5 0 z = gI u 5 0 z) ∧ gR v = gR u
theorem LWf.rf {i k : Nat} {u : HS} : LWf i k u u := ⟨fun _ _ _ _ => rfl, fun _ _ _ _ => rfl, fun _ _ _ _ _ => rfl, fun _ _ => rfl, rfl⟩
theorem LWf.tr {i k : Nat} {u v w : HS} (h : LWf i k u v) (h2 : LWf i k v w) : LWf i k u w := ⟨fun r a b c => (h2.1 r a b c).trans (h.1 r a b c), fun r j a b => (h2.2.1 r j a b).trans (h.2.1 r j a b), fun r z a b c => (h2.2.2.1 r z a b c).trans (h.2.2.1 r z a b c), fun z a => (h2.2.2.2.1 z a).trans (h.2.2.2.1 z a), h2.2.2.2.2.trans h.2.2.2.2⟩
theorem LWf.mo {i k k' : Nat} {u v : HS} (h : LWf i k' u v) (hk : k ≤ k') : LWf i k u v := ⟨h.1, h.2.1, fun r z a b c => h.2.2.1 r z a b (by omega), h.2.2.2.1, h.2.2.2.2⟩
theorem LF.lw {i k : Nat} {u v : HS} (h : LF i u v) : LWf i k u v := ⟨fun r a b c => h.1 r a b (by omega), fun r j a b => by
    by_cases e : r = 1 ∨ r = 32
    · exact h.2.1 r j e b
    · rw [h.1 r (by omega) (by omega) (by omega)], fun r z a b _ => by rw [h.1 r (by omega) (by omega) (by omega)], h.2.2.2.1, h.2.2.2.2⟩
theorem LWf.w {i k : Nat} {u v : HS} {r z : Nat} {x : Int32} (h : LWf i k u v) (hr : 33 ≤ r ∧ r ≤ 36) (hz : k ≤ z) : LWf i k u (wI v r i z x) := ⟨fun r' a b c => by rw [gI_r (by omega)]; exact h.1 r' a b c, fun r' j a b => by
    by_cases e : r' = r
    · rw [e, gI_ri b]; exact h.2.1 r j (by omega) b
    · rw [gI_r e]; exact h.2.1 r' j a b, fun r' y a b c => by
    by_cases e : r' = r
    · rw [e, gI_k (by omega)]; exact h.2.2.1 r y hr.1 hr.2 c
    · rw [gI_r e]; exact h.2.2.1 r' y a b c, fun y a => by rw [gI_r (by omega)]; exact h.2.2.2.1 y a, h.2.2.2.2⟩
theorem LWf.w1 {i k : Nat} {u v : HS} {z : Nat} {x : Int32} (h : LWf i k u v) : LWf i k u (wI v 1 i z x) := ⟨fun r' a b c => by rw [gI_r b]; exact h.1 r' a b c, fun r' j a b => by
    by_cases e : r' = 1
    · rw [e, gI_ri b]; exact h.2.1 1 j (by omega) b
    · rw [gI_r e]; exact h.2.1 r' j a b, fun r' y a b c => by rw [gI_r (by omega)]; exact h.2.2.1 r' y a b c, fun y a => by rw [gI_r (by decide)]; exact h.2.2.2.1 y a, h.2.2.2.2⟩
theorem cLawC {B : Nat → Int32} {n i k j p : Nat} {c : List Int32} {u : HS} (hn : n ≤ 400) (hk : k < 16) (h : CLs B n i 0 (.ok (p, c)) u) : ∃ u', mX2_readClause u (nI j) (nI k) = some u' ∧ LWf i k u u' ∧ gI u' 1 i 2 = nI (k + 1) ∧ match lcS B n p c with | .error e => CLs B n i 0 (.error e) u' | .ok q => CLs B n i 0 (.ok (q.1, q.2.2.2)) u' ∧ gI u' 33 i k = nI j ∧ gI u' 34 i k = nI c.length ∧ gI u' 35 i k = nI q.2.1 ∧ gI u' 36 i k = q.2.2.1.elim (nI q.2.1) nI := by
  have hi := h.1
  have kk : ck 16 (nI k) = some k := ck_nI hk (by decide)
  have hl : gI u 1 i 1 = nI c.length := h.2.2.1.1
  unfold mX2_readClause
  simp only [kk, ob_q, bd_q, hi, show ∀ (σ : HS) (r i k : Nat) (v : Int32), gR (wI σ r i k v) = gR σ from fun _ _ _ _ _ => rfl, gI_r (show 1 ≠ 33 by decide), hl]
  have h1 : CLs B n i 0 (.ok (p, c)) (wI (wI u 33 i k (nI j)) 34 i k (nI c.length)) := (h.w (by decide)).w (by decide)
  obtain ⟨uc, ec, cc, fc⟩ := cGrp hn 64 0 0 (by decide) (by decide) (by decide) 0 _ _ h1
  rw [show mX2_readSum (wI (wI u 33 i k (nI j)) 34 i k (nI c.length)) 0 = some uc from ec]
  have F0 : LWf i k u (wI (wI u 33 i k (nI j)) 34 i k (nI c.length)) := (LWf.rf.w (by decide) (Nat.le_refl k)).w (by decide) (Nat.le_refl k)
  have Fc : LWf i k u uc := F0.tr fc.lw
  have g33 : gI uc 33 i k = nI j := by rw [fc.1 33 (by decide) (by decide) (by decide), gI_r (by decide), gI_eq]
  have g34 : gI uc 34 i k = nI c.length := by rw [fc.1 34 (by decide) (by decide) (by decide), gI_eq]
  simp only [ob_q, cc.1]
  unfold lcS
  cases hA : gS B n 64 0 0 (.ok (p, c)) with
  | error e =>
    rw [hA] at cc
    have cd : CLs B n i 0 (.error e) (wI uc 35 i k (gI uc 1 i 1)) := cc.w (by decide)
    have n5 : gI (wI uc 35 i k (gI uc 1 i 1)) 5 0 5 ≠ 0 := by rw [cd.2.1.2.2.1]; exact cd.2.1.2.1
    rw [cTakeWE n5]
    simp only [ob_q]
    rw [if_neg (show ¬ (-1 : Int32) = 0 by decide)]
    simp only [ob_q, show ∀ (σ : HS) (r i k : Nat) (v : Int32), gR (wI σ r i k v) = gR σ from fun _ _ _ _ _ => rfl, cc.1, nI_1]
    exact ⟨_, rfl, ((Fc.w (by decide) (Nat.le_refl k)).w (by decide) (Nat.le_refl k)).w1, gI_eq, (cd.w (by decide)).w1 (by decide)⟩
  | ok pc =>
    obtain ⟨p1, c1⟩ := pc
    rw [hA] at cc
    have hl1 : gI uc 1 i 1 = nI c1.length := cc.2.2.1.1
    have cd : CLs B n i 0 (.ok (p1, c1)) (wI uc 35 i k (nI c1.length)) := cc.w (by decide)
    have hp1 := cd.2.1.le
    have hp1n : p1 ≤ n := hp1.1
    have hsk : sk B n p1 = p1 := hp1.2.2
    rw [hl1]
    obtain ⟨ue, ee, fe, ce, -⟩ := cTakeWS (i := 11) (p := p1) ⟨by decide, by decide⟩ cd.2.1
    rw [ee]
    simp only [ob_q]
    have Fd : LWf i k u (wI uc 35 i k (nI c1.length)) := Fc.w (by decide) (Nat.le_refl k)
    have Fe : LWf i k u ue := Fd.tr ((fe.lf (by decide)).lw)
    have q33 : gI ue 33 i k = nI j := by rw [fe.1 33 (by decide), gI_r (by decide)]; exact g33
    have q34 : gI ue 34 i k = nI c.length := by rw [fe.1 34 (by decide), gI_r (by decide)]; exact g34
    have q35 : gI ue 35 i k = nI c1.length := by rw [fe.1 35 (by decide), gI_eq]
    cases hw : wdO 11 B n p1 with
    | none =>
      rw [hw, if_neg (by simp)] at ce
      rw [if_neg (show ¬ (none : Option Nat).elim (-1) nI = 0 by decide)]
      rw [if_neg (show ¬ (none : Option Nat) = some 0 by simp)]
      have he : CLs B n i 0 (.ok (p1, c1)) ue := cd.st fe ce
      simp only [ob_q, show ∀ (σ : HS) (r i k : Nat) (v : Int32), gR (wI σ r i k v) = gR σ from fun _ _ _ _ _ => rfl, he.1, nI_1]
      rw [show gI ue 1 i 1 = nI c1.length from he.2.2.1.1]
      refine ⟨_, rfl, (Fe.w (by decide) (Nat.le_refl k)).w1, gI_eq, (he.w (by decide)).w1 (by decide), ?_, ?_, ?_, ?_⟩
      · rw [gI_r (by decide), gI_r (by decide)]; exact q33
      · rw [gI_r (by decide), gI_r (by decide)]; exact q34
      · rw [gI_r (by decide), gI_r (by decide)]; exact q35
      · rw [gI_r (by decide), gI_eq]; rfl
    | some j' =>
      have hj' : j' = 0 := wd1x (w := [105, 102]) rfl (by decide) hw
      subst hj'
      rw [hw, if_pos (show (some 0).isSome = true from rfl)] at ce
      rw [if_pos (show (some 0).elim (-1) nI = 0 from rfl)]
      rw [if_pos (show (some 0 : Option Nat) = some 0 from rfl)]
      have w1 := wdO_st hw hp1n wr11
      rw [hsk] at w1
      have l := sk_le (B := B) (wsE_le (B := B) hp1n).2
      have he : CLs B n i 1 (.ok (sk B n (wsE B n p1), c1)) ue := cd.adv (q := sk B n (wsE B n p1)) fe ce (by omega)
      obtain ⟨uf, ef, cf, ff⟩ := cGrp hn 64 3 0 (by decide) (by decide) (by decide) 0 _ _ he.wk
      rw [show mX2_readEither ue 0 = some uf from ef]
      simp only [ob_q, show ∀ (σ : HS) (r i k : Nat) (v : Int32), gR (wI σ r i k v) = gR σ from fun _ _ _ _ _ => rfl, cf.1, nI_1]
      have Ff : LWf i k u uf := Fe.tr ff.lw
      refine ⟨_, rfl, (Ff.w (by decide) (Nat.le_refl k)).w1, gI_eq, ?_⟩
      cases hB : gS B n 64 3 0 (.ok (sk B n (wsE B n p1), c1)) with
      | error e =>
        rw [hB] at cf
        exact (cf.w (by decide)).w1 (by decide)
      | ok qc =>
        obtain ⟨p2, c2⟩ := qc
        rw [hB] at cf
        refine ⟨(cf.w (by decide)).w1 (by decide), ?_, ?_, ?_, ?_⟩
        · rw [gI_r (by decide), gI_r (by decide), ff.1 33 (by decide) (by decide) (by decide)]; exact q33
        · rw [gI_r (by decide), gI_r (by decide), ff.1 34 (by decide) (by decide) (by decide)]; exact q34
        · rw [gI_r (by decide), gI_r (by decide), ff.1 35 (by decide) (by decide) (by decide)]; exact q35
        · rw [gI_r (by decide), gI_eq, show gI uf 1 i 1 = nI c2.length from cf.2.2.1.1]; rfl
def CRw (i : Nat) (R : List LRo) (u : HS) : Prop := gI u 1 i 2 = nI R.length ∧ ∀ z, z < R.length → gI u 33 i z = nI (R.getD z (0, 0, 0, none)).1 ∧ gI u 34 i z = nI (R.getD z (0, 0, 0, none)).2.1 ∧ gI u 35 i z = nI (R.getD z (0, 0, 0, none)).2.2.1 ∧ gI u 36 i z = (R.getD z (0, 0, 0, none)).2.2.2.elim (nI (R.getD z (0, 0, 0, none)).2.2.1) nI
theorem CRw.lc {i : Nat} {R : List LRo} {c : List Int32} {u : HS} (h : CRw i R u) (hR : R.length ≤ 16) (hc : ∀ j, j < c.length → gI u 32 i j = enc (c.getD j 0)) (hr : ∀ r, r ∈ R → rOK c r) (hc4 : c.length ≤ 400) : LC u i (lwOf R c) := by
  refine ⟨hR, h.1, fun k hk => ?_, hc⟩
  have hk : k < R.length := hk
  obtain ⟨a, b, d, e⟩ := h.2 k hk
  refine ⟨a, b, d, ?_⟩
  show gI u 36 i k = if (R.getD k (0, 0, 0, none)).2.2.2.elim (-1) nI = -1 then nI (R.getD k (0, 0, 0, none)).2.2.1 else (R.getD k (0, 0, 0, none)).2.2.2.elim (-1) nI
  have hm : R.getD k (0, 0, 0, none) ∈ R := by
    rw [List.getD_eq_getElem?_getD, List.getElem?_eq_getElem hk, Option.getD_some]
    exact List.getElem_mem hk
  obtain ⟨-, e', h1, h2, h3, -, h5⟩ := hr _ hm
  rw [e]
  rcases h5 with ⟨q1, -⟩ | ⟨q1, -⟩
  · rw [q1]; rfl
  · rw [q1, if_neg (show ¬ (some e').elim (-1) nI = -1 from nI_m1 (by omega))]; rfl
