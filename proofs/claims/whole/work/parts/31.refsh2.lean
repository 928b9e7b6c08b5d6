/-! ===== the other class: sharing out, on ===== -/
theorem MI.cb {M : Ms} {T K : Int} {c : Nat} (hm : MI M T K) (hc : c < 4) : (-1005 ≤ M.2.2.1 c 0 ∧ M.2.2.1 c 0 ≤ 100100000) ∧ (0 ≤ M.2.2.1 c 1 ∧ M.2.2.1 c 1 ≤ 9) := by
  have hs := hm.1
  unfold SI at hs
  by_cases hx : ∃ a, a ∈ M.2.1 ∧ a 4 = c
  · obtain ⟨-, ⟨b, hb, -, hb1⟩, h3, h4⟩ := (hm.2.2.2.2 c hc).1 hx
    have := (hm.2.2.2.1 b hb).2.1
    omega
  · have := (hm.2.2.2.2 c hc).2 (fun a ha h4 => hx ⟨a, ha, h4⟩)
    omega
theorem sp_freeOne {G : Mm} {a : Nat} {f : Ar} {M : Ms} {T K : Int} {Q : dp_Ps} (hV : RV G a f) (hR : RepR f M) (hm : MI M T K)
    (h1 : ∀ c : Nat, (c : Int) < M.1 7 → frC M c → (∀ j : Nat, j < c → ¬ frC M j) → Q (jI (c : Int)) G) (h0 : (∀ j : Nat, (j : Int) < M.1 7 → ¬ frC M j) → Q (jI (-1005)) G) : Sp 94 2 [vR 16 a] G Q := by
  have hs := hm.1
  unfold SI at hs
  have e10 : f 10 = M.1 7 := hR.1.2 10 (by decide) (by decide)
  apply vcX8_freeOne
  have loop : ∀ k c : Nat, k = (M.1 7).toNat - c → c ≤ 4 → (∀ j, j < c → ¬ frC M j) → Wp 94 2 [some (vR 16 a), some (vI (jI (c : Int)))] [] G Q := by
    intro k
    induction k with
    | zero =>
      intro c hk hc4 hno
      apply vcX8_freeOne_2
      rw [hV, e10, jI_le (inR_s (by omega) (by omega)) (inR_n (by omega))]
      exact ⟨fun q => h0 (fun j hj => hno j (by omega)), fun q => by omega⟩
    | succ k ih =>
      intro c hk hc4 hno
      have hc : c < 4 := by omega
      have hb := hm.cb hc
      apply vcX8_freeOne_2
      rw [hV, e10, jI_le (inR_s (by omega) (by omega)) (inR_n (by omega))]
      refine ⟨fun q => by omega, fun _ => ?_⟩
      refine sp_cnt hV hc ?_
      rw [(hR.2.2.1 c hc).1, jI_inj ⟨by omega, by omega⟩ (inR_s (by omega) (by omega)), jI_add, show ((c : Int) + 1) = ((c + 1 : Nat) : Int) by omega]
      refine ⟨fun q => h1 c (by omega) q hno, fun q => ih (c + 1) (by omega) (by omega) (fun j hj => ?_)⟩
      rcases (show j < c ∨ j = c by omega) with g | g
      · exact hno j g
      · rw [g]; exact q
  exact loop _ 0 rfl (by omega) (fun j hj => by omega)
theorem sp_latest {G : Mm} {a : Nat} {f : Ar} {M : Ms} {T K : Int} {Q : dp_Ps} (hV : RV G a f) (hR : RepR f M) (hm : MI M T K)
    (h : ∀ c : Nat, (c : Int) < M.1 7 → (∀ j : Nat, (j : Int) < M.1 7 → M.2.2.1 j 0 ≤ M.2.2.1 c 0) → (∀ j : Nat, j < c → M.2.2.1 j 0 < M.2.2.1 c 0) → Q (jI (c : Int)) G) : Sp 95 3 [vR 16 a] G Q := by
  have hs := hm.1
  unfold SI at hs
  have e10 : f 10 = M.1 7 := hR.1.2 10 (by decide) (by decide)
  apply vcX8_latest
  have loop : ∀ k c w : Nat, k = (M.1 7).toNat - c → c ≤ 4 → w < c → (w : Int) < M.1 7 → (∀ j, j < c → M.2.2.1 j 0 ≤ M.2.2.1 w 0) → (∀ j, j < w → M.2.2.1 j 0 < M.2.2.1 w 0) → Wp 95 4 [some (vR 16 a), some (vI (jI (w : Int))), some (vI (jI (c : Int)))] [] G Q := by
    intro k
    induction k with
    | zero =>
      intro c w hk hc4 hw hw7 h1 h2
      apply vcX8_latest_4
      rw [hV, e10, jI_le (inR_s (by omega) (by omega)) (inR_n (by omega))]
      exact ⟨fun q => h w hw7 (fun j hj => h1 j (by omega)) h2, fun q => by omega⟩
    | succ k ih =>
      intro c w hk hc4 hw hw7 h1 h2
      have hc : c < 4 := by omega
      have hb := hm.cb hc
      have hbw := hm.cb (c := w) (by omega)
      apply vcX8_latest_4
      rw [hV, e10, jI_le (inR_s (by omega) (by omega)) (inR_n (by omega))]
      refine ⟨fun q => by omega, fun _ => ?_⟩
      refine sp_cnt hV hc ?_
      refine sp_cnt hV (by omega) ?_
      rw [(hR.2.2.1 c hc).1, (hR.2.2.1 w (by omega)).1, jI_le ⟨by omega, by omega⟩ ⟨by omega, by omega⟩, jI_add, show ((c : Int) + 1) = ((c + 1 : Nat) : Int) by omega]
      refine ⟨fun q => ih (c + 1) w (by omega) (by omega) (by omega) hw7 (fun j hj => ?_) h2, fun q => ih (c + 1) c (by omega) (by omega) (by omega) (by omega) (fun j hj => ?_) (fun j hj => ?_)⟩
      · rcases (show j < c ∨ j = c by omega) with g | g
        · exact h1 j g
        · rw [g]; exact q
      · rcases (show j < c ∨ j = c by omega) with g | g
        · have := h1 j g; omega
        · rw [g]; exact Int.le_refl _
      · have := h1 j hj; omega
  exact loop _ 1 0 rfl (by omega) (by omega) (by omega) (fun j hj => by rw [show j = 0 by omega]; exact Int.le_refl _) (fun j hj => by omega)
theorem sp_frees {G : Mm} {a c : Nat} {f : Ar} {M : Ms} {T K : Int} {Q : dp_Ps} (hV : RV G a f) (hR : RepR f M) (hB : BI M T K) (hc : c < 4)
    (h : ∀ G' f', RV G' a f' → RO G G' a → RepR f' (mFr M c) → Q (jI 0) G') : Sp 96 3 [vR 16 a, vI (jI (c : Int))] G Q := by
  have hs := hB.1
  have hl := hB.2.1
  unfold SI at hs
  apply vcX8_frees
  have loop : ∀ k i : Nat, ∀ (G1 : Mm) (f1 : Ar), k = M.2.1.length - i → i ≤ M.2.1.length → RV G1 a f1 → RO G G1 a → (∀ q, q < 14 ∨ 154 ≤ q → f1 q = f q) → (∀ j, j < i → rA f1 j = if rA f j 4 = c then aU (rA f j) 4 (-1005) else rA f j) → (∀ j, i ≤ j → j < M.2.1.length → rA f1 j = rA f j) →
      Wp 96 2 [some (vR 16 a), some (vI (jI (c : Int))), some (vI (jI (i : Int)))] [] G1 Q := by
    intro k
    induction k with
    | zero =>
      intro i G1 f1 hk hi hV1 hO ho hd hr
      apply vcX8_frees_2
      rw [hV1, ho 2 (by omega), hR.1.1, jI_le (inR_n (by omega)) (inR_n (by omega))]
      refine ⟨fun _ => ?_, fun q => by omega⟩
      simp only [jI_mul, jI_add]
      refine ⟨jI_in (by omega) (by omega) (by omega), ?_⟩
      rintro _ rfl
      refine ⟨jI_in (by omega) (by omega) (by omega), ?_⟩
      rintro _ rfl
      rw [jI_cl (by omega) (by omega), jI_cl (by omega) (by omega), show ((154 : Int) + 2 * (c : Int)).toNat = 154 + 2 * c by omega, show ((154 : Int) + 2 * (c : Int) + 1).toNat = 154 + 2 * c + 1 by omega]
      have hA : RA f1 (uns M.2.1 c) := hR.2.1.map (fun j hj => hd j (by omega)) (fun j hj => by
        have e1 : rA f1 j 0 = f1 (14 + 7 * j) := rA_k (k := 0) (by decide)
        have e2 : rA f j 0 = f (14 + 7 * j) := rA_k (k := 0) (by decide)
        rw [← e1, ← e2, hd j (by omega)]
        exact uns0 (rA f j) 0 (by decide))
      have h1 := hR.al ho hA uns_len
      have h2 := RepR.cm (c := c) (x := -1005) (y := 0) h1 hc (by show (uns M.2.1 c).length ≤ 20; rw [uns_len]; exact hl) hB.l8
      exact h _ _ ((hV1.wr _ _).wr _ _) (hO.tr (RO.wr.tr RO.wr)) h2
    | succ k ih =>
      intro i G1 f1 hk hi hV1 hO ho hd hr
      have hi1 : i < M.2.1.length := by omega
      have vi := hB.v hR.2.1 hi1
      have e4 : rA f i 4 = f (14 + 7 * i + 4) := rA_k (by decide)
      have e4' : rA f1 i 4 = f1 (14 + 7 * i + 4) := rA_k (by decide)
      have e4'' : f1 (14 + 7 * i + 4) = f (14 + 7 * i + 4) := by rw [← e4', ← e4, hr i (by omega) hi1]
      apply vcX8_frees_2
      rw [hV1, ho 2 (by omega), hR.1.1, jI_le (inR_n (by omega)) (inR_n (by omega))]
      refine ⟨fun q => by omega, fun _ => ?_⟩
      refine sp_of (k := 4) hV1 (by omega) (by decide) ?_
      rw [e4'', jI_inj ⟨by omega, by omega⟩ (inR_n (by omega)), jI_add, show ((i : Int) + 1) = ((i + 1 : Nat) : Int) by omega]
      refine ⟨fun q => ?_, fun q => ?_⟩
      · refine sp_put (k := 4) (x := -1005) hV1 (by omega) (by decide) (fun G2 k1 k2 => ?_)
        refine ih (i + 1) G2 _ (by omega) hi1 k1 (hO.tr k2) (fun r hr2 => by rw [aU_n (by omega)]; exact ho r hr2) (fun j hj => ?_) (fun j h1 h2 => by rw [rA_aUo (by decide) (by omega)]; exact hr j (by omega) h2)
        by_cases hji : j = i
        · rw [hji, rA_aU (by decide), hr i (by omega) hi1, if_pos (by rw [e4]; exact q)]
        · rw [rA_aUo (by decide) hji]; exact hd j (by omega)
      · refine ih (i + 1) G1 f1 (by omega) hi1 hV1 hO ho (fun j hj => ?_) (fun j h1 h2 => hr j (by omega) h2)
        by_cases hji : j = i
        · rw [hji, hr i (by omega) hi1, if_neg (by rw [e4]; exact q)]
        · exact hd j (by omega)
  exact loop _ 0 G f rfl (by omega) hV RO.rf (fun _ _ => rfl) (fun j hj => by omega) (fun _ _ _ => rfl)
theorem RepR.asg {f : Ar} {M : Ms} {i : Nat} {c : Int} (h : RepR f M) (hl : M.2.1.length ≤ 20) (hi : i < M.2.1.length) : RepR (aU f (14 + 7 * i + 4) c) (M.1, asg M.2.1 (rA f i) c, M.2.2.1, M.2.2.2) :=
  h.al (fun k hk => aU_n (by omega)) (h.2.1.set hi (by decide) (by decide)) asg_len
theorem sp_loads {G : Mm} {a c i : Nat} {f : Ar} {M : Ms} {T K : Int} {Q : dp_Ps} (hV : RV G a f) (hR : RepR f M) (hB : BI M T K) (hc : c < 4) (hi : i < M.2.1.length)
    (h : ∀ G' f', RV G' a f' → RO G G' a → RepR f' (aU M.1 12 (M.1 12 + 1), asg M.2.1 (rA f i) c, cU M.2.2.1 c (rA f i 1) (M.1 4), M.2.2.2) → Q (jI 0) G') : Sp 97 3 [vR 16 a, vI (jI (c : Int)), vI (jI (i : Int))] G Q := by
  have hl := hB.2.1
  have e12 : f 12 = M.1 4 := hR.1.2 12 (by decide) (by decide)
  have e8 : f 8 = M.1 12 := hR.1.2 8 (by decide) (by decide)
  have e1 : rA f i 1 = f (14 + 7 * i + 1) := rA_k (by decide)
  apply vcX8_loads
  refine sp_put (k := 4) hV (by omega) (by decide) (fun G1 k1 k2 => ?_)
  refine sp_of (k := 1) k1 (by omega) (by decide) ?_
  have h1 := hR.asg (c := (c : Int)) hl hi
  have h2 := h1.cm (c := c) (x := f (14 + 7 * i + 1)) (y := M.1 4) hc (by show (asg _ _ _).length ≤ 20; rw [asg_len]; exact hl) hB.l8
  have h3 := h2.hd (k := 8) (x := M.1 12 + 1) (by decide) (by decide)
  simp only [jI_mul, jI_add]
  refine ⟨jI_in (by omega) (by omega) (by omega), ?_⟩
  rintro _ rfl
  refine ⟨jI_in (by omega) (by omega) (by omega), ?_⟩
  rintro _ rfl _ rfl
  have c0 : (jI ((154 : Int) + 2 * (c : Int))).toNatClampNeg = 154 + 2 * c := by rw [jI_cl (by omega) (by omega)]; omega
  have c1 : (jI ((154 : Int) + 2 * (c : Int) + 1)).toNatClampNeg = 154 + 2 * c + 1 := by rw [jI_cl (by omega) (by omega)]; omega
  rw [c0, c1]
  have z1 : aU f (14 + 7 * i + 4) c (14 + 7 * i + 1) = f (14 + 7 * i + 1) := aU_n (by omega)
  rw [z1]
  have z2 : (wI G1 a (154 + 2 * c) (jI (f (14 + 7 * i + 1)))).1 a 12 = jI (M.1 4) := by rw [wI_n (by omega), k1, aU_n (by omega), e12]
  rw [z2]
  have z3 : (wI (wI G1 a (154 + 2 * c) (jI (f (14 + 7 * i + 1)))) a (154 + 2 * c + 1) (jI (M.1 4))).1 a 8 = jI (M.1 12) := by rw [wI_n (by omega), wI_n (by omega), k1, aU_n (by omega), e8]
  rw [z3, jI_add]
  refine h _ _ (((k1.wr _ _).wr _ _).wr _ _) (k2.tr (RO.wr.tr (RO.wr.tr RO.wr))) ?_
  rw [e1]
  exact h3
