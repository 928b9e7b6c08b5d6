/-! ===== the other class: sharing out, on ===== -/
theorem MI.cb {M : Ms} {T K : Int} {c : Nat} (hm : MI M T K) (hc : c < 4) : (-1005 ≤ M.2.2.1 c 0 ∧ M.2.2.1 c 0 ≤ 100100000) ∧ (0 ≤ M.2.2.1 c 1 ∧ M.2.2.1 c 1 ≤ 9) := by
  have hs := hm.1
  unfold SI at hs
  by_cases hx : ∃ a, a ∈ M.2.1 ∧ a 4 = c
  · obtain ⟨-, ⟨b, hb, -, hb1⟩, h3, h4⟩ := (hm.2.2.2.2 c hc).1 hx
    have := (hm.2.2.2.1 b hb).2.1
    omega
  · have := (hm.2.2.2.2 c hc).2 (fun a ha h4 => hx ⟨a, ha, h4⟩)
    omega
theorem sp_freeOne {G : Mm} {a : Nat} {f : Ar} {M : Ms} {T K : Int} {Q : dp_Ps} (hV : RV G a f) (hR : RepR f M) (hm : MI M T K)
    (h1 : ∀ c : Nat, (c : Int) < M.1 7 → frC M c → (∀ j : Nat, j < c → ¬ frC M j) → Q (jI (c : Int)) G) (h0 : (∀ j : Nat, (j : Int) < M.1 7 → ¬ frC M j) → Q (jI (-1005)) G) : Sp 94 2 [vR 16 a] G Q := by
  have hs := hm.1
  unfold SI at hs
  have e10 : f 10 = M.1 7 := hR.1.2 10 (by decide) (by decide)
  apply vcX8_freeOne
  have loop : ∀ k c : Nat, k = (M.1 7).toNat - c → c ≤ 4 → (∀ j, j < c → ¬ frC M j) → Wp 94 2 [some (vR 16 a), some (vI (jI (c : Int)))] [] G Q := by
    intro k
    induction k with
    | zero =>
      intro c hk hc4 hno
      apply vcX8_freeOne_2
      rw [hV, e10, jI_le (inR_s (by omega) (by omega)) (inR_n (by omega))]
      exact ⟨fun q => h0 (fun j hj => hno j (by omega)), fun q => by omega⟩
    | succ k ih =>
      intro c hk hc4 hno
      have hc : c < 4 := by omega
      have hb := hm.cb hc
      apply vcX8_freeOne_2
      rw [hV, e10, jI_le (inR_s (by omega) (by omega)) (inR_n (by omega))]
      refine ⟨fun q => by omega, fun _ => ?_⟩
      refine sp_cnt hV hc ?_
      rw [(hR.2.2.1 c hc).1, jI_inj ⟨by omega, by omega⟩ (inR_s (by omega) (by omega)), jI_add, show ((c : Int) + 1) = ((c + 1 : Nat) : Int) by omega]
      refine ⟨fun q => h1 c (by omega) q hno, fun q => ih (c + 1) (by omega) (by omega) (fun j hj => ?_)⟩
      rcases (show j < c ∨ j = c by omega) with g | g
      · exact hno j g
      · rw [g]; exact q
  exact loop _ 0 rfl (by omega) (fun j hj => by omega)
theorem sp_latest {G : Mm} {a : Nat} {f : Ar} {M : Ms} {T K : Int} {Q : dp_Ps} (hV : RV G a f) (hR : RepR f M) (hm : MI M T K)
    (h : ∀ c : Nat, (c : Int) < M.1 7 → (∀ j : Nat, (j : Int) < M.1 7 → M.2.2.1 j 0 ≤ M.2.2.1 c 0) → (∀ j : Nat, j < c → M.2.2.1 j 0 < M.2.2.1 c 0) → Q (jI (c : Int)) G) : Sp 95 3 [vR 16 a] G Q := by
  have hs := hm.1
  unfold SI at hs
  have e10 : f 10 = M.1 7 := hR.1.2 10 (by decide) (by decide)
  apply vcX8_latest
  have loop : ∀ k c w : Nat, k = (M.1 7).toNat - c → c ≤ 4 → w < c → (w : Int) < M.1 7 → (∀ j, j < c → M.2.2.1 j 0 ≤ M.2.2.1 w 0) → (∀ j, j < w → M.2.2.1 j 0 < M.2.2.1 w 0) → Wp 95 4 [some (vR 16 a), some (vI (jI (w : Int))), some (vI (jI (c : Int)))] [] G Q := by
    intro k
    induction k with
    | zero =>
      intro c w hk hc4 hw hw7 h1 h2
      apply vcX8_latest_4
      rw [hV, e10, jI_le (inR_s (by omega) (by omega)) (inR_n (by omega))]
      exact ⟨fun q => h w hw7 (fun j hj => h1 j (by omega)) h2, fun q => by omega⟩
    | succ k ih =>
      intro c w hk hc4 hw hw7 h1 h2
      have hc : c < 4 := by omega
      have hb := hm.cb hc
      have hbw := hm.cb (c := w) (by omega)
      apply vcX8_latest_4
      rw [hV, e10, jI_le (inR_s (by omega) (by omega)) (inR_n (by omega))]
      refine ⟨fun q => by omega, fun _ => ?_⟩
      refine sp_cnt hV hc ?_
      refine sp_cnt hV (by omega) ?_
      rw [(hR.2.2.1 c hc).1, (hR.2.2.1 w (by omega)).1, jI_le ⟨by omega, by omega⟩ ⟨by omega, by omega⟩, jI_add, show ((c : Int) + 1) = ((c + 1 : Nat) : Int) by omega]
      refine ⟨fun q => ih (c + 1) w (by omega) (by omega) (by omega) hw7 (fun j hj => ?_) h2, fun q => ih (c + 1) c (by omega) (by omega) (by omega) (by omega) (fun j hj => ?_) (fun j hj => ?_)⟩
      · rcases (show j < c ∨ j = c by omega) with g | g
        · exact h1 j g
        · rw [g]; exact q
      · rcases (show j < c ∨ j = c by omega) with g | g
        · have := h1 j g; omega
        · rw [g]; exact Int.le_refl _
      · have := h1 j hj; omega
  exact loop _ 1 0 rfl (by omega) (by omega) (by omega) (fun j hj => by rw [show j = 0 by omega]; exact Int.le_refl _) (fun j hj => by omega)
theorem sp_frees {G : Mm} {a c : Nat} {f : Ar} {M : Ms} {T K : Int} {Q : dp_Ps} (hV : RV G a f) (hR : RepR f M) (hB : BI M T K) (hc : c < 4)
    (h : ∀ G' f', RV G' a f' → RO G G' a → RepR f' (mFr M c) → (∀ j, j < M.2.1.length → rA f' j = if rA f j 4 = c then aU (rA f j) 4 (-1005) else rA f j) → Q (jI 0) G') : Sp 96 3 [vR 16 a, vI (jI (c : Int))] G Q := by
  have hs := hB.1
  have hl := hB.2.1
  unfold SI at hs
  apply vcX8_frees
  have loop : ∀ k i : Nat, ∀ (G1 : Mm) (f1 : Ar), k = M.2.1.length - i → i ≤ M.2.1.length → RV G1 a f1 → RO G G1 a → (∀ q, q < 14 ∨ 154 ≤ q → f1 q = f q) → (∀ j, j < i → rA f1 j = if rA f j 4 = c then aU (rA f j) 4 (-1005) else rA f j) → (∀ j, i ≤ j → j < M.2.1.length → rA f1 j = rA f j) →
      Wp 96 2 [some (vR 16 a), some (vI (jI (c : Int))), some (vI (jI (i : Int)))] [] G1 Q := by
    intro k
    induction k with
    | zero =>
      intro i G1 f1 hk hi hV1 hO ho hd hr
      apply vcX8_frees_2
      rw [hV1, ho 2 (by omega), hR.1.1, jI_le (inR_n (by omega)) (inR_n (by omega))]
      refine ⟨fun _ => ?_, fun q => by omega⟩
      simp only [jI_mul, jI_add]
      refine ⟨jI_in (by omega) (by omega) (by omega), ?_⟩
      rintro _ rfl
      refine ⟨jI_in (by omega) (by omega) (by omega), ?_⟩
      rintro _ rfl
      rw [jI_cl (by omega) (by omega), jI_cl (by omega) (by omega), show ((154 : Int) + 2 * (c : Int)).toNat = 154 + 2 * c by omega, show ((154 : Int) + 2 * (c : Int) + 1).toNat = 154 + 2 * c + 1 by omega]
      have hA : RA f1 (uns M.2.1 c) := hR.2.1.map (fun j hj => hd j (by omega)) (fun j hj => by
        have e1 : rA f1 j 0 = f1 (14 + 7 * j) := rA_k (k := 0) (by decide)
        have e2 : rA f j 0 = f (14 + 7 * j) := rA_k (k := 0) (by decide)
        rw [← e1, ← e2, hd j (by omega)]
        exact uns0 (rA f j) 0 (by decide))
      have h1 := hR.al ho hA uns_len
      have h2 := RepR.cm (c := c) (x := -1005) (y := 0) h1 hc (by show (uns M.2.1 c).length ≤ 20; rw [uns_len]; exact hl) hB.l8
      exact h _ _ ((hV1.wr _ _).wr _ _) (hO.tr (RO.wr.tr RO.wr)) h2 (fun j hj => by rw [← hd j (by omega)]; exact rA_eq (fun q hq => by rw [aU_n (by omega), aU_n (by omega)]))
    | succ k ih =>
      intro i G1 f1 hk hi hV1 hO ho hd hr
      have hi1 : i < M.2.1.length := by omega
      have vi := hB.v hR.2.1 hi1
      have e4 : rA f i 4 = f (14 + 7 * i + 4) := rA_k (by decide)
      have e4' : rA f1 i 4 = f1 (14 + 7 * i + 4) := rA_k (by decide)
      have e4'' : f1 (14 + 7 * i + 4) = f (14 + 7 * i + 4) := by rw [← e4', ← e4, hr i (by omega) hi1]
      apply vcX8_frees_2
      rw [hV1, ho 2 (by omega), hR.1.1, jI_le (inR_n (by omega)) (inR_n (by omega))]
      refine ⟨fun q => by omega, fun _ => ?_⟩
      refine sp_of (k := 4) hV1 (by omega) (by decide) ?_
      rw [e4'', jI_inj ⟨by omega, by omega⟩ (inR_n (by omega)), jI_add, show ((i : Int) + 1) = ((i + 1 : Nat) : Int) by omega]
      refine ⟨fun q => ?_, fun q => ?_⟩
      · refine sp_put (k := 4) (x := -1005) hV1 (by omega) (by decide) (fun G2 k1 k2 => ?_)
        refine ih (i + 1) G2 _ (by omega) hi1 k1 (hO.tr k2) (fun r hr2 => by rw [aU_n (by omega)]; exact ho r hr2) (fun j hj => ?_) (fun j h1 h2 => by rw [rA_aUo (by decide) (by omega)]; exact hr j (by omega) h2)
        by_cases hji : j = i
        · rw [hji, rA_aU (by decide), hr i (by omega) hi1, if_pos (by rw [e4]; exact q)]
        · rw [rA_aUo (by decide) hji]; exact hd j (by omega)
      · refine ih (i + 1) G1 f1 (by omega) hi1 hV1 hO ho (fun j hj => ?_) (fun j h1 h2 => hr j (by omega) h2)
        by_cases hji : j = i
        · rw [hji, hr i (by omega) hi1, if_neg (by rw [e4]; exact q)]
        · exact hd j (by omega)
  exact loop _ 0 G f rfl (by omega) hV RO.rf (fun _ _ => rfl) (fun j hj => by omega) (fun _ _ _ => rfl)
theorem RepR.asg {f : Ar} {M : Ms} {i : Nat} {c : Int} (h : RepR f M) (hl : M.2.1.length ≤ 20) (hi : i < M.2.1.length) : RepR (aU f (14 + 7 * i + 4) c) (M.1, asg M.2.1 (rA f i) c, M.2.2.1, M.2.2.2) :=
  h.al (fun k hk => aU_n (by omega)) (h.2.1.set hi (by decide) (by decide)) asg_len
theorem sp_loads {G : Mm} {a c i : Nat} {f : Ar} {M : Ms} {Q : dp_Ps} (hV : RV G a f) (hR : RepR f M) (hl : M.2.1.length ≤ 20) (hl8 : M.2.2.2.length ≤ 8) (hc : c < 4) (hi : i < M.2.1.length)
    (h : ∀ G' f', RV G' a f' → RO G G' a → RepR f' (aU M.1 12 (M.1 12 + 1), asg M.2.1 (rA f i) c, cU M.2.2.1 c (rA f i 1) (M.1 4), M.2.2.2) → Q (jI 0) G') : Sp 97 3 [vR 16 a, vI (jI (c : Int)), vI (jI (i : Int))] G Q := by
  have e12 : f 12 = M.1 4 := hR.1.2 12 (by decide) (by decide)
  have e8 : f 8 = M.1 12 := hR.1.2 8 (by decide) (by decide)
  have e1 : rA f i 1 = f (14 + 7 * i + 1) := rA_k (by decide)
  apply vcX8_loads
  refine sp_put (k := 4) hV (by omega) (by decide) (fun G1 k1 k2 => ?_)
  refine sp_of (k := 1) k1 (by omega) (by decide) ?_
  have h1 := hR.asg (c := (c : Int)) hl hi
  have h2 := h1.cm (c := c) (x := f (14 + 7 * i + 1)) (y := M.1 4) hc (by show (asg _ _ _).length ≤ 20; rw [asg_len]; exact hl) hl8
  have h3 := h2.hd (k := 8) (x := M.1 12 + 1) (by decide) (by decide)
  simp only [jI_mul, jI_add]
  refine ⟨jI_in (by omega) (by omega) (by omega), ?_⟩
  rintro _ rfl
  refine ⟨jI_in (by omega) (by omega) (by omega), ?_⟩
  rintro _ rfl _ rfl
  have c0 : (jI ((154 : Int) + 2 * (c : Int))).toNatClampNeg = 154 + 2 * c := by rw [jI_cl (by omega) (by omega)]; omega
  have c1 : (jI ((154 : Int) + 2 * (c : Int) + 1)).toNatClampNeg = 154 + 2 * c + 1 := by rw [jI_cl (by omega) (by omega)]; omega
  rw [c0, c1]
  have z1 : aU f (14 + 7 * i + 4) c (14 + 7 * i + 1) = f (14 + 7 * i + 1) := aU_n (by omega)
  rw [z1]
  have z2 : (wI G1 a (154 + 2 * c) (jI (f (14 + 7 * i + 1)))).1 a 12 = jI (M.1 4) := by rw [wI_n (by omega), k1, aU_n (by omega), e12]
  rw [z2]
  have z3 : (wI (wI G1 a (154 + 2 * c) (jI (f (14 + 7 * i + 1)))) a (154 + 2 * c + 1) (jI (M.1 4))).1 a 8 = jI (M.1 12) := by rw [wI_n (by omega), wI_n (by omega), k1, aU_n (by omega), e8]
  rw [z3, jI_add]
  refine h _ _ (((k1.wr _ _).wr _ _).wr _ _) (k2.tr (RO.wr.tr (RO.wr.tr RO.wr))) ?_
  rw [e1]
  exact h3
theorem aU_aU {a : Ar} {j k : Nat} {x y : Int} (h : j ≠ k) : aU (aU a j x) k y = aU (aU a k y) j x := by
  funext m
  by_cases h1 : m = k
  · rw [h1, aU_s, aU_n (fun q => h q.symm), aU_s]
  · by_cases h2 : m = j
    · rw [h2, aU_n h, aU_s, aU_s]
    · rw [aU_n h1, aU_n h2, aU_n h2, aU_n h1]
theorem cU_cU {C : Nat → Nat → Int} {c : Nat} {x y z w : Int} : cU (cU C c x y) c z w = cU C c z w := by
  funext j
  by_cases h : j = c
  · rw [h]; funext k; unfold cU; rw [if_pos rfl, if_pos rfl]
  · rw [cU_n h, cU_n h, cU_n h]
theorem sp_isShared {G : Mm} {a i : Nat} {f : Ar} {M : Ms} {T K : Int} {Q : dp_Ps} (hV : RV G a f) (hR : RepR f M) (hm : MI M T K) (hi : i < M.2.1.length) (hf : fstA M.2.1 (-1005) (rA f i))
    (h1 : ∀ G' f' M', RV G' a f' → RO G G' a → RepR f' M' → turn M M' → Q (jI 1) G') (h0 : stk M → Q (jI 0) G) : Sp 98 4 [vR 16 a, vI (jI (i : Int))] G Q := by
  have hs := hm.1
  have hl := hm.2.1
  have hn := hm.2.2.1
  have hB := hm.B
  have hl8 := hB.l8
  have vi := hB.v hR.2.1 hi
  have i5 : inR (-1005) := inR_s (by omega) (by omega)
  have e1 : rA f i 1 = f (14 + 7 * i + 1) := rA_k (by decide)
  have haL := hf.1
  have ha4 := hf.2.1
  unfold SI at hs
  apply vcX8_isShared
  refine sp_of (k := 1) hV (by omega) (by decide) ?_
  rw [← e1] at vi ⊢
  refine sp_joinable hV hR hm (by omega) (fun c hc7 hj hno => ?_) (fun hno => ?_)
  · -- it joins c
    rw [jI_inj (inR_n (by omega)) i5]
    refine ⟨fun q => by omega, fun _ => ?_⟩
    have hc : c < 4 := by omega
    refine sp_put (k := 4) (x := (c : Int)) hV (by omega) (by decide) (fun G1 k1 k2 => ?_)
    have hR1 := hR.asg (c := (c : Int)) hl hi
    have hB1 : BI (M.1, asg M.2.1 (rA f i) c, M.2.2.1, M.2.2.2) T K := ⟨hm.1, by show (asg _ _ _).length ≤ 20; rw [asg_len]; exact hl, asg_NI hn, AI_asg (M := M) rfl rfl hc7 hm.2.2.2.1⟩
    obtain ⟨g1, ⟨b, hb, hb4, hb1⟩, -⟩ := (hm.2.2.2.2 c hc).1 (CI_has (hm.2.2.2.2 c hc) hj.1)
    refine sp_max k1 hR1.1.1 hR1.2.1 hB1 (inR_n (by omega)) (by omega) (fun m hm0 hm1 hm2 hm3 => ?_)
    simp only [jI_mul, jI_add]
    refine ⟨jI_in (by omega) (by omega) (by omega), ?_⟩
    rintro _ rfl
    have c0 : (jI ((154 : Int) + 2 * (c : Int))).toNatClampNeg = 154 + 2 * c := by rw [jI_cl (by omega) (by omega)]; omega
    rw [c0]
    have em : m = max (M.2.2.1 c 0) (rA f i 1) := by
      have q1 := hm2 b (asg_o hb (fun q => by have := hn.inj hb haL q; rw [this, ha4] at hb4; omega)) hb4
      rcases hm3 with q | ⟨x, hx, hx4, hx1⟩
      · omega
      · obtain ⟨d, hd, hk, g⟩ := asg_in hx
        rw [hk 1 (by decide)] at hx1
        rcases g with ⟨g0, -⟩ | ⟨-, g⟩
        · rw [hn.inj hd haL g0] at hx1; omega
        · rw [g] at hx4
          have := g1 d hd hx4
          omega
    have h2 := hR1.cm (c := c) (x := m) (y := M.2.2.1 c 1) hc hB1.2.1 hl8
    have e2 : aU (aU (aU f (14 + 7 * i + 4) (c : Int)) (154 + 2 * c) m) (154 + 2 * c + 1) (M.2.2.1 c 1) = aU (aU f (14 + 7 * i + 4) (c : Int)) (154 + 2 * c) m := by
      have := (hR.2.2.1 c hc).2
      rw [← this]
      have e3 : f (154 + 2 * c + 1) = aU (aU f (14 + 7 * i + 4) (c : Int)) (154 + 2 * c) m (154 + 2 * c + 1) := by rw [aU_n (by omega), aU_n (by omega)]
      rw [e3, aU_id]
    rw [e2] at h2
    refine h1 _ _ _ (k1.wr (154 + 2 * c) m) (k2.tr RO.wr) h2 ⟨_, hf, Or.inl ⟨c, hc7, hj, hno, ?_⟩⟩
    rw [em]
  · rw [jI_inj i5 i5]
    refine ⟨fun _ => ?_, fun q => absurd rfl q⟩
    refine sp_freeOne hV hR hm (fun c hc7 hfr hnf => ?_) (fun hnf => ?_)
    · rw [jI_inj (inR_n (by omega)) i5]
      refine ⟨fun q => by omega, fun _ => ?_⟩
      exact sp_loads hV hR hl hl8 (by omega) hi (fun G1 f1 k1 k2 k3 => h1 G1 f1 _ k1 k2 k3 ⟨_, hf, Or.inr (Or.inl ⟨c, hc7, hno, hfr, hnf, rfl⟩)⟩)
    · rw [jI_inj i5 i5]
      refine ⟨fun _ => ?_, fun q => absurd rfl q⟩
      refine sp_latest hV hR hm (fun c hc7 hge hlt => ?_)
      have hc : c < 4 := by omega
      have hcb := hm.cb hc
      refine sp_cnt hV hc ?_
      rw [(hR.2.2.1 c hc).1, jI_lt ⟨by omega, by omega⟩ ⟨by omega, by omega⟩]
      refine ⟨fun q => ?_, fun q => h0 (Or.inr ⟨_, hf, hno, hnf, fun j hj => by have := hge j hj; omega⟩)⟩
      refine sp_frees hV hR hB hc (fun G1 f1 k1 k2 k3 k4 => ?_)
      have e9 : f1 9 = M.1 13 := k3.1.2 9 (by decide) (by decide)
      rintro _ rfl
      rw [k1, e9, jI_add]
      have h3 := k3.hd (k := 9) (x := M.1 13 + 1) (by decide) (by decide)
      have hlu : (uns M.2.1 c).length = M.2.1.length := uns_len
      refine sp_loads (k1.wr 9 (M.1 13 + 1)) h3 (by show (uns _ _).length ≤ 20; omega) hl8 hc (i := i) (by show i < (uns _ _).length; omega) (fun G2 f2 k5 k6 k7 => ?_)
      have er : rA (aU f1 9 (M.1 13 + 1)) i = rA f i := by
        rw [rA_eq (f := f1) (fun k hk => aU_n (by omega)), k4 i hi, if_neg (by rw [ha4]; omega)]
      rw [er] at k7
      refine h1 G2 f2 _ k5 (k2.tr (RO.wr.tr k6)) k7 ⟨_, hf, Or.inr (Or.inr ⟨c, hc7, hno, hnf, hge, hlt, q, ?_⟩)⟩
      show (aU (aU M.1 13 (M.1 13 + 1)) 12 (aU M.1 13 (M.1 13 + 1) 12 + 1), asg (uns M.2.1 c) (rA f i) c, cU (cU M.2.2.1 c (-1005) 0) c (rA f i 1) (aU M.1 13 (M.1 13 + 1) 4), M.2.2.2) = _
      rw [cU_cU, aU_n (show 12 ≠ 13 by decide), aU_n (show 4 ≠ 13 by decide), aU_aU (show 13 ≠ 12 by decide)]
theorem sp_shares {G : Mm} {a : Nat} {f : Ar} {M : Ms} {T K : Int} {Q : dp_Ps} (hV : RV G a f) (hR : RepR f M) (hm : MI M T K)
    (h : ∀ G' f' M', RV G' a f' → RO G G' a → shr M M' → RepR f' M' → MI M' T K → Q (jI 0) G') : Sp 99 2 [vR 16 a] G Q := by
  have i5 : inR (-1005) := inR_s (by omega) (by omega)
  apply vcX8_shares
  have key : ∀ m : Nat, ∀ (G1 : Mm) (f1 : Ar) (M1 : Ms), mu M1 < m → RV G1 a f1 → RO G G1 a → RepR f1 M1 → MI M1 T K → (∀ M', shr M1 M' → shr M M') → Sp 87 4 [vR 16 a, vI (jI (-1005))] G1 (fun y1 G2 => Wp 99 8 [some (vR 16 a), some (vI y1)] [] G2 Q) := by
    intro m
    induction m with
    | zero => intro G1 f1 M1 hmu; omega
    | succ m ih =>
      intro G1 f1 M1 hmu hV1 hO hR1 hm1 hsh
      have hl := hm1.2.1
      have done : stk M1 → Wp 99 8 [some (vR 16 a), some (vI (jI (-1005)))] [] G1 Q := by
        intro hst
        apply vcX8_shares_8
        exact ⟨fun _ => h G1 f1 M1 hV1 hO (hsh M1 ⟨0, rfl, hst⟩) hR1 hm1, fun q => absurd rfl q⟩
      refine sp_first hV1 hR1.1.1 hR1.2.1 hm1.B i5 (fun hno => done (Or.inl hno)) (fun i hi hf => ?_)
      apply vcX8_shares_8
      rw [jI_inj (inR_n (by omega)) i5]
      refine ⟨fun q => by omega, fun _ => ?_⟩
      refine sp_isShared hV1 hR1 hm1 hi hf (fun G2 f2 M2 k1 k2 k3 k4 => ⟨fun q => absurd q (by decide), fun _ => ?_⟩) (fun hst => ⟨fun _ => done hst, fun q => absurd rfl q⟩)
      exact ih G2 f2 M2 (by have := turn_mu hm1 k4; omega) k1 (hO.tr k2) k3 (turn_MI hm1 k4) (fun M' g => hsh M' (shr_turn k4 g))
  exact key (mu M + 1) G f M (by omega) hV RO.rf hR hm (fun _ g => g)
