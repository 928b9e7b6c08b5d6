/-! ===== a chip is copied; has it rung ===== -/
/-- the numbers that count are the same -/
def eqC (v w : Nat → Nat → Int) (n : Nat) : Prop := (∀ k, k < 8 → v 0 k = w 0 k) ∧ (∀ i, i < n → ∀ k, k < 8 → v (2 + i) k = w (2 + i) k) ∧ (∀ c, c < 4 → ∀ k, k < 4 → v (23 + c) k = w (23 + c) k) ∧ (∀ k, k < 6 → v 27 k = w 27 k) ∧ v 28 1 = w 28 1 ∧ ∀ k, k < 32 → v 29 k = w 29 k
theorem rc7_eq {a b : Nat → Int} (h : ∀ k, k < 8 → a k = b k) : rc7 a = rc7 b := by
  funext k
  unfold rc7
  by_cases hk : k < 7
  · rw [if_pos hk, if_pos hk]; exact h k (by omega)
  · rw [if_neg hk, if_neg hk]
theorem RepC.cpy {v w : Nat → Nat → Int} {M : Ms} (h : RepC w M) (he : eqC v w M.2.1.length) : RepC v M := by
  obtain ⟨hsc, hpm, hsr, hcm, hlg⟩ := h
  obtain ⟨e0, ea, ec, e27, e28, e29⟩ := he
  refine ⟨⟨by rw [e0 5 (by decide)]; exact hsc.1, fun k hk hk5 => by rw [e0 k hk]; exact hsc.2.1 k hk hk5, fun k hk => by rw [e27 k hk]; exact hsc.2.2.1 k hk, by rw [e28]; exact hsc.2.2.2⟩, ⟨?_, fun i hi => by rw [ea i hi 7 (by decide)]; exact hpm.2 i hi⟩, fun i j hij hj => ?_, fun c hc => ?_, fun j e hj q hq => ?_⟩
  · have : (FL v M.2.1.length).map rc7 = (FL w M.2.1.length).map rc7 := by
      unfold FL
      rw [List.map_map, List.map_map]
      apply List.map_congr_left
      intro i hi
      exact rc7_eq (ea i (List.mem_range.mp hi))
    rw [this]; exact hpm.1
  · rw [← bef_rc, rc7_eq (ea i (by omega)), rc7_eq (ea j hj), bef_rc]
    exact hsr i j hij hj
  · have h1 := hcm c hc
    unfold cmp at h1 ⊢
    rw [ec c hc 0 (by decide), ec c hc 1 (by decide), ec c hc 2 (by decide), ec c hc 3 (by decide)]
    exact ⟨h1.1, fun q k hk => by rw [ec c hc k hk]; exact h1.2 q k hk⟩
  · rw [e28, e29 _ (by omega)]
    exact hlg j e hj q hq
theorem lt8 {k : Nat} (h : k < 8) : k = 0 ∨ k = 1 ∨ k = 2 ∨ k = 3 ∨ k = 4 ∨ k = 5 ∨ k = 6 ∨ k = 7 := by omega
theorem sp_copy {G : Mm} {b b1 n : Nat} {v w : Nat → Nat → Int} {Q : dp_Ps} (hc : CV G b v) (hd : CV G b1 w) (ho : b1 + 30 ≤ b ∨ b + 30 ≤ b1) (hn : w 0 5 = (n : Int)) (hn20 : n ≤ 20) (h7 : ∀ i, i < n → w (2 + i) 7 = 0)
    (h : ∀ G' v', CV G' b v' → FR b 30 G G' → eqC v' w n → Q (jI 0) G') : Sp 12 3 [vR 2 b, vR 2 b1] G Q := by
  have hsrc : ∀ G', FR b 30 G G' → CV G' b1 w := fun G' hf => hd.off hf ho
  have e : ∀ G', FR b 30 G G' → ∀ k, G'.1 b1 k = jI (w 0 k) := fun G' hf k => (hsrc G' hf).f k
  -- the comparers, totals and log
  have cl : ∀ m c : Nat, ∀ (G1 : Mm) (v1 : Nat → Nat → Int), 4 - c < m → c ≤ 4 → CV G1 b v1 → FR b 30 G G1 → (∀ k, k < 8 → v1 0 k = w 0 k) → (∀ i, i < n → ∀ k, k < 8 → v1 (2 + i) k = w (2 + i) k) → (∀ d, d < c → ∀ k, k < 4 → v1 (23 + d) k = w (23 + d) k) →
      Wp 12 97 [some (vR 2 b), some (vR 2 b1), some (vI (jI (c : Int)))] [] G1 Q := by
    intro m
    induction m with
    | zero => intro c G1 v1 hm; omega
    | succ m ih =>
      intro c G1 v1 hm hc4 hc1 hf1 h0 ha hcm
      have hd1 := hsrc G1 hf1
      apply vcX2_copyFrom_97
      rw [jI_le (inR_s (by omega) (by omega)) (inR_n (by omega))]
      refine ⟨fun q => ?_, fun q => ⟨jI_in (by omega) (by omega) (by omega), jI_in (by omega) (by omega) (by omega), ?_⟩⟩
      · rw [hc1.r10, hd1.r10]
        refine sp_tcopy hc1 (fun k => hd1.to k) (by omega) (fun G2 k1 k2 k3 => ?_)
        rw [k1.r11, (hsrc G2 (hf1.tr k2)).r11]
        refine sp_lcopy k1 (hsrc G2 (hf1.tr k2)) ho (fun G3 k4 k5 k6 => ?_)
        refine h G3 _ k4 ((hf1.tr k2).tr k5) ⟨fun k hk => ?_, fun i hi k hk => ?_, fun d hd4 k hk => ?_, fun k hk => ?_, ?_, fun k hk => ?_⟩
        · rw [v2_n (by omega)]
          show (if 0 = 29 ∧ k < 32 then w 29 k else _) = _
          rw [if_neg (by omega), v2_n (by omega), v2_n (by omega), v2_n (by omega), v2_n (by omega), v2_n (by omega), v2_n (by omega)]
          exact h0 k hk
        · rw [v2_n (by omega)]
          show (if 2 + i = 29 ∧ k < 32 then w 29 k else _) = _
          rw [if_neg (by omega), v2_n (by omega), v2_n (by omega), v2_n (by omega), v2_n (by omega), v2_n (by omega), v2_n (by omega)]
          exact ha i hi k hk
        · rw [v2_n (by omega)]
          show (if 23 + d = 29 ∧ k < 32 then w 29 k else _) = _
          rw [if_neg (by omega), v2_n (by omega), v2_n (by omega), v2_n (by omega), v2_n (by omega), v2_n (by omega), v2_n (by omega)]
          exact hcm d (by omega) k hk
        · rw [v2_n (by omega)]
          show (if 27 = 29 ∧ k < 32 then w 29 k else _) = _
          rw [if_neg (by omega)]
          rcases (show k = 0 ∨ k = 1 ∨ k = 2 ∨ k = 3 ∨ k = 4 ∨ k = 5 by omega) with rfl | rfl | rfl | rfl | rfl | rfl <;> simp [v2]
        · rw [v2_s]
        · rw [v2_n (by omega)]
          show (if 29 = 29 ∧ k < 32 then w 29 k else _) = _
          rw [if_pos ⟨rfl, hk⟩]
      · rw [hc1.r9, hd1.r9, jI_cln (by omega), hc1.rc (by omega), hd1.rc (by omega), jI_add]
        refine sp_ccopy hc1 (by omega) (fun k => hd1.co (by omega) k) (by omega) (fun G2 k1 k2 k3 => ?_)
        refine ih (c + 1) G2 _ (by omega) (by omega) k1 (hf1.tr k2) (fun k hk => ?_) (fun i hi k hk => ?_) (fun d hdc k hk => ?_)
        · rw [v2_n (by omega), v2_n (by omega), v2_n (by omega), v2_n (by omega)]; exact h0 k hk
        · rw [v2_n (by omega), v2_n (by omega), v2_n (by omega), v2_n (by omega)]; exact ha i hi k hk
        · by_cases hd : d = c
          · subst hd
            rcases (show k = 0 ∨ k = 1 ∨ k = 2 ∨ k = 3 by omega) with rfl | rfl | rfl | rfl <;> simp [v2]
          · rw [v2_n (by omega), v2_n (by omega), v2_n (by omega), v2_n (by omega)]; exact hcm d (by omega) k hk
  -- the alarms
  have al : ∀ m i : Nat, ∀ (G1 : Mm) (v1 : Nat → Nat → Int), n - i < m → i ≤ n → CV G1 b v1 → FR b 30 G G1 → (∀ k, k < 8 → v1 0 k = w 0 k) → (∀ j, j < i → ∀ k, k < 8 → v1 (2 + j) k = w (2 + j) k) →
      Wp 12 66 [some (vR 2 b), some (vR 2 b1), some (vI (jI (i : Int)))] [] G1 Q := by
    intro m
    induction m with
    | zero => intro i G1 v1 hm; omega
    | succ m ih =>
      intro i G1 v1 hm hin hc1 hf1 h0 ha
      have hd1 := hsrc G1 hf1
      apply vcX2_copyFrom_66
      rw [hc1.f, h0 5 (by decide), hn, jI_le (inR_n (by omega)) (inR_n (by omega))]
      refine ⟨fun q => ?_, fun q => ⟨jI_in (by omega) (by omega) (by omega), jI_in (by omega) (by omega) (by omega), ?_⟩⟩
      · exact cl 5 0 G1 v1 (by omega) (by omega) hc1 hf1 h0 (fun j hj => ha j (by omega)) (fun d hd => by omega)
      · have hr := hd1.ra (i := i) (by omega)
        rw [hc1.r8, hd1.r8, jI_cln (by omega), jI_add]
        refine sp_acopy hc1 (by omega) (fun k => hd1.al (by omega) k) (Or.inl (h7 i (by omega))) (by omega) (fun G2 k1 k2 k3 => ?_)
        refine ih (i + 1) G2 _ (by omega) (by omega) k1 (hf1.tr k2) (fun k hk => ?_) (fun j hj k hk => ?_)
        · rw [v2_n (by omega), v2_n (by omega), v2_n (by omega), v2_n (by omega), v2_n (by omega), v2_n (by omega), v2_n (by omega), v2_n (by omega)]; exact h0 k hk
        · by_cases hji : j = i
          · subst hji
            rcases lt8 hk with rfl | rfl | rfl | rfl | rfl | rfl | rfl | rfl <;> simp [v2]
          · rw [v2_n (by omega), v2_n (by omega), v2_n (by omega), v2_n (by omega), v2_n (by omega), v2_n (by omega), v2_n (by omega), v2_n (by omega)]; exact ha j (by omega) k hk
  apply vcX2_copyFrom
  have hr : b ≤ b ∧ b < b + 30 := by omega
  rintro _ rfl _ rfl _ rfl _ rfl _ rfl _ rfl _ rfl _ rfl
  have r1 := FR.wI (G := G) (k := 0) (x := G.1 b1 0) hr
  rw [hd.f 0] at r1 ⊢
  have r2 := r1.tr (FR.wI (k := 1) (x := jI (w 0 1)) hr)
  rw [e _ r1 1]
  have r3 := r2.tr (FR.wI (k := 2) (x := jI (w 0 2)) hr)
  rw [e _ r2 2]
  have r4 := r3.tr (FR.wI (k := 3) (x := jI (w 0 3)) hr)
  rw [e _ r3 3]
  have r5 := r4.tr (FR.wI (k := 4) (x := jI (w 0 4)) hr)
  rw [e _ r4 4]
  have r6 := r5.tr (FR.wI (k := 5) (x := jI (w 0 5)) hr)
  rw [e _ r5 5]
  have r7 := r6.tr (FR.wI (k := 6) (x := jI (w 0 6)) hr)
  rw [e _ r6 6]
  have r8 := r7.tr (FR.wI (k := 7) (x := jI (w 0 7)) hr)
  rw [e _ r7 7]
  refine al (n + 1) 0 _ _ (by omega) (by omega) ((((((((hc.wf 0 (w 0 0)).wf 1 (w 0 1)).wf 2 (w 0 2)).wf 3 (w 0 3)).wf 4 (w 0 4)).wf 5 (w 0 5)).wf 6 (w 0 6)).wf 7 (w 0 7)) r8 (fun k hk => ?_) (fun j hj => by omega)
  rcases lt8 hk with rfl | rfl | rfl | rfl | rfl | rfl | rfl | rfl <;> simp [v2]
theorem sp_copyM {G : Mm} {b b1 : Nat} {v w : Nat → Nat → Int} {M : Ms} {Q : dp_Ps} (hc : CV G b v) (hd : CV G b1 w) (ho : b1 + 30 ≤ b ∨ b + 30 ≤ b1) (hR : RepC w M) (hl : M.2.1.length ≤ 20)
    (h : ∀ G' v', CV G' b v' → FR b 30 G G' → RepC v' M → Q (jI 0) G') : Sp 12 3 [vR 2 b, vR 2 b1] G Q :=
  sp_copy hc hd ho hR.1.1 hl hR.2.1.2 (fun G' v' h1 h2 h3 => h G' v' h1 h2 (hR.cpy h3))
/-- whether alarm x has rung since it had y rings, or is no more -/
theorem sp_rungSince {G : Mm} {b : Nat} {v : Nat → Nat → Int} {M : Ms} {T K x y : Int} {Q : dp_Ps} (hc : CV G b v) (hR : RepC v M) (hm : MI M T K) (hx : inR x) (hy : inR y)
    (h1 : (∀ a, a ∈ M.2.1 → a 0 = x → y < a 5) → Q (jI 1) G) (h0 : (∃ a, a ∈ M.2.1 ∧ a 0 = x ∧ a 5 ≤ y) → Q (jI 0) G) : Sp 15 4 [vR 2 b, vI (jI x), vI (jI y)] G Q := by
  have hl20 := hm.2.1
  have hs := hm.1
  unfold SI at hs
  apply vcX2_hasRungSince
  refine sp_placeOf hc hR.1.1 hl20 hx (fun i hi => (hR.2.1.BR hm i hi).1) (fun hno => ⟨fun _ => h1 (fun a ha h => ?_), fun q => absurd rfl q⟩) (fun i hi hi0 _ => ⟨fun q => ?_, fun _ => ⟨jI_in (by omega) (by omega) (by omega), ?_⟩⟩)
  · obtain ⟨j, hj, rfl⟩ := hR.2.1.mem.mp ha
    rw [rc7_k (by decide)] at h
    exact absurd h (hno j hj)
  · rw [jI_inj (inR_n (by omega)) (inR_s (by omega) (by omega))] at q; omega
  · have ha := AI_v (hR.2.1.AI hm.2.2.2.1 hi)
    rw [hc.r8, jI_cln (by omega), hc.al (by omega), jI_le ⟨by omega, by omega⟩ hy]
    refine ⟨fun q => h0 ⟨_, hR.2.1.at hi, by rw [rc7_k (by decide)]; exact hi0, by rw [rc7_k (by decide)]; exact q⟩, fun q => h1 (fun a ha h => ?_)⟩
    have : a = rc7 (v (2 + i)) := hm.2.2.1.inj ha (hR.2.1.at hi) (by rw [rc7_k (by decide), hi0]; exact h)
    rw [this, rc7_k (by decide)]
    omega

