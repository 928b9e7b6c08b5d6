/-! ===== the other class: an alarm taken off, removed ===== -/
theorem RepR.c1 {f : Ar} {M : Ms} {c : Nat} {x : Int} (h : RepR f M) (hc4 : c < 4) (hl : M.2.1.length ≤ 20) (hl8 : M.2.2.2.length ≤ 8) : RepR (aU f (154 + 2 * c) x) (M.1, M.2.1, cU M.2.2.1 c x (M.2.2.1 c 1), M.2.2.2) := by
  have h2 := h.cm (c := c) (x := x) (y := M.2.2.1 c 1) hc4 hl hl8
  have e2 : aU (aU f (154 + 2 * c) x) (154 + 2 * c + 1) (M.2.2.1 c 1) = aU f (154 + 2 * c) x := by
    rw [← (h.2.2.1 c hc4).2]
    have e3 : f (154 + 2 * c + 1) = aU f (154 + 2 * c) x (154 + 2 * c + 1) := by rw [aU_n (by omega)]
    rw [e3, aU_id]
  rw [e2] at h2
  exact h2
theorem sp_takesOff {G : Mm} {a i : Nat} {f : Ar} {M : Ms} {T K : Int} {Q : dp_Ps} (hV : RV G a f) (hR : RepR f M) (hm : MI M T K) (hi : i < M.2.1.length)
    (h : ∀ G' f', RV G' a f' → RO G G' a → RepR f' (mOff M (rA f i)) → (∀ k, k < 7 → k ≠ 4 → rA f' i k = rA f i k) → Q (jI 0) G') : Sp 100 4 [vR 16 a, vI (jI (i : Int))] G Q := by
  have hs := hm.1
  have hl := hm.2.1
  have hn := hm.2.2.1
  have hB := hm.B
  have hl8 := hB.l8
  have vi := hB.v hR.2.1 hi
  have i5 : inR (-1005) := inR_s (by omega) (by omega)
  have e4 : rA f i 4 = f (14 + 7 * i + 4) := rA_k (by decide)
  have haL := hR.2.1.at hi
  unfold SI at hs
  apply vcX8_takesOff
  refine sp_of (k := 4) hV (by omega) (by decide) ?_
  rw [← e4] at vi ⊢
  rw [jI_inj ⟨by omega, by omega⟩ i5]
  refine ⟨fun q => h G f hV RO.rf (by unfold mOff; rw [cIf_t q]; exact hR) (fun _ _ _ => rfl), fun q => ?_⟩
  obtain ⟨c, hc⟩ : ∃ c : Nat, rA f i 4 = (c : Int) := ⟨(rA f i 4).toNat, by omega⟩
  have hc4 : c < 4 := by omega
  rw [hc]
  refine sp_put (k := 4) (x := -1005) hV (by omega) (by decide) (fun G1 k1 k2 => ?_)
  have hR1 := hR.asg (c := -1005) hl hi
  have hB1 : BI (M.1, asg M.2.1 (rA f i) (-1005), M.2.2.1, M.2.2.2) T K := ⟨hm.1, by show (asg _ _ _).length ≤ 20; rw [asg_len]; exact hl, asg_NI hn, AI_asgN hm.2.2.2.1⟩
  have eO : mOff M (rA f i) = (M.1, asg M.2.1 (rA f i) (-1005), cU M.2.2.1 c (mxT (asg M.2.1 (rA f i) (-1005)) c) (cIf (mxT (asg M.2.1 (rA f i) (-1005)) c = -1005) 0 (M.2.2.1 c 1)), M.2.2.2) := by
    unfold mOff
    rw [cIf_f q, hc]
    rfl
  rw [eO] at h
  refine sp_first k1 hR1.1.1 hR1.2.1 hB1 (inR_n (by omega)) (fun hno => ⟨fun _ => ?_, fun z => absurd rfl z⟩) (fun j hj hfj => ?_)
  · refine sp_frees k1 hR1 hB1 hc4 (fun G2 f2 k3 k4 k5 k6 => ?_)
    have em : mxT (asg M.2.1 (rA f i) (-1005)) c = -1005 := mxT_no hno
    rw [em, cIf_t rfl] at h
    refine h G2 f2 k3 (k2.tr k4) ?_ (fun k hk hk4 => ?_)
    · have e : mFr (M.1, asg M.2.1 (rA f i) (-1005), M.2.2.1, M.2.2.2) c = (M.1, asg M.2.1 (rA f i) (-1005), cU M.2.2.1 c (-1005) 0, M.2.2.2) := by
        unfold mFr
        show (M.1, uns (asg M.2.1 (rA f i) (-1005)) c, _, _) = _
        rw [uns_no hno]
      rw [e] at k5
      exact k5
    · have := k6 i (by show i < (asg _ _ _).length; rw [asg_len]; exact hi)
      rw [this, uns0 _ _ hk4, rA_aU (by decide), aU_n hk4]
  · rw [jI_inj (inR_n (by have := hB1.2.1; omega)) i5]
    refine ⟨fun z => by omega, fun _ => ?_⟩
    have hj20 : j < 20 := by have := hB1.2.1; omega
    have vj := hB1.v hR1.2.1 hj
    refine sp_of (k := 1) k1 (by omega) (by decide) ?_
    refine sp_max k1 hR1.1.1 hR1.2.1 hB1 (inR_n (by omega)) vj.2.1 (fun m hm0 hm1 hm2 hm3 => ?_)
    simp only [jI_mul, jI_add]
    refine ⟨jI_in (by omega) (by omega) (by omega), ?_⟩
    rintro _ rfl
    have c0 : (jI ((154 : Int) + 2 * (c : Int))).toNatClampNeg = 154 + 2 * c := by rw [jI_cl (by omega) (by omega)]; omega
    rw [c0]
    have hx : ∃ b, b ∈ asg M.2.1 (rA f i) (-1005) ∧ b 4 = c := ⟨_, hfj.1, hfj.2.1⟩
    obtain ⟨z, hz, hz4, hz1⟩ := mxT_at (fun b hb => (hB1.2.2.2 b hb).2.1.1) hx
    have hz1 : z 1 = mxT (asg M.2.1 (rA f i) (-1005)) c := hz1
    have hge := (mxT_ge (L := asg M.2.1 (rA f i) (-1005)) (c := (c : Int))).2
    have em : mxT (asg M.2.1 (rA f i) (-1005)) c = m := by
      have q1 := hm2 z hz hz4
      have q2 : m ≤ mxT (asg M.2.1 (rA f i) (-1005)) c := by
        rcases hm3 with g | ⟨b, g1, g2, g3⟩
        · have := hge _ hfj.1 hfj.2.1
          rw [rA_k (by decide)] at this
          omega
        · have := hge b g1 g2; omega
      omega
    rw [em, cIf_f (by omega)] at h
    refine h _ _ (k1.wr (154 + 2 * c) m) (k2.tr RO.wr) (hR1.c1 hc4 hB1.2.1 hl8) (fun k hk hk4 => ?_)
    rw [rA_eq (f := aU f (14 + 7 * i + 4) (-1005)) (fun r hr => aU_n (by omega)), rA_aU (by decide), aU_n hk4]
theorem RA.rem {f w : Ar} {L : List Ar} {p : Nat} (h : RA f L) (hn : NI L) (hp : p < L.length) (hw : ∀ i, i < L.length - 1 → ∀ k, k < 7 → w (14 + 7 * i + k) = if i < p then f (14 + 7 * i + k) else f (14 + 7 * (i + 1) + k)) : RA w (L.filter (fun b => decide (b 0 ≠ rA f p 0))) := by
  have haL := h.at hp
  have hlen := flt_len hn haL
  have hl1 : (L.filter (fun b => decide (b 0 ≠ rA f p 0))).length = L.length - 1 := by omega
  have hwr : ∀ i, i < L.length - 1 → rA w i = if i < p then rA f i else rA f (i + 1) := by
    intro i hi
    have h1 := hw i hi
    by_cases hip : i < p
    · rw [if_pos hip]; exact rA_eq (fun k hk => by rw [h1 k hk, if_pos hip])
    · rw [if_neg hip]
      funext k
      unfold rA rc7
      by_cases hk : k < 7
      · rw [if_pos hk, if_pos hk]; show w (14 + 7 * i + k) = f (14 + 7 * (i + 1) + k); rw [h1 k hk, if_neg hip]
      · rw [if_neg hk, if_neg hk]
  have e2 : ∀ (g : Ar) (m : Nat), FL (fun j => rA g (j - 2)) m = (List.range m).map (rA g) := by
    intro g m
    unfold FL
    apply List.map_congr_left
    intro j _
    show rA g (2 + j - 2) = _
    rw [Nat.add_sub_cancel_left]
  have hf := FL_rem (v := fun j => rA f (j - 2)) (w := fun j => rA w (j - 2)) hp (fun i hi => by
    simp only [Nat.add_sub_cancel_left]
    exact hwr i hi)
  rw [e2, e2] at hf
  have hf : ((List.range L.length).map (rA f)).Perm (rA f (2 + p - 2) :: (List.range (L.length - 1)).map (rA w)) := hf
  rw [Nat.add_sub_cancel_left] at hf
  refine ⟨?_, fun i j hij hj => ?_⟩
  · rw [hl1]
    have h1 := (hf.symm.trans h.1).filter (fun b => decide (b 0 ≠ rA f p 0))
    rw [List.filter_cons_of_neg (by simp)] at h1
    have e : ((List.range (L.length - 1)).map (rA w)).filter (fun b => decide (b 0 ≠ rA f p 0)) = (List.range (L.length - 1)).map (rA w) := by
      refine List.filter_eq_self.mpr (fun b hb => ?_)
      obtain ⟨i, hi, rfl⟩ := List.mem_map.mp hb
      have hi := List.mem_range.mp hi
      have : rA w i 0 ≠ rA f p 0 := by
        rw [hwr i hi]
        intro q
        split at q
        · have := h.inj (i := i) (by omega) hp q; omega
        · have := h.inj (i := i + 1) (by omega) hp q; omega
      simp only [decide_eq_true_eq]
      exact this
    rw [e] at h1
    exact h1
  · rw [hl1] at hj
    have w0 : ∀ i, i < L.length - 1 → w (14 + 7 * i) = if i < p then f (14 + 7 * i) else f (14 + 7 * (i + 1)) := fun i hi => hw i hi 0 (by decide)
    rw [w0 i (by omega), w0 j hj]
    split
    · split
      · exact h.2 i j hij (by omega)
      · exact h.2 i (j + 1) (by omega) (by omega)
    · split
      · omega
      · exact h.2 (i + 1) (j + 1) (by omega) (by omega)
theorem sp_removes {G : Mm} {a p : Nat} {f : Ar} {M : Ms} {Q : dp_Ps} (hV : RV G a f) (hR : RepR f M) (hn : NI M.2.1) (hl : M.2.1.length ≤ 20) (hp : p < M.2.1.length)
    (h : ∀ G' f', RV G' a f' → RO G G' a → RepR f' (mRem M (rA f p)) → Q (jI 0) G') : Sp 101 3 [vR 16 a, vI (jI (p : Int))] G Q := by
  generalize hnn : M.2.1.length = n at *
  apply vcX8_removes
  rintro _ rfl
  rw [hV, hR.1.1, hnn, jI_sub, jI_mul, show ((n : Int) - 1) = ((n - 1 : Nat) : Int) by omega, show (7 : Int) * (p : Int) = ((7 * p : Nat) : Int) by omega]
  have fin : ∀ k j : Nat, ∀ (G1 : Mm) (f1 : Ar) (w1 : Option Vl), k = 7 - j → j ≤ 7 → RV G1 a f1 → RO G G1 a → f1 2 = ((n - 1 : Nat) : Int) → (∀ q, q ≠ 2 → q < 14 ∨ 154 ≤ q → f1 q = f q) → (∀ i, i < n - 1 → ∀ k, k < 7 → f1 (14 + 7 * i + k) = if i < p then f (14 + 7 * i + k) else f (14 + 7 * (i + 1) + k)) →
      Wp 101 45 [some (vR 16 a), w1, some (vI (jI (j : Int)))] [] G1 Q := by
    intro k
    induction k with
    | zero =>
      intro j G1 f1 w1 hk hj hV1 hO f2 ho ha
      apply vcX8_removes_45
      rw [jI_le (inR_s (by omega) (by omega)) (inR_n (by omega))]
      refine ⟨fun _ => h G1 f1 hV1 hO ?_, fun q => by omega⟩
      have hA := hR.2.1.rem hn (p := p) (w := f1) (by rw [hnn]; exact hp) (by rw [hnn]; exact ha)
      have hlen := flt_len hn (hR.2.1.at (i := p) (by rw [hnn]; exact hp))
      obtain ⟨⟨s2, s0⟩, -, hc, hl2, hlg⟩ := hR
      refine ⟨⟨?_, fun m hm hm2 => by rw [ho m hm2 (by omega)]; exact s0 m hm hm2⟩, hA, fun c hc4 => ?_, by rw [ho 194 (by omega) (by omega)]; exact hl2, fun j e he q hq => by rw [ho _ (by omega) (by omega)]; exact hlg j e he q hq⟩
      · rw [f2]
        show _ = (((M.2.1.filter _).length : Nat) : Int)
        omega
      · rw [ho _ (by omega) (by omega), ho _ (by omega) (by omega)]
        exact hc c hc4
    | succ k ih =>
      intro j G1 f1 w1 hk hj hV1 hO f2 ho ha
      apply vcX8_removes_45
      rw [jI_le (inR_s (by omega) (by omega)) (inR_n (by omega)), hV1, f2]
      simp only [jI_mul, jI_add]
      refine ⟨fun q => by omega, fun _ => ⟨jI_in (by omega) (by omega) (by omega), ?_⟩⟩
      rintro _ rfl
      have c0 : (jI ((14 : Int) + 7 * ((n - 1 : Nat) : Int) + (j : Int))).toNatClampNeg = 14 + 7 * (n - 1) + j := by rw [jI_cl (by omega) (by omega)]; omega
      rw [c0, show ((j : Int) + 1) = ((j + 1 : Nat) : Int) by omega]
      exact ih (j + 1) _ _ w1 (by omega) (by omega) (hV1.wr _ 0) (hO.tr RO.wr) (by rw [aU_n (by omega)]; exact f2) (fun q h1 h2 => by rw [aU_n (by omega)]; exact ho q h1 h2) (fun i hi r hr => by rw [aU_n (by omega)]; exact ha i hi r hr)
  have loop : ∀ k x : Nat, ∀ (G1 : Mm) (f1 : Ar) (w1 : Option Vl), k = 7 * (n - 1) - x → 7 * p ≤ x → x ≤ 7 * (n - 1) → RV G1 a f1 → RO G G1 a → f1 2 = ((n - 1 : Nat) : Int) → (∀ q, q ≠ 2 → q < 14 ∨ 154 ≤ q → f1 q = f q) → (∀ q, q < 7 * n → f1 (14 + q) = if 7 * p ≤ q ∧ q < x then f (14 + q + 7) else f (14 + q)) →
      Wp 101 12 [some (vR 16 a), w1, some (vI (jI (x : Int)))] [] G1 Q := by
    intro k
    induction k with
    | zero =>
      intro x G1 f1 w1 hk hpx hx hV1 hO f2 ho ha
      apply vcX8_removes_12
      rw [hV1, f2, jI_mul, jI_le ⟨by omega, by omega⟩ (inR_n (by omega))]
      refine ⟨fun _ => fin 7 0 G1 f1 w1 (by omega) (by omega) hV1 hO f2 ho (fun i hi r hr => ?_), fun q => by omega⟩
      rw [show 14 + 7 * i + r = 14 + (7 * i + r) by omega, ha _ (by omega)]
      by_cases hip : i < p
      · rw [if_neg (by omega), if_pos hip]
      · rw [if_pos (by omega), if_neg hip, show 14 + (7 * i + r) + 7 = 14 + 7 * (i + 1) + r by omega]
    | succ k ih =>
      intro x G1 f1 w1 hk hpx hx hV1 hO f2 ho ha
      apply vcX8_removes_12
      rw [hV1, f2]
      simp only [jI_mul, jI_add]
      rw [jI_le ⟨by omega, by omega⟩ (inR_n (by omega))]
      refine ⟨fun q => by omega, fun _ => ⟨jI_in (by omega) (by omega) (by omega), jI_in (by omega) (by omega) (by omega), ?_⟩⟩
      rintro _ rfl
      have c0 : (jI ((14 : Int) + (x : Int))).toNatClampNeg = 14 + x := by rw [jI_cl (by omega) (by omega)]; omega
      have c1 : (jI ((14 : Int) + (x : Int) + 7)).toNatClampNeg = 14 + x + 7 := by rw [jI_cl (by omega) (by omega)]; omega
      rw [c0, c1, hV1, show ((x : Int) + 1) = ((x + 1 : Nat) : Int) by omega]
      have ev : f1 (14 + x + 7) = f (14 + x + 7) := by
        rw [show 14 + x + 7 = 14 + (x + 7) by omega, ha _ (by omega), if_neg (by omega)]
      rw [ev]
      refine ih (x + 1) _ _ w1 (by omega) (by omega) (by omega) (hV1.wr _ _) (hO.tr RO.wr) (by rw [aU_n (by omega)]; exact f2) (fun q h1 h2 => by rw [aU_n (by omega)]; exact ho q h1 h2) (fun q hq => ?_)
      by_cases hqx : q = x
      · rw [hqx, aU_s, if_pos (by omega)]
      · rw [aU_n (by omega), ha q hq]
        by_cases hc : 7 * p ≤ q ∧ q < x
        · rw [if_pos hc, if_pos (by omega)]
        · rw [if_neg hc, if_neg (by omega)]
  refine loop _ (7 * p) _ _ _ rfl (Nat.le_refl _) (by omega) (hV.wr 2 _) RO.wr (aU_s _ _ _) (fun q h1 h2 => aU_n h1) (fun q hq => ?_)
  rw [aU_n (by omega), if_neg (by omega)]
